/-! WINDINGS: a state's rows as they change -/
def clamp (t : Int32) : Int32 := if 0 < (if t < 40 then t else 40) then (if t < 40 then t else 40) else 0
def gvn (ki : Nat → Int32) (w : Nat) (t : Int32) : Int32 := if ki w = 2 then clamp t / 2 else clamp t
/-- the law of a land, whatever lay in its row of values -/
def LWok (F : FT) (l N : Nat) (LW : Int32 → Int32 → Int32 → Int32 → Int32) : Prop := F 9 l 13 = nI N ∧ N ≤ 1000 ∧ lok (F 17 l) N ∧ ∀ g t m w v0, lres (F 17 l) N g t m w v0 = LW g t m w
/-- hours left, windings by two, snapped, windings, snaps -/
abbrev SV : Type := (Nat → Int32) × ((Nat → Int32) × (Int32 × (Int32 × Int32)))
def sF (F : FT) (n l : Nat) (s : SV) (vs : Nat → Int32) : FT := fun k' n' i' =>
  if k' = 27 ∧ n' = n then s.1 i' else if k' = 28 ∧ n' = n then s.2.1 i' else if k' = 18 ∧ n' = l then vs i'
  else if k' = 25 ∧ n' = n then (if i' = 3 then s.2.2.1 else if i' = 5 then s.2.2.2.1 else if i' = 6 then s.2.2.2.2 else F k' n' i') else F k' n' i'
abbrev svF (F : FT) (n : Nat) : SV := (F 27 n, F 28 n, F 25 n 3, F 25 n 5, F 25 n 6)
section SX
variable {F : FT} {n l : Nat} {lf wd vs : Nat → Int32} {sn wi sp v : Int32} {i : Nat}
theorem sF_id : sF F n l (svF F n) (F 18 l) = F := by
  funext k' n' i'
  simp only [sF]
  split
  · rename_i h; rw [h.1, h.2]
  · split
    · rename_i h; rw [h.1, h.2]
    · split
      · rename_i h; rw [h.1, h.2]
      · split
        · rename_i h
          split
          · rename_i h2; rw [h.1, h.2, h2]
          · split
            · rename_i h2; rw [h.1, h.2, h2]
            · split
              · rename_i h2; rw [h.1, h.2, h2]
              · rfl
        · rfl
theorem sF_27 : uF (sF F n l (lf, wd, sn, wi, sp) vs) 27 n i v = sF F n l (upd lf i v, wd, sn, wi, sp) vs := by
  funext k' n' i'
  simp only [uF, sF, upd]
  by_cases h : k' = 27 ∧ n' = n
  · obtain ⟨rfl, rfl⟩ := h
    simp
  · simp only [h, if_false]
    rw [if_neg (fun q => h ⟨q.1, q.2.1⟩)]
theorem sF_28 : uF (sF F n l (lf, wd, sn, wi, sp) vs) 28 n i v = sF F n l (lf, upd wd i v, sn, wi, sp) vs := by
  funext k' n' i'
  simp only [uF, sF, upd]
  by_cases h : k' = 28 ∧ n' = n
  · obtain ⟨rfl, rfl⟩ := h
    simp
  · simp only [h, if_false]
    rw [if_neg (fun q => h ⟨q.1, q.2.1⟩)]
theorem sF_18 {vs2 : Nat → Int32} : srow (sF F n l (lf, wd, sn, wi, sp) vs) 18 l vs2 = sF F n l (lf, wd, sn, wi, sp) vs2 := by
  funext k' n' i'
  simp only [srow, sF]
  by_cases h : k' = 18 ∧ n' = l
  · obtain ⟨rfl, rfl⟩ := h
    simp
  · simp only [h, if_false]
theorem sF_3 : uF (sF F n l (lf, wd, sn, wi, sp) vs) 25 n 3 v = sF F n l (lf, wd, v, wi, sp) vs := by
  funext k' n' i'
  simp only [uF, sF]
  by_cases h : k' = 25 ∧ n' = n
  · obtain ⟨rfl, rfl⟩ := h
    by_cases h2 : i' = 3 <;> simp [h2]
  · rw [if_neg (fun q => h ⟨q.1, q.2.1⟩)]
    simp only [h, if_false]
theorem sF_5 : uF (sF F n l (lf, wd, sn, wi, sp) vs) 25 n 5 v = sF F n l (lf, wd, sn, v, sp) vs := by
  funext k' n' i'
  simp only [uF, sF]
  by_cases h : k' = 25 ∧ n' = n
  · obtain ⟨rfl, rfl⟩ := h
    by_cases h2 : i' = 5 <;> simp [h2]
  · rw [if_neg (fun q => h ⟨q.1, q.2.1⟩)]
    simp only [h, if_false]
theorem sF_6 : uF (sF F n l (lf, wd, sn, wi, sp) vs) 25 n 6 v = sF F n l (lf, wd, sn, wi, v) vs := by
  funext k' n' i'
  simp only [uF, sF]
  by_cases h : k' = 25 ∧ n' = n
  · obtain ⟨rfl, rfl⟩ := h
    by_cases h2 : i' = 6 <;> simp [h2]
  · rw [if_neg (fun q => h ⟨q.1, q.2.1⟩)]
    simp only [h, if_false]
theorem sr_27 {s : SV} : sF F n l s vs 27 n = s.1 := by funext j; simp [sF]
theorem sr_28 {s : SV} : sF F n l s vs 28 n = s.2.1 := by funext j; simp [sF]
theorem sr_3 {s : SV} : sF F n l s vs 25 n 3 = s.2.2.1 := by simp [sF]
theorem sr_5 {s : SV} : sF F n l s vs 25 n 5 = s.2.2.2.1 := by simp [sF]
theorem sr_6 {s : SV} : sF F n l s vs 25 n 6 = s.2.2.2.2 := by simp [sF]
theorem sr_4 {s : SV} : sF F n l s vs 25 n 4 = F 25 n 4 := by simp [sF]
end SX
section S3
variable {E : EV} {d n x l p q N P : Nat} {F : FT} {G : GT} {b : Bool} {LW : Int32 → Int32 → Int32 → Int32 → Int32} {goes : Int32} {lf wd vs : Nat → Int32} {sn wi sp : Int32}
theorem c_law2 {t m w : Int32} (hl : l < 2) (hLW : LWok F l N LW) (hd : 1 ≤ d) : ∃ v2, Tm E d 7 0 [some (vr 9 l), some (vi goes), some (vi t), some (vi m), some (vi w), none, none, none] [] (cC x) F G (Rs b) (some (vi (LW goes t m w))) (cC x, srow F 18 l v2, G, Rs b) := by
  obtain ⟨h1, h2, h3, h4⟩ := hLW
  have k := c_law (E := E) (x := x) (G := G) (b := b) (gg := goes) (t := t) (m := m) (w := w) hl h1 h2 hd h3
  rw [h4] at k
  exact ⟨_, k⟩
theorem c_given (hn : n < 27) (hl : l < 2) (hP : F 9 l 10 = nI P) (hP6 : P ≤ 6) (hp : p < 6) (hq : q < 6) (hLW : LWok F l N LW) (hd : 2 ≤ d) : ∃ v2, Tm E d 58 0 [some (vr 25 n), some (vr 9 l), some (vi (nI p)), some (vi (nI q)), some (vi goes), none, none] [] (cC x) F G (Rs b) (some (vi (gvn (F 13 l) p (LW goes (F 27 n p) (tog (F 28 n) p q) (crd (F 26 n) p q P))))) (cC x, srow F 18 l v2, G, Rs b) := by
  obtain ⟨v2, hlaw⟩ := c_law2 (E := E) (d := d - 1) (x := x) (G := G) (b := b) (goes := goes) (t := F 27 n p) (m := tog (F 28 n) p q) (w := crd (F 26 n) p q P) hl hLW (by omega)
  refine ⟨v2, ?_⟩
  refine t_run 3 rfl ?_
  refine t_gR k58_4 (by first | assumption | exact Nat.le_of_ble_eq_true rfl | omega) ⟨rfl, rfl, rfl⟩ rfl ?_
  refine t_run 1 rfl ?_
  refine t_ia (N := 6) k58_8 (by decide) (by first | assumption | exact Nat.le_of_ble_eq_true rfl | omega) ⟨⟨rfl, rfl⟩, rfl, rfl⟩ (by first | assumption | omega) rfl ?_
  refine t_run 3 rfl ?_
  refine t_call 3 k58_12 (by omega) (Nat.le_of_ble_eq_true rfl) rfl (Nat.le_of_ble_eq_true rfl) (Nat.le_of_ble_eq_true rfl) (recv_ok rfl (by first | assumption | exact Nat.le_of_ble_eq_true rfl | omega)) rfl (c_winds2 hn hp hq) rfl ?_
  refine t_run 4 rfl ?_
  refine t_call 4 k58_19 (by omega) (Nat.le_of_ble_eq_true rfl) rfl (Nat.le_of_ble_eq_true rfl) (Nat.le_of_ble_eq_true rfl) (recv_ok rfl (by first | assumption | exact Nat.le_of_ble_eq_true rfl | omega)) rfl (c_crowd hn hl hP hP6 hp hq) rfl ?_
  refine t_call 5 k58_22 (by omega) (Nat.le_of_ble_eq_true rfl) rfl (Nat.le_of_ble_eq_true rfl) (Nat.le_of_ble_eq_true rfl) (recv_ok rfl (by first | assumption | exact Nat.le_of_ble_eq_true rfl | omega)) rfl hlaw rfl ?_
  refine t_run 4 rfl ?_
  refine t_min k58_32 (by omega) (Nat.le_of_ble_eq_true rfl) ?_
  refine t_max k58_35 (by omega) (Nat.le_of_ble_eq_true rfl) ?_
  refine t_run 2 rfl ?_
  refine t_gR k58_41 (by first | assumption | exact Nat.le_of_ble_eq_true rfl | omega) ⟨rfl, rfl, rfl⟩ rfl ?_
  refine t_run 1 rfl ?_
  refine t_ia (N := 6) k58_45 (by decide) (by first | assumption | exact Nat.le_of_ble_eq_true rfl | omega) ⟨⟨rfl, rfl⟩, rfl, rfl⟩ (by first | assumption | omega) rfl ?_
  refine t_run 1 rfl ?_
  refine t_ic_ne k58_47 (fun h47 => ?_) (fun h47 => ?_)
  · refine t_run 1 rfl ?_
    exact t_ir k58_59 rfl (by first | (have h47 : ¬ F 13 l p = 2 := h47; simp [gvn, clamp, h47]; done) | (have h47 : F 13 l p = 2 := h47; simp [gvn, clamp, h47]; done))
  · refine t_run 4 rfl ?_
    exact t_ir k58_59 rfl (by first | (have h47 : ¬ F 13 l p = 2 := h47; simp [gvn, clamp, h47]; done) | (have h47 : F 13 l p = 2 := h47; simp [gvn, clamp, h47]; done))
theorem t_retE {m pc a b q d : Nat} {z : PV} {L : LL} {C : CT} {F F2 : FT} {G : GT} {R : RT} (hc : cod m pc = some (35, a, b, z, q)) (e : F = F2) : Tm E d m pc L [] C F G R none (C, F2, G, R) := by
  subst e
  exact t_ret hc
/-- a winding: what becomes of the state -/
def tn (LW : Int32 → Int32 → Int32 → Int32 → Int32) (ki at_ : Nat → Int32) (P : Nat) (snap : Int32) (w o : Nat) (s : SV) : SV :=
  if s.1 o + gvn ki w (LW (s.1 o) (s.1 w) (tog s.2.1 w o) (crd at_ w o P)) ≤ snap then (upd s.1 o (s.1 o + gvn ki w (LW (s.1 o) (s.1 w) (tog s.2.1 w o) (crd at_ w o P))), upd s.2.1 (6 * w + o) (s.2.1 (6 * w + o) + 1), s.2.2.1, s.2.2.2.1 + 1, s.2.2.2.2)
  else (upd (upd s.1 o (s.1 o + gvn ki w (LW (s.1 o) (s.1 w) (tog s.2.1 w o) (crd at_ w o P)))) o 0, upd s.2.1 (6 * w + o) (s.2.1 (6 * w + o) + 1), s.2.2.1 ||| (1 <<< (nI o &&& 31)), s.2.2.2.1 + 1, s.2.2.2.2 + 1)
theorem c_turn (hn : n < 27) (hl : l < 2) (hP : F 9 l 10 = nI P) (hP6 : P ≤ 6) (hp : p < 6) (hq : q < 6) (hLW : LWok F l N LW) (hd : 3 ≤ d) : ∃ v2, Tm E d 59 0 [some (vr 25 n), some (vr 9 l), some (vi (nI p)), some (vi (nI q))] [] (cC x) (sF F n l (lf, wd, sn, wi, sp) vs) G (Rs b) none (cC x, sF F n l (tn LW (F 13 l) (F 26 n) P (F 9 l 12) p q (lf, wd, sn, wi, sp)) v2, G, Rs b) := by
  obtain ⟨v2, hg⟩ := c_given (E := E) (d := d - 1) (x := x) (G := G) (b := b) (F := sF F n l (lf, wd, sn, wi, sp) vs) (goes := lf q) hn hl hP hP6 hp hq hLW (by omega)
  rw [sr_27, sr_28, sF_18] at hg
  have e26 : sF F n l (lf, wd, sn, wi, sp) vs 26 n = F 26 n := rfl
  have e13 : sF F n l (lf, wd, sn, wi, sp) vs 13 l = F 13 l := rfl
  rw [e26, e13] at hg
  refine ⟨v2, ?_⟩
  refine t_run 1 rfl ?_
  refine t_gR k59_1 (by first | assumption | exact Nat.le_of_ble_eq_true rfl | omega) ⟨rfl, rfl, rfl⟩ rfl ?_
  refine t_run 2 rfl ?_
  refine t_ia (N := 6) k59_6 (by decide) (by first | assumption | exact Nat.le_of_ble_eq_true rfl | omega) ⟨⟨rfl, rfl⟩, rfl, rfl⟩ (by first | assumption | omega) rfl ?_
  rw [sr_27]
  refine t_run 5 rfl ?_
  refine t_gR k59_12 (by first | assumption | exact Nat.le_of_ble_eq_true rfl | omega) ⟨rfl, rfl, rfl⟩ rfl ?_
  refine t_run 1 rfl ?_
  refine t_ia (N := 6) k59_16 (by decide) (by first | assumption | exact Nat.le_of_ble_eq_true rfl | omega) ⟨⟨rfl, rfl⟩, rfl, rfl⟩ (by first | assumption | omega) rfl ?_
  rw [sr_27]
  refine t_call 5 k59_17 (by omega) (Nat.le_of_ble_eq_true rfl) rfl (Nat.le_of_ble_eq_true rfl) (Nat.le_of_ble_eq_true rfl) (recv_ok rfl (by first | assumption | exact Nat.le_of_ble_eq_true rfl | omega)) rfl hg rfl ?_
  refine t_run 1 rfl ?_
  refine t_is (N := 6) k59_21 (by first | assumption | exact Nat.le_of_ble_eq_true rfl | omega) ⟨rfl, rfl⟩ (by first | assumption | omega) rfl ?_
  rw [sF_27]
  refine t_run 1 rfl ?_
  refine t_gR k59_23 (by first | assumption | exact Nat.le_of_ble_eq_true rfl | omega) ⟨rfl, rfl, rfl⟩ rfl ?_
  refine t_run 1 rfl ?_
  refine t_ia (N := 6) k59_27 (by decide) (by first | assumption | exact Nat.le_of_ble_eq_true rfl | omega) ⟨⟨rfl, rfl⟩, rfl, rfl⟩ (by first | assumption | omega) rfl ?_
  rw [sr_27]
  refine t_run 1 rfl ?_
  refine t_gI k59_29 (by first | assumption | exact Nat.le_of_ble_eq_true rfl | omega) ⟨rfl, rfl, Or.inl rfl⟩ ?_
  refine t_ic_le k59_32 (fun h32 => ?_) (fun h32 => ?_)
  · have h32 : lf q + gvn (F 13 l) p (LW (lf q) (lf p) (tog wd p q) (crd (F 26 n) p q P)) ≤ F 9 l 12 := by simpa [ibop, upd, sF] using h32
    have e : tn LW (F 13 l) (F 26 n) P (F 9 l 12) p q (lf, wd, sn, wi, sp) = (upd lf q (lf q + gvn (F 13 l) p (LW (lf q) (lf p) (tog wd p q) (crd (F 26 n) p q P))), upd wd (6 * p + q) (wd (6 * p + q) + 1), sn, wi + 1, sp) := by simp only [tn]; rw [if_pos h32]
    rw [e]
    refine t_run 1 rfl ?_
    refine t_gR k59_65 (by first | assumption | exact Nat.le_of_ble_eq_true rfl | omega) ⟨rfl, rfl, rfl⟩ rfl ?_
    refine t_run 6 rfl ?_
    refine t_ia (N := 36) k59_75 (by decide) (by first | assumption | exact Nat.le_of_ble_eq_true rfl | omega) ⟨⟨rfl, rfl⟩, rfl, rfl⟩ (by first | assumption | omega) (ix6 p q) ?_
    rw [sr_28]
    refine t_run 2 rfl ?_
    refine t_is (N := 36) k59_78 (by first | assumption | exact Nat.le_of_ble_eq_true rfl | omega) ⟨rfl, rfl⟩ (by first | assumption | omega) (ix6 p q) ?_
    rw [sF_28]
    refine t_run 2 rfl ?_
    refine t_gI k59_81 (by first | assumption | exact Nat.le_of_ble_eq_true rfl | omega) ⟨rfl, rfl, Or.inl rfl⟩ ?_
    rw [sr_5]
    refine t_run 2 rfl ?_
    refine t_pI k59_86 (by first | assumption | exact Nat.le_of_ble_eq_true rfl | omega) ⟨rfl, rfl⟩ ?_
    rw [sF_5]
    exact t_ret k59_89
  · have h32 : ¬ lf q + gvn (F 13 l) p (LW (lf q) (lf p) (tog wd p q) (crd (F 26 n) p q P)) ≤ F 9 l 12 := by simpa [ibop, upd, sF] using h32
    have e : tn LW (F 13 l) (F 26 n) P (F 9 l 12) p q (lf, wd, sn, wi, sp) = (upd (upd lf q (lf q + gvn (F 13 l) p (LW (lf q) (lf p) (tog wd p q) (crd (F 26 n) p q P)))) q 0, upd wd (6 * p + q) (wd (6 * p + q) + 1), sn ||| (1 <<< (nI q &&& 31)), wi + 1, sp + 1) := by simp only [tn]; rw [if_neg h32]
    rw [e]
    refine t_run 1 rfl ?_
    refine t_gR k59_36 (by first | assumption | exact Nat.le_of_ble_eq_true rfl | omega) ⟨rfl, rfl, rfl⟩ rfl ?_
    refine t_run 2 rfl ?_
    refine t_is (N := 6) k59_41 (by first | assumption | exact Nat.le_of_ble_eq_true rfl | omega) ⟨rfl, rfl⟩ (by first | assumption | omega) rfl ?_
    rw [sF_27]
    refine t_run 2 rfl ?_
    refine t_gI k59_44 (by first | assumption | exact Nat.le_of_ble_eq_true rfl | omega) ⟨rfl, rfl, Or.inl rfl⟩ ?_
    rw [sr_3]
    refine t_run 4 rfl ?_
    refine t_pI k59_51 (by first | assumption | exact Nat.le_of_ble_eq_true rfl | omega) ⟨rfl, rfl⟩ ?_
    rw [sF_3]
    refine t_run 2 rfl ?_
    refine t_gI k59_56 (by first | assumption | exact Nat.le_of_ble_eq_true rfl | omega) ⟨rfl, rfl, Or.inl rfl⟩ ?_
    rw [sr_6]
    refine t_run 2 rfl ?_
    refine t_pI k59_61 (by first | assumption | exact Nat.le_of_ble_eq_true rfl | omega) ⟨rfl, rfl⟩ ?_
    rw [sF_6]
    refine t_run 1 rfl ?_
    refine t_gR k59_65 (by first | assumption | exact Nat.le_of_ble_eq_true rfl | omega) ⟨rfl, rfl, rfl⟩ rfl ?_
    refine t_run 6 rfl ?_
    refine t_ia (N := 36) k59_75 (by decide) (by first | assumption | exact Nat.le_of_ble_eq_true rfl | omega) ⟨⟨rfl, rfl⟩, rfl, rfl⟩ (by first | assumption | omega) (ix6 p q) ?_
    rw [sr_28]
    refine t_run 2 rfl ?_
    refine t_is (N := 36) k59_78 (by first | assumption | exact Nat.le_of_ble_eq_true rfl | omega) ⟨rfl, rfl⟩ (by first | assumption | omega) (ix6 p q) ?_
    rw [sF_28]
    refine t_run 2 rfl ?_
    refine t_gI k59_81 (by first | assumption | exact Nat.le_of_ble_eq_true rfl | omega) ⟨rfl, rfl, Or.inl rfl⟩ ?_
    rw [sr_5]
    refine t_run 2 rfl ?_
    refine t_pI k59_86 (by first | assumption | exact Nat.le_of_ble_eq_true rfl | omega) ⟨rfl, rfl⟩ ?_
    rw [sF_5]
    exact t_ret k59_89
end S3
