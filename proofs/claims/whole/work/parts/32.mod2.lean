/-! THE REFERENCE'S WINDINGS: its row as it changes -/
/-- which kinds the working of a law writes -/
def scr (k : Nat) : Bool := decide (55 ≤ k) && decide (k ≤ 64)
def mF (F : FT) (s : SV) (A : FT) : FT := fun k n i =>
  if k = 70 then (if n = 0 ∧ i = 1 then s.2.2.1 else if n = 0 ∧ 8 ≤ i ∧ i < 14 then s.1 (i - 8) else if n = 0 ∧ 14 ≤ i ∧ i < 50 then s.2.1 (i - 14) else F k n i)
  else if k = 40 then (if n = 0 ∧ i = 50 then s.2.2.2.2 else F k n i) else if scr k = true then A k n i else F k n i
section MX
variable {F A : FT} {lf wd : Nat → Int32} {sn wi sp v : Int32} {i : Nat} {s : SV}
theorem mF_lf (hi : i < 6) : uF (mF F (lf, wd, sn, wi, sp) A) 70 0 (8 + i) v = mF F (upd lf i v, wd, sn, wi, sp) A := by
  funext k n j
  simp only [uF, mF, upd]
  by_cases hk : k = 70
  · subst hk
    by_cases hn : n = 0
    · subst hn
      by_cases hj : j = 8 + i
      · subst hj
        rw [if_pos ⟨rfl, rfl, rfl⟩, if_pos rfl, if_neg (fun q => absurd q.2 (by omega)), if_pos ⟨rfl, by omega, by omega⟩, if_pos (by omega)]
      · simp only [hj, and_false, if_false, true_and, if_true]
        by_cases h1 : j = 1
        · simp [h1]
        · simp only [h1, if_false]
          by_cases h2 : 8 ≤ j ∧ j < 14
          · simp only [h2, if_true, and_self]
            rw [if_neg (by omega)]
          · simp only [h2, if_false]
    · simp [hn]
  · simp [hk]
theorem mF_wd (hi : i < 36) : uF (mF F (lf, wd, sn, wi, sp) A) 70 0 (14 + i) v = mF F (lf, upd wd i v, sn, wi, sp) A := by
  funext k n j
  simp only [uF, mF, upd]
  by_cases hk : k = 70
  · subst hk
    by_cases hn : n = 0
    · subst hn
      by_cases hj : j = 14 + i
      · subst hj
        rw [if_pos ⟨rfl, rfl, rfl⟩, if_pos rfl, if_neg (fun q => absurd q.2 (by omega)), if_neg (fun q => absurd q.2.2 (by omega)), if_pos ⟨rfl, by omega, by omega⟩, if_pos (by omega)]
      · simp only [hj, and_false, if_false, true_and, if_true]
        by_cases h1 : j = 1
        · simp [h1]
        · simp only [h1, if_false]
          by_cases h2 : 8 ≤ j ∧ j < 14
          · simp only [h2, if_true, and_self]
          · simp only [h2, if_false]
            by_cases h3 : 14 ≤ j ∧ j < 50
            · simp only [h3, if_true, and_self]
              rw [if_neg (by omega)]
            · simp only [h3, if_false]
    · simp [hn]
  · simp [hk]
theorem mF_sn : uF (mF F (lf, wd, sn, wi, sp) A) 70 0 1 v = mF F (lf, wd, v, wi, sp) A := by
  funext k n j
  simp only [uF, mF]
  by_cases hk : k = 70
  · subst hk
    by_cases hn : n = 0
    · subst hn
      by_cases hj : j = 1 <;> simp [hj]
    · simp [hn]
  · simp [hk]
theorem mF_sp : uF (mF F (lf, wd, sn, wi, sp) A) 40 0 50 v = mF F (lf, wd, sn, wi, v) A := by
  funext k n j
  simp only [uF, mF]
  by_cases hk : k = 40
  · subst hk
    by_cases hn : n = 0
    · subst hn
      by_cases hj : j = 50 <;> simp [hj]
    · simp [hn]
  · simp [hk]
theorem mr_lf (hi : i < 6) : mF F s A 70 0 (8 + i) = s.1 i := by
  unfold mF
  rw [if_pos rfl, if_neg (fun q => absurd q.2 (by omega)), if_pos ⟨rfl, by omega, by omega⟩, Nat.add_sub_cancel_left]
theorem mr_wd (hi : i < 36) : mF F s A 70 0 (14 + i) = s.2.1 i := by
  unfold mF
  rw [if_pos rfl, if_neg (fun q => absurd q.2 (by omega)), if_neg (fun q => absurd q.2.2 (by omega)), if_pos ⟨rfl, by omega, by omega⟩, Nat.add_sub_cancel_left]
theorem mr_sn : mF F s A 70 0 1 = s.2.2.1 := by simp [mF]
theorem mr_sp : mF F s A 40 0 50 = s.2.2.2.2 := by simp [mF]
theorem mr_at {p : Nat} (hp : p < 6) : mF F s A 70 0 (2 + p) = F 70 0 (2 + p) := by
  unfold mF
  rw [if_pos rfl, if_neg (fun q => absurd q.2 (by omega)), if_neg (fun q => absurd q.2.1 (by omega)), if_neg (fun q => absurd q.2.1 (by omega))]
end MX
/-- rows read below 6, 36 alone -/
theorem sit_c {f g : Nat → Int32} {sn : Int32} {p : Nat} (h : f p = g p) : sit f sn p = sit g sn p := by simp [sit, h]
theorem tog_c {f g : Nat → Int32} {a b : Nat} (ha : a < 6) (hb : b < 6) (h : ∀ i, i < 36 → f i = g i) : tog f a b = tog g a b := by
  simp only [tog]
  rw [h _ (by omega), h _ (by omega)]
theorem strg_c {f g kn : Nat → Int32} {so : Int32} {a b : Nat} (ha : a < 6) (hb : b < 6) (h : ∀ i, i < 36 → f i = g i) : strg kn f so a b = strg kn g so a b := by
  simp only [strg, tog_c ha hb h]
theorem crd_c {f g : Nat → Int32} {w o : Nat} (ho : f o = g o) : ∀ {P : Nat}, (∀ i, i < P → f i = g i) → crd f w o P = crd g w o P
  | 0, _ => rfl
  | P + 1, h => by
    simp only [crd]
    rw [crd_c ho (fun i hi => h i (by omega)), h P (by omega), ho]
/-- the law as the reference works it: whatever lies in the rows that it writes -/
def WKok (F : FT) (LW : Int32 → Int32 → Int32 → Int32 → Int32) : Prop := (F 51 0 0 ≤ F 50 0 0 ∧ ∀ g t m w, LW g t m w = 30 - g) ∨ (¬ F 51 0 0 ≤ F 50 0 0 ∧ ∀ (E : EV) (d x : Nat) (G : GT) (b : Bool) (F1 : FT), 2 ≤ d → F1 50 = F 50 → F1 51 = F 51 → F1 52 = F 52 → ∃ A : FT, Tm E d 145 0 [some (vr 40 0), some (vi 0), none, none, none, none] [] (cC x) F1 G (Rs b) (some (vi (LW (F1 64 0 1) (F1 64 0 2) (F1 64 0 3) (F1 64 0 4)))) (cC x, (fun k n i => if scr k = true then A k n i else F1 k n i), G, Rs b))
theorem mF_64 {F A : FT} {s : SV} {j : Nat} {v : Int32} : uF (mF F s A) 64 0 j v = mF F s (uF A 64 0 j v) := by
  funext k n i
  simp only [uF, mF]
  by_cases hk : k = 64
  · subst hk
    simp [scr]
  · simp only [hk, false_and, if_false]
theorem mF_A {F A B : FT} {s : SV} : (fun k n i => if scr k = true then B k n i else mF F s A k n i) = mF F s B := by
  funext k n i
  simp only [mF]
  by_cases hk : scr k = true
  · have h1 : ¬ k = 70 := fun e => by rw [e] at hk; exact absurd hk (by decide)
    have h2 : ¬ k = 40 := fun e => by rw [e] at hk; exact absurd hk (by decide)
    simp [hk, h1, h2]
  · simp [hk]
theorem mr_64 {F A : FT} {s : SV} : mF F s A 64 = A 64 := by
  funext n i
  simp [mF, scr]
def bt (v : Int32) : Int32 := if v < 0 then 0 else if 40 < v then 40 else v
theorem clamp_bt (v : Int32) : clamp v = bt v := by
  have h0 : (0 : Int32).toInt = 0 := rfl
  have h40 : (40 : Int32).toInt = 40 := rfl
  unfold clamp bt
  simp only [Int32.lt_iff_toInt_lt, h0, h40]
  by_cases h1 : v.toInt < 0
  · have h2 : v.toInt < 40 := by omega
    have h3 : ¬ 0 < v.toInt := by omega
    simp [h1, h2, h3]
  · by_cases h2 : v.toInt < 40
    · have h3 : ¬ 40 < v.toInt := by omega
      simp only [h1, h2, h3, if_true, if_false]
      by_cases h4 : 0 < v.toInt
      · simp [h4]
      · simp only [h4, if_false]
        exact i32_of (by rw [h0]; omega)
    · simp only [h1, h2, if_false, h40]
      by_cases h3 : 40 < v.toInt
      · simp [h3]
      · simp only [h3, if_false]
        rw [if_pos (by decide)]
        exact i32_of (by rw [h40]; omega)
section M2
variable {E : EV} {d x p q P : Nat} {F A : FT} {G : GT} {b : Bool} {LW : Int32 → Int32 → Int32 → Int32 → Int32} {goes : Int32} {s : SV}
theorem m_togS (hp : p < 6) (hq : q < 6) : Tm E d 178 0 [some (vr 40 0), some (vi (nI p)), some (vi (nI q))] [] (cC x) (mF F s A) G (Rs b) (some (vi (tog s.2.1 p q))) (cC x, mF F s A, G, Rs b) := by
  have k := m_together (E := E) (d := d) (x := x) (F := mF F s A) (G := G) (b := b) hp hq
  rw [tog_c hp hq (g := s.2.1) (fun i hi => mr_wd hi)] at k
  exact k
theorem m_crdS (hP : F 42 0 1 = nI P) (hP6 : P ≤ 6) (hp : p < 6) (hq : q < 6) : Tm E d 187 0 [some (vr 40 0), some (vi (nI p)), some (vi (nI q)), none, none] [] (cC x) (mF F s A) G (Rs b) (some (vi (crd (mAt F) p q P))) (cC x, mF F s A, G, Rs b) := by
  have k := m_crowd (E := E) (d := d) (x := x) (F := mF F s A) (G := G) (b := b) hP hP6 hp hq
  rw [crd_c (g := mAt F) (mr_at hq) (fun i hi => mr_at (by omega))] at k
  exact k
theorem m_windsBy (hP : F 42 0 1 = nI P) (hP6 : P ≤ 6) (hp : p < 6) (hq : q < 6) (hW : WKok F LW) (hd : 3 ≤ d) : ∃ A2, Tm E d 188 0 [some (vr 40 0), some (vi (nI p)), some (vi (nI q)), some (vi goes), none] [] (cC x) (mF F s A) G (Rs b) (some (vi (gvn (F 46 0) p (LW goes (s.1 p) (tog s.2.1 p q) (crd (mAt F) p q P))))) (cC x, mF F s A2, G, Rs b) := by
  rcases hW with ⟨h1, h2⟩ | ⟨h1, h2⟩
  · refine ⟨A, ?_⟩
    rw [h2]
    refine t_run 5 rfl ?_
    refine t_gR k188_7 (by first | assumption | exact Nat.le_of_ble_eq_true rfl | omega) ⟨rfl, rfl, rfl⟩ rfl ?_
    refine t_run 1 rfl ?_
    refine t_ia (N := 2) (j := 0) k188_11 (by decide) (by first | assumption | exact Nat.le_of_ble_eq_true rfl | omega) ⟨⟨rfl, rfl⟩, rfl, rfl⟩ (by decide) rfl ?_
    refine t_run 1 rfl ?_
    refine t_gR k188_13 (by first | assumption | exact Nat.le_of_ble_eq_true rfl | omega) ⟨rfl, rfl, rfl⟩ rfl ?_
    refine t_run 1 rfl ?_
    refine t_ia (N := 2) (j := 0) k188_17 (by decide) (by first | assumption | exact Nat.le_of_ble_eq_true rfl | omega) ⟨⟨rfl, rfl⟩, rfl, rfl⟩ (by decide) rfl ?_
    refine t_ic_le k188_18 (fun h18 => ?_) (fun h18 => ?_)
    · refine t_run 3 rfl ?_
      refine t_call 3 k188_79 (by omega) (Nat.le_of_ble_eq_true rfl) rfl (Nat.le_of_ble_eq_true rfl) (Nat.le_of_ble_eq_true rfl) recv_st rfl m_between rfl ?_
      refine t_run 2 rfl ?_
      refine t_gR k188_85 (by first | assumption | exact Nat.le_of_ble_eq_true rfl | omega) ⟨rfl, rfl, rfl⟩ rfl ?_
      refine t_run 1 rfl ?_
      refine t_ia (N := 12) k188_89 (by decide) (by first | assumption | exact Nat.le_of_ble_eq_true rfl | omega) ⟨⟨rfl, rfl⟩, rfl, rfl⟩ (by first | assumption | omega) rfl ?_
      refine t_run 1 rfl ?_
      refine t_ic_ne k188_91 (fun h91 => ?_) (fun h91 => ?_)
      · refine t_run 1 rfl ?_
        exact t_ir k188_103 rfl (by first | (have h91 : ¬ F 46 0 p = 2 := h91; simp only [gvn, if_neg h91, clamp_bt]; rfl) | (have h91 : F 46 0 p = 2 := h91; simp only [gvn, if_pos h91, clamp_bt]; rfl))
      · refine t_run 4 rfl ?_
        exact t_ir k188_103 rfl (by first | (have h91 : ¬ F 46 0 p = 2 := h91; simp only [gvn, if_neg h91, clamp_bt]; rfl) | (have h91 : F 46 0 p = 2 := h91; simp only [gvn, if_pos h91, clamp_bt]; rfl))
    · exact absurd h1 h18
  · obtain ⟨A5, hw⟩ := h2 E (d - 1) x G b (mF F s (uF (uF (uF (uF A 64 0 1 goes) 64 0 2 (s.1 p)) 64 0 3 (tog s.2.1 p q)) 64 0 4 (crd (mAt F) p q P))) (by omega) rfl rfl rfl
    rw [mr_64, mF_A] at hw
    simp only [uF, true_and, Nat.reduceEqDiff, if_true, if_false, and_true, and_false] at hw
    refine ⟨A5, ?_⟩
    refine t_run 5 rfl ?_
    refine t_gR k188_7 (by first | assumption | exact Nat.le_of_ble_eq_true rfl | omega) ⟨rfl, rfl, rfl⟩ rfl ?_
    refine t_run 1 rfl ?_
    refine t_ia (N := 2) (j := 0) k188_11 (by decide) (by first | assumption | exact Nat.le_of_ble_eq_true rfl | omega) ⟨⟨rfl, rfl⟩, rfl, rfl⟩ (by decide) rfl ?_
    refine t_run 1 rfl ?_
    refine t_gR k188_13 (by first | assumption | exact Nat.le_of_ble_eq_true rfl | omega) ⟨rfl, rfl, rfl⟩ rfl ?_
    refine t_run 1 rfl ?_
    refine t_ia (N := 2) (j := 0) k188_17 (by decide) (by first | assumption | exact Nat.le_of_ble_eq_true rfl | omega) ⟨⟨rfl, rfl⟩, rfl, rfl⟩ (by decide) rfl ?_
    refine t_ic_le k188_18 (fun h18 => ?_) (fun h18 => ?_)
    · exact absurd h18 h1
    · refine t_run 1 rfl ?_
      refine t_gR k188_22 (by first | assumption | exact Nat.le_of_ble_eq_true rfl | omega) ⟨rfl, rfl, rfl⟩ rfl ?_
      refine t_run 2 rfl ?_
      refine t_is (N := 20) (j := 1) k188_27 (by first | assumption | exact Nat.le_of_ble_eq_true rfl | omega) ⟨rfl, rfl⟩ (by decide) rfl ?_
      rw [mF_64]
      refine t_run 1 rfl ?_
      refine t_gR k188_29 (by first | assumption | exact Nat.le_of_ble_eq_true rfl | omega) ⟨rfl, rfl, rfl⟩ rfl ?_
      refine t_run 2 rfl ?_
      refine t_gR k188_34 (by first | assumption | exact Nat.le_of_ble_eq_true rfl | omega) ⟨rfl, rfl, rfl⟩ rfl ?_
      refine t_run 3 rfl ?_
      refine t_ia (N := 50) k188_41 (by decide) (by first | assumption | exact Nat.le_of_ble_eq_true rfl | omega) ⟨⟨rfl, rfl⟩, rfl, rfl⟩ (by first | assumption | omega) (nI_add 8 _) ?_
      rw [mr_lf hp]
      refine t_is (N := 20) (j := 2) k188_42 (by first | assumption | exact Nat.le_of_ble_eq_true rfl | omega) ⟨rfl, rfl⟩ (by decide) rfl ?_
      rw [mF_64]
      refine t_run 1 rfl ?_
      refine t_gR k188_44 (by first | assumption | exact Nat.le_of_ble_eq_true rfl | omega) ⟨rfl, rfl, rfl⟩ rfl ?_
      refine t_run 4 rfl ?_
      refine t_call 3 k188_51 (by omega) (Nat.le_of_ble_eq_true rfl) rfl (Nat.le_of_ble_eq_true rfl) (Nat.le_of_ble_eq_true rfl) (recv_ok rfl (by first | assumption | exact Nat.le_of_ble_eq_true rfl | omega)) rfl (m_togS hp hq) rfl ?_
      refine t_is (N := 20) (j := 3) k188_54 (by first | assumption | exact Nat.le_of_ble_eq_true rfl | omega) ⟨rfl, rfl⟩ (by decide) rfl ?_
      rw [mF_64]
      refine t_run 1 rfl ?_
      refine t_gR k188_56 (by first | assumption | exact Nat.le_of_ble_eq_true rfl | omega) ⟨rfl, rfl, rfl⟩ rfl ?_
      refine t_run 4 rfl ?_
      refine t_call 3 k188_63 (by omega) (Nat.le_of_ble_eq_true rfl) rfl (Nat.le_of_ble_eq_true rfl) (Nat.le_of_ble_eq_true rfl) (recv_ok rfl (by first | assumption | exact Nat.le_of_ble_eq_true rfl | omega)) rfl (m_crdS hP hP6 hp hq) rfl ?_
      refine t_is (N := 20) (j := 4) k188_66 (by first | assumption | exact Nat.le_of_ble_eq_true rfl | omega) ⟨rfl, rfl⟩ (by decide) rfl ?_
      rw [mF_64]
      refine t_run 2 rfl ?_
      refine t_call 2 k188_69 (by omega) (Nat.le_of_ble_eq_true rfl) rfl (Nat.le_of_ble_eq_true rfl) (Nat.le_of_ble_eq_true rfl) (recv_ok rfl (by first | assumption | exact Nat.le_of_ble_eq_true rfl | omega)) rfl hw rfl ?_
      refine t_run 4 rfl ?_
      refine t_call 3 k188_79 (by omega) (Nat.le_of_ble_eq_true rfl) rfl (Nat.le_of_ble_eq_true rfl) (Nat.le_of_ble_eq_true rfl) recv_st rfl m_between rfl ?_
      refine t_run 2 rfl ?_
      refine t_gR k188_85 (by first | assumption | exact Nat.le_of_ble_eq_true rfl | omega) ⟨rfl, rfl, rfl⟩ rfl ?_
      refine t_run 1 rfl ?_
      refine t_ia (N := 12) k188_89 (by decide) (by first | assumption | exact Nat.le_of_ble_eq_true rfl | omega) ⟨⟨rfl, rfl⟩, rfl, rfl⟩ (by first | assumption | omega) rfl ?_
      refine t_run 1 rfl ?_
      refine t_ic_ne k188_91 (fun h91 => ?_) (fun h91 => ?_)
      · refine t_run 1 rfl ?_
        exact t_ir k188_103 rfl (by first | (have h91 : ¬ F 46 0 p = 2 := h91; simp only [gvn, if_neg h91, clamp_bt]; rfl) | (have h91 : F 46 0 p = 2 := h91; simp only [gvn, if_pos h91, clamp_bt]; rfl))
      · refine t_run 4 rfl ?_
        exact t_ir k188_103 rfl (by first | (have h91 : ¬ F 46 0 p = 2 := h91; simp only [gvn, if_neg h91, clamp_bt]; rfl) | (have h91 : F 46 0 p = 2 := h91; simp only [gvn, if_pos h91, clamp_bt]; rfl))
end M2
