/-! AN HOUR -/
def wl (LW : Int32 → Int32 → Int32 → Int32 → Int32) (ki kn at_ : Nat → Int32) (P : Nat) (so snap : Int32) (w o : Nat) (s : SV) : SV :=
  if decide (s.1 o < 10) && cwd ki kn at_ s.1 s.2.1 so s.2.2.1 w o then tn LW ki at_ P snap w o s else s
def inr (LW : Int32 → Int32 → Int32 → Int32 → Int32) (ki kn at_ : Nat → Int32) (P : Nat) (so snap : Int32) (a : Nat) : Nat → Nat → SV → SV
  | _, 0, s => s
  | b, k + 1, s => inr LW ki kn at_ P so snap a (b + 1) k (wl LW ki kn at_ P so snap b a (wl LW ki kn at_ P so snap a b s))
def otr (LW : Int32 → Int32 → Int32 → Int32 → Int32) (ki kn at_ : Nat → Int32) (P : Nat) (so snap : Int32) : Nat → Nat → SV → SV
  | _, 0, s => s
  | a, k + 1, s => otr LW ki kn at_ P so snap (a + 1) k (inr LW ki kn at_ P so snap a (a + 1) (P - (a + 1)) s)
def dcr : Nat → Nat → (Nat → Int32) → (Nat → Int32)
  | _, 0, lf => lf
  | p, k + 1, lf => dcr (p + 1) k (upd lf p (if 0 < lf p - 1 then lf p - 1 else 0))
section S4
variable {E : EV} {d n x l N P a c : Nat} {F : FT} {G : GT} {b : Bool} {LW : Int32 → Int32 → Int32 → Int32 → Int32} {vs : Nat → Int32} {s : SV} {be : Int32} {res : Option PV} {t : HS} {dd : Option PV}
theorem c_canWindS {p q : Nat} (hn : n < 27) (hl : l < 2) (hp : p < 6) (hq : q < 6) (hd : 2 ≤ d) : Tm E d 56 0 [some (vr 25 n), some (vr 9 l), some (vi (nI p)), some (vi (nI q))] [] (cC x) (sF F n l s vs) G (Rs b) (some (vi (b2i (cwd (F 13 l) (F 16 l) (F 26 n) s.1 s.2.1 (F 9 l 11) s.2.2.1 p q)))) (cC x, sF F n l s vs, G, Rs b) := by
  have k := c_canWind (E := E) (x := x) (F := sF F n l s vs) (G := G) (b := b) hn hl hp hq hd
  rw [sr_27, sr_28, sr_3] at k
  exact k
theorem h_wl1 (hn : n < 27) (hl : l < 2) (hP : F 9 l 10 = nI P) (hP6 : P ≤ 6) (ha : a < 6) (hc : c < 6) (hLW : LWok F l N LW) (hd : 4 ≤ d) : ∃ v2, ∀ (res : Option PV) (t : HS), Tm E d 61 60 [some (vr 25 n), some (vr 9 l), some (vi be), some (vi (nI a)), some (vi (nI c))] [] (cC x) (sF F n l (wl LW (F 13 l) (F 16 l) (F 26 n) P (F 9 l 11) (F 9 l 12) a c s) v2) G (Rs b) res t → Tm E d 61 29 [some (vr 25 n), some (vr 9 l), some (vi be), some (vi (nI a)), some (vi (nI c))] [] (cC x) (sF F n l s vs) G (Rs b) res t := by
  obtain ⟨lf, wd, sn, wi, sp⟩ := s
  by_cases hy : (decide (lf c < 10) && cwd (F 13 l) (F 16 l) (F 26 n) lf wd (F 9 l 11) sn a c) = true
  · have hy2 : lf c < 10 ∧ cwd (F 13 l) (F 16 l) (F 26 n) lf wd (F 9 l 11) sn a c = true := by simpa using hy
    obtain ⟨v3, ht⟩ := c_turn (E := E) (d := d - 1) (x := x) (G := G) (b := b) (lf := lf) (wd := wd) (sn := sn) (wi := wi) (sp := sp) (vs := vs) hn hl hP hP6 ha hc hLW (by omega)
    refine ⟨v3, fun res t kk => ?_⟩
    have e : wl LW (F 13 l) (F 16 l) (F 26 n) P (F 9 l 11) (F 9 l 12) a c (lf, wd, sn, wi, sp) = tn LW (F 13 l) (F 26 n) P (F 9 l 12) a c (lf, wd, sn, wi, sp) := by simp only [wl]; rw [if_pos hy]
    rw [e] at kk
    refine t_run 1 rfl ?_
    refine t_gR k61_30 (by first | assumption | exact Nat.le_of_ble_eq_true rfl | omega) ⟨rfl, rfl, rfl⟩ rfl ?_
    refine t_run 1 rfl ?_
    refine t_ia (N := 6) k61_35 (by decide) (by first | assumption | exact Nat.le_of_ble_eq_true rfl | omega) ⟨⟨rfl, rfl⟩, rfl, rfl⟩ (by first | assumption | omega) rfl ?_
    rw [sr_27]
    refine t_run 1 rfl ?_
    refine t_ic_ge k61_38 (fun h38 => ?_) (fun h38 => ?_)
    · exact absurd hy2.1 (Int32.not_lt.mpr h38)
    · refine t_run 4 rfl ?_
      refine t_call 4 k61_46 (by omega) (Nat.le_of_ble_eq_true rfl) rfl (Nat.le_of_ble_eq_true rfl) (Nat.le_of_ble_eq_true rfl) (recv_ok rfl (by first | assumption | exact Nat.le_of_ble_eq_true rfl | omega)) rfl (c_canWindS hn hl ha hc (by omega)) rfl ?_
      refine t_if_eq k61_49 (fun h49 => ?_) (fun h49 => ?_)
      · rw [b2i0] at h49
        exact absurd hy2.2 (by simp [h49])
      · refine t_run 4 rfl ?_
        refine t_call 4 k61_57 (by omega) (Nat.le_of_ble_eq_true rfl) rfl (Nat.le_of_ble_eq_true rfl) (Nat.le_of_ble_eq_true rfl) (recv_ok rfl (by first | assumption | exact Nat.le_of_ble_eq_true rfl | omega)) rfl ht rfl ?_
        exact kk
  · refine ⟨vs, fun res t kk => ?_⟩
    have e : wl LW (F 13 l) (F 16 l) (F 26 n) P (F 9 l 11) (F 9 l 12) a c (lf, wd, sn, wi, sp) = (lf, wd, sn, wi, sp) := by simp only [wl]; rw [if_neg hy]
    rw [e] at kk
    refine t_run 1 rfl ?_
    refine t_gR k61_30 (by first | assumption | exact Nat.le_of_ble_eq_true rfl | omega) ⟨rfl, rfl, rfl⟩ rfl ?_
    refine t_run 1 rfl ?_
    refine t_ia (N := 6) k61_35 (by decide) (by first | assumption | exact Nat.le_of_ble_eq_true rfl | omega) ⟨⟨rfl, rfl⟩, rfl, rfl⟩ (by first | assumption | omega) rfl ?_
    rw [sr_27]
    refine t_run 1 rfl ?_
    refine t_ic_ge k61_38 (fun h38 => ?_) (fun h38 => ?_)
    · exact kk
    · refine t_run 4 rfl ?_
      refine t_call 4 k61_46 (by omega) (Nat.le_of_ble_eq_true rfl) rfl (Nat.le_of_ble_eq_true rfl) (Nat.le_of_ble_eq_true rfl) (recv_ok rfl (by first | assumption | exact Nat.le_of_ble_eq_true rfl | omega)) rfl (c_canWindS hn hl ha hc (by omega)) rfl ?_
      refine t_if_eq k61_49 (fun h49 => ?_) (fun h49 => ?_)
      · exact kk
      · rw [b2i0, Bool.not_eq_false] at h49
        exact absurd (show (decide (lf c < 10) && cwd (F 13 l) (F 16 l) (F 26 n) lf wd (F 9 l 11) sn a c) = true by simp [h49, Int32.not_le.mp h38]) hy
theorem h_wl2 (hn : n < 27) (hl : l < 2) (hP : F 9 l 10 = nI P) (hP6 : P ≤ 6) (ha : a < 6) (hc : c < 6) (hLW : LWok F l N LW) (hd : 4 ≤ d) : ∃ v2, ∀ (res : Option PV) (t : HS), Tm E d 61 90 [some (vr 25 n), some (vr 9 l), some (vi be), some (vi (nI a)), some (vi (nI c))] [] (cC x) (sF F n l (wl LW (F 13 l) (F 16 l) (F 26 n) P (F 9 l 11) (F 9 l 12) c a s) v2) G (Rs b) res t → Tm E d 61 60 [some (vr 25 n), some (vr 9 l), some (vi be), some (vi (nI a)), some (vi (nI c))] [] (cC x) (sF F n l s vs) G (Rs b) res t := by
  obtain ⟨lf, wd, sn, wi, sp⟩ := s
  by_cases hy : (decide (lf a < 10) && cwd (F 13 l) (F 16 l) (F 26 n) lf wd (F 9 l 11) sn c a) = true
  · have hy2 : lf a < 10 ∧ cwd (F 13 l) (F 16 l) (F 26 n) lf wd (F 9 l 11) sn c a = true := by simpa using hy
    obtain ⟨v3, ht⟩ := c_turn (E := E) (d := d - 1) (x := x) (G := G) (b := b) (lf := lf) (wd := wd) (sn := sn) (wi := wi) (sp := sp) (vs := vs) hn hl hP hP6 hc ha hLW (by omega)
    refine ⟨v3, fun res t kk => ?_⟩
    have e : wl LW (F 13 l) (F 16 l) (F 26 n) P (F 9 l 11) (F 9 l 12) c a (lf, wd, sn, wi, sp) = tn LW (F 13 l) (F 26 n) P (F 9 l 12) c a (lf, wd, sn, wi, sp) := by simp only [wl]; rw [if_pos hy]
    rw [e] at kk
    refine t_run 1 rfl ?_
    refine t_gR k61_61 (by first | assumption | exact Nat.le_of_ble_eq_true rfl | omega) ⟨rfl, rfl, rfl⟩ rfl ?_
    refine t_run 1 rfl ?_
    refine t_ia (N := 6) k61_65 (by decide) (by first | assumption | exact Nat.le_of_ble_eq_true rfl | omega) ⟨⟨rfl, rfl⟩, rfl, rfl⟩ (by first | assumption | omega) rfl ?_
    rw [sr_27]
    refine t_run 1 rfl ?_
    refine t_ic_ge k61_68 (fun h68 => ?_) (fun h68 => ?_)
    · exact absurd hy2.1 (Int32.not_lt.mpr h68)
    · refine t_run 4 rfl ?_
      refine t_call 4 k61_76 (by omega) (Nat.le_of_ble_eq_true rfl) rfl (Nat.le_of_ble_eq_true rfl) (Nat.le_of_ble_eq_true rfl) (recv_ok rfl (by first | assumption | exact Nat.le_of_ble_eq_true rfl | omega)) rfl (c_canWindS hn hl hc ha (by omega)) rfl ?_
      refine t_if_eq k61_79 (fun h79 => ?_) (fun h79 => ?_)
      · rw [b2i0] at h79
        exact absurd hy2.2 (by simp [h79])
      · refine t_run 4 rfl ?_
        refine t_call 4 k61_87 (by omega) (Nat.le_of_ble_eq_true rfl) rfl (Nat.le_of_ble_eq_true rfl) (Nat.le_of_ble_eq_true rfl) (recv_ok rfl (by first | assumption | exact Nat.le_of_ble_eq_true rfl | omega)) rfl ht rfl ?_
        exact kk
  · refine ⟨vs, fun res t kk => ?_⟩
    have e : wl LW (F 13 l) (F 16 l) (F 26 n) P (F 9 l 11) (F 9 l 12) c a (lf, wd, sn, wi, sp) = (lf, wd, sn, wi, sp) := by simp only [wl]; rw [if_neg hy]
    rw [e] at kk
    refine t_run 1 rfl ?_
    refine t_gR k61_61 (by first | assumption | exact Nat.le_of_ble_eq_true rfl | omega) ⟨rfl, rfl, rfl⟩ rfl ?_
    refine t_run 1 rfl ?_
    refine t_ia (N := 6) k61_65 (by decide) (by first | assumption | exact Nat.le_of_ble_eq_true rfl | omega) ⟨⟨rfl, rfl⟩, rfl, rfl⟩ (by first | assumption | omega) rfl ?_
    rw [sr_27]
    refine t_run 1 rfl ?_
    refine t_ic_ge k61_68 (fun h68 => ?_) (fun h68 => ?_)
    · exact kk
    · refine t_run 4 rfl ?_
      refine t_call 4 k61_76 (by omega) (Nat.le_of_ble_eq_true rfl) rfl (Nat.le_of_ble_eq_true rfl) (Nat.le_of_ble_eq_true rfl) (recv_ok rfl (by first | assumption | exact Nat.le_of_ble_eq_true rfl | omega)) rfl (c_canWindS hn hl hc ha (by omega)) rfl ?_
      refine t_if_eq k61_79 (fun h79 => ?_) (fun h79 => ?_)
      · exact kk
      · rw [b2i0, Bool.not_eq_false] at h79
        exact absurd (show (decide (lf a < 10) && cwd (F 13 l) (F 16 l) (F 26 n) lf wd (F 9 l 11) sn c a) = true by simp [h79, Int32.not_le.mp h68]) hy
end S4
