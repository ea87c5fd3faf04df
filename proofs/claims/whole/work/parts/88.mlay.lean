/-! THE SECOND HALVES LAID OVER THE FIRST -/
/-- a row laid over itself from n on -/
def ShF (F F2 : FT) (k n : Nat) : Prop := (∀ i, i < n → F2 k 0 i = F k 0 (n + i)) ∧ (∀ i, n ≤ i → F2 k 0 i = F k 0 i) ∧ FrK (fun j => decide (j = k)) F F2
def ShG (G G2 : GT) (k n : Nat) : Prop := (∀ i, i < n → G2 k 0 i = G k 0 (n + i)) ∧ (∀ i, n ≤ i → G2 k 0 i = G k 0 i) ∧ ∀ j, j ≠ k → G2 j = G j
section TH
variable {E : EV} {d x p n : Nat} {F F0 : FT} {G G0 : GT} {b : Bool} {t : TP} {B : LB} {u v w : Int32}
theorem l_sh42 {F0 : FT} : ∀ (r i : Nat) (iv : Int32) (F : FT), iv = nI i → i + r = 4 → (∀ j, j < i → F 42 0 j = F0 42 0 (4 + j)) → (∀ j, i ≤ j → F 42 0 j = F0 42 0 j) → FrK (fun j => decide (j = 42)) F0 F → Td E d 165 2 [some (vr 42 0), some (vi (nI 4)), some (vi iv)] [] x F G b none (fun F2 G2 => G2 = G ∧ ShF F0 F2 42 4) := by
  intro r
  induction r with
  | zero =>
    intro i iv F hiv hir q1 q2 q3
    subst hiv
    have hi : i = 4 := by omega
    refine d_run 2 rfl ?_
    refine d_ic_ge k165_4 (fun h4 => ?_) (fun h4 => ?_)
    · refine d_ret k165_21 ?_
      subst hi
      exact ⟨rfl, q1, q2, q3⟩
    · exact absurd (lt_nI h4 rfl (by omega) (by omega)) (by omega)
  | succ r ih =>
    intro i iv F hiv hir q1 q2 q3
    subst hiv
    have hi : i < 4 := by omega
    refine d_run 2 rfl ?_
    refine d_ic_ge k165_4 (fun h4 => ?_) (fun h4 => ?_)
    · exact absurd (ge_nI h4 rfl (by omega) (by omega)) (by omega)
    · refine d_run 6 rfl ?_
      refine d_ia (N := 8) (j := 4 + i) k165_13 (by decide) (by first | assumption | exact Nat.le_of_ble_eq_true rfl | omega) ⟨⟨rfl, rfl⟩, rfl, rfl⟩ (show 4 + i < 8 by omega) (nI_add _ _) ?_
      rw [q2 (4 + i) (by omega)]
      refine d_is (N := 8) (j := i) k165_14 (by first | assumption | exact Nat.le_of_ble_eq_true rfl | omega) ⟨rfl, rfl⟩ (show i < 8 by omega) rfl ?_
      refine d_run 2 rfl ?_
      rw [show nI i + 1 = nI (i + 1) from nI_1 _]
      refine ih (i + 1) _ _ rfl (by omega) (fun j hj => ?_) (fun j hj => ?_) (q3.u (by simp))
      · by_cases e : j = i
        · rw [e, uF_e]
        · rw [uF_q (by omega)]; exact q1 j (by omega)
      · rw [uF_q (by omega)]; exact q2 j (by omega)
theorem b_sh42 : Td E d 165 0 [some (vr 42 0), some (vi (nI 4)), none] [] x F G b none (fun F2 G2 => G2 = G ∧ ShF F F2 42 4) := by
  refine d_run 2 rfl ?_
  exact l_sh42 4 0 _ F rfl (by omega) (fun j hj => absurd hj (Nat.not_lt_zero _)) (fun j _ => rfl) FrK.rf
theorem l_sh45 {F0 : FT} : ∀ (r i : Nat) (iv : Int32) (F : FT), iv = nI i → i + r = 5 → (∀ j, j < i → F 45 0 j = F0 45 0 (5 + j)) → (∀ j, i ≤ j → F 45 0 j = F0 45 0 j) → FrK (fun j => decide (j = 45)) F0 F → Td E d 165 2 [some (vr 45 0), some (vi (nI 5)), some (vi iv)] [] x F G b none (fun F2 G2 => G2 = G ∧ ShF F0 F2 45 5) := by
  intro r
  induction r with
  | zero =>
    intro i iv F hiv hir q1 q2 q3
    subst hiv
    have hi : i = 5 := by omega
    refine d_run 2 rfl ?_
    refine d_ic_ge k165_4 (fun h4 => ?_) (fun h4 => ?_)
    · refine d_ret k165_21 ?_
      subst hi
      exact ⟨rfl, q1, q2, q3⟩
    · exact absurd (lt_nI h4 rfl (by omega) (by omega)) (by omega)
  | succ r ih =>
    intro i iv F hiv hir q1 q2 q3
    subst hiv
    have hi : i < 5 := by omega
    refine d_run 2 rfl ?_
    refine d_ic_ge k165_4 (fun h4 => ?_) (fun h4 => ?_)
    · exact absurd (ge_nI h4 rfl (by omega) (by omega)) (by omega)
    · refine d_run 6 rfl ?_
      refine d_ia (N := 10) (j := 5 + i) k165_13 (by decide) (by first | assumption | exact Nat.le_of_ble_eq_true rfl | omega) ⟨⟨rfl, rfl⟩, rfl, rfl⟩ (show 5 + i < 10 by omega) (nI_add _ _) ?_
      rw [q2 (5 + i) (by omega)]
      refine d_is (N := 10) (j := i) k165_14 (by first | assumption | exact Nat.le_of_ble_eq_true rfl | omega) ⟨rfl, rfl⟩ (show i < 10 by omega) rfl ?_
      refine d_run 2 rfl ?_
      rw [show nI i + 1 = nI (i + 1) from nI_1 _]
      refine ih (i + 1) _ _ rfl (by omega) (fun j hj => ?_) (fun j hj => ?_) (q3.u (by simp))
      · by_cases e : j = i
        · rw [e, uF_e]
        · rw [uF_q (by omega)]; exact q1 j (by omega)
      · rw [uF_q (by omega)]; exact q2 j (by omega)
theorem b_sh45 : Td E d 165 0 [some (vr 45 0), some (vi (nI 5)), none] [] x F G b none (fun F2 G2 => G2 = G ∧ ShF F F2 45 5) := by
  refine d_run 2 rfl ?_
  exact l_sh45 5 0 _ F rfl (by omega) (fun j hj => absurd hj (Nat.not_lt_zero _)) (fun j _ => rfl) FrK.rf
theorem l_sh46 {F0 : FT} : ∀ (r i : Nat) (iv : Int32) (F : FT), iv = nI i → i + r = 6 → (∀ j, j < i → F 46 0 j = F0 46 0 (6 + j)) → (∀ j, i ≤ j → F 46 0 j = F0 46 0 j) → FrK (fun j => decide (j = 46)) F0 F → Td E d 165 2 [some (vr 46 0), some (vi (nI 6)), some (vi iv)] [] x F G b none (fun F2 G2 => G2 = G ∧ ShF F0 F2 46 6) := by
  intro r
  induction r with
  | zero =>
    intro i iv F hiv hir q1 q2 q3
    subst hiv
    have hi : i = 6 := by omega
    refine d_run 2 rfl ?_
    refine d_ic_ge k165_4 (fun h4 => ?_) (fun h4 => ?_)
    · refine d_ret k165_21 ?_
      subst hi
      exact ⟨rfl, q1, q2, q3⟩
    · exact absurd (lt_nI h4 rfl (by omega) (by omega)) (by omega)
  | succ r ih =>
    intro i iv F hiv hir q1 q2 q3
    subst hiv
    have hi : i < 6 := by omega
    refine d_run 2 rfl ?_
    refine d_ic_ge k165_4 (fun h4 => ?_) (fun h4 => ?_)
    · exact absurd (ge_nI h4 rfl (by omega) (by omega)) (by omega)
    · refine d_run 6 rfl ?_
      refine d_ia (N := 12) (j := 6 + i) k165_13 (by decide) (by first | assumption | exact Nat.le_of_ble_eq_true rfl | omega) ⟨⟨rfl, rfl⟩, rfl, rfl⟩ (show 6 + i < 12 by omega) (nI_add _ _) ?_
      rw [q2 (6 + i) (by omega)]
      refine d_is (N := 12) (j := i) k165_14 (by first | assumption | exact Nat.le_of_ble_eq_true rfl | omega) ⟨rfl, rfl⟩ (show i < 12 by omega) rfl ?_
      refine d_run 2 rfl ?_
      rw [show nI i + 1 = nI (i + 1) from nI_1 _]
      refine ih (i + 1) _ _ rfl (by omega) (fun j hj => ?_) (fun j hj => ?_) (q3.u (by simp))
      · by_cases e : j = i
        · rw [e, uF_e]
        · rw [uF_q (by omega)]; exact q1 j (by omega)
      · rw [uF_q (by omega)]; exact q2 j (by omega)
theorem b_sh46 : Td E d 165 0 [some (vr 46 0), some (vi (nI 6)), none] [] x F G b none (fun F2 G2 => G2 = G ∧ ShF F F2 46 6) := by
  refine d_run 2 rfl ?_
  exact l_sh46 6 0 _ F rfl (by omega) (fun j hj => absurd hj (Nat.not_lt_zero _)) (fun j _ => rfl) FrK.rf
theorem l_sh47 {F0 : FT} : ∀ (r i : Nat) (iv : Int32) (F : FT), iv = nI i → i + r = 6 → (∀ j, j < i → F 47 0 j = F0 47 0 (6 + j)) → (∀ j, i ≤ j → F 47 0 j = F0 47 0 j) → FrK (fun j => decide (j = 47)) F0 F → Td E d 165 2 [some (vr 47 0), some (vi (nI 6)), some (vi iv)] [] x F G b none (fun F2 G2 => G2 = G ∧ ShF F0 F2 47 6) := by
  intro r
  induction r with
  | zero =>
    intro i iv F hiv hir q1 q2 q3
    subst hiv
    have hi : i = 6 := by omega
    refine d_run 2 rfl ?_
    refine d_ic_ge k165_4 (fun h4 => ?_) (fun h4 => ?_)
    · refine d_ret k165_21 ?_
      subst hi
      exact ⟨rfl, q1, q2, q3⟩
    · exact absurd (lt_nI h4 rfl (by omega) (by omega)) (by omega)
  | succ r ih =>
    intro i iv F hiv hir q1 q2 q3
    subst hiv
    have hi : i < 6 := by omega
    refine d_run 2 rfl ?_
    refine d_ic_ge k165_4 (fun h4 => ?_) (fun h4 => ?_)
    · exact absurd (ge_nI h4 rfl (by omega) (by omega)) (by omega)
    · refine d_run 6 rfl ?_
      refine d_ia (N := 12) (j := 6 + i) k165_13 (by decide) (by first | assumption | exact Nat.le_of_ble_eq_true rfl | omega) ⟨⟨rfl, rfl⟩, rfl, rfl⟩ (show 6 + i < 12 by omega) (nI_add _ _) ?_
      rw [q2 (6 + i) (by omega)]
      refine d_is (N := 12) (j := i) k165_14 (by first | assumption | exact Nat.le_of_ble_eq_true rfl | omega) ⟨rfl, rfl⟩ (show i < 12 by omega) rfl ?_
      refine d_run 2 rfl ?_
      rw [show nI i + 1 = nI (i + 1) from nI_1 _]
      refine ih (i + 1) _ _ rfl (by omega) (fun j hj => ?_) (fun j hj => ?_) (q3.u (by simp))
      · by_cases e : j = i
        · rw [e, uF_e]
        · rw [uF_q (by omega)]; exact q1 j (by omega)
      · rw [uF_q (by omega)]; exact q2 j (by omega)
theorem b_sh47 : Td E d 165 0 [some (vr 47 0), some (vi (nI 6)), none] [] x F G b none (fun F2 G2 => G2 = G ∧ ShF F F2 47 6) := by
  refine d_run 2 rfl ?_
  exact l_sh47 6 0 _ F rfl (by omega) (fun j hj => absurd hj (Nat.not_lt_zero _)) (fun j _ => rfl) FrK.rf
theorem l_sh48 {F0 : FT} : ∀ (r i : Nat) (iv : Int32) (F : FT), iv = nI i → i + r = 6 → (∀ j, j < i → F 48 0 j = F0 48 0 (6 + j)) → (∀ j, i ≤ j → F 48 0 j = F0 48 0 j) → FrK (fun j => decide (j = 48)) F0 F → Td E d 165 2 [some (vr 48 0), some (vi (nI 6)), some (vi iv)] [] x F G b none (fun F2 G2 => G2 = G ∧ ShF F0 F2 48 6) := by
  intro r
  induction r with
  | zero =>
    intro i iv F hiv hir q1 q2 q3
    subst hiv
    have hi : i = 6 := by omega
    refine d_run 2 rfl ?_
    refine d_ic_ge k165_4 (fun h4 => ?_) (fun h4 => ?_)
    · refine d_ret k165_21 ?_
      subst hi
      exact ⟨rfl, q1, q2, q3⟩
    · exact absurd (lt_nI h4 rfl (by omega) (by omega)) (by omega)
  | succ r ih =>
    intro i iv F hiv hir q1 q2 q3
    subst hiv
    have hi : i < 6 := by omega
    refine d_run 2 rfl ?_
    refine d_ic_ge k165_4 (fun h4 => ?_) (fun h4 => ?_)
    · exact absurd (ge_nI h4 rfl (by omega) (by omega)) (by omega)
    · refine d_run 6 rfl ?_
      refine d_ia (N := 12) (j := 6 + i) k165_13 (by decide) (by first | assumption | exact Nat.le_of_ble_eq_true rfl | omega) ⟨⟨rfl, rfl⟩, rfl, rfl⟩ (show 6 + i < 12 by omega) (nI_add _ _) ?_
      rw [q2 (6 + i) (by omega)]
      refine d_is (N := 12) (j := i) k165_14 (by first | assumption | exact Nat.le_of_ble_eq_true rfl | omega) ⟨rfl, rfl⟩ (show i < 12 by omega) rfl ?_
      refine d_run 2 rfl ?_
      rw [show nI i + 1 = nI (i + 1) from nI_1 _]
      refine ih (i + 1) _ _ rfl (by omega) (fun j hj => ?_) (fun j hj => ?_) (q3.u (by simp))
      · by_cases e : j = i
        · rw [e, uF_e]
        · rw [uF_q (by omega)]; exact q1 j (by omega)
      · rw [uF_q (by omega)]; exact q2 j (by omega)
theorem b_sh48 : Td E d 165 0 [some (vr 48 0), some (vi (nI 6)), none] [] x F G b none (fun F2 G2 => G2 = G ∧ ShF F F2 48 6) := by
  refine d_run 2 rfl ?_
  exact l_sh48 6 0 _ F rfl (by omega) (fun j hj => absurd hj (Nat.not_lt_zero _)) (fun j _ => rfl) FrK.rf
theorem l_sh49 {F0 : FT} : ∀ (r i : Nat) (iv : Int32) (F : FT), iv = nI i → i + r = 6 → (∀ j, j < i → F 49 0 j = F0 49 0 (6 + j)) → (∀ j, i ≤ j → F 49 0 j = F0 49 0 j) → FrK (fun j => decide (j = 49)) F0 F → Td E d 165 2 [some (vr 49 0), some (vi (nI 6)), some (vi iv)] [] x F G b none (fun F2 G2 => G2 = G ∧ ShF F0 F2 49 6) := by
  intro r
  induction r with
  | zero =>
    intro i iv F hiv hir q1 q2 q3
    subst hiv
    have hi : i = 6 := by omega
    refine d_run 2 rfl ?_
    refine d_ic_ge k165_4 (fun h4 => ?_) (fun h4 => ?_)
    · refine d_ret k165_21 ?_
      subst hi
      exact ⟨rfl, q1, q2, q3⟩
    · exact absurd (lt_nI h4 rfl (by omega) (by omega)) (by omega)
  | succ r ih =>
    intro i iv F hiv hir q1 q2 q3
    subst hiv
    have hi : i < 6 := by omega
    refine d_run 2 rfl ?_
    refine d_ic_ge k165_4 (fun h4 => ?_) (fun h4 => ?_)
    · exact absurd (ge_nI h4 rfl (by omega) (by omega)) (by omega)
    · refine d_run 6 rfl ?_
      refine d_ia (N := 12) (j := 6 + i) k165_13 (by decide) (by first | assumption | exact Nat.le_of_ble_eq_true rfl | omega) ⟨⟨rfl, rfl⟩, rfl, rfl⟩ (show 6 + i < 12 by omega) (nI_add _ _) ?_
      rw [q2 (6 + i) (by omega)]
      refine d_is (N := 12) (j := i) k165_14 (by first | assumption | exact Nat.le_of_ble_eq_true rfl | omega) ⟨rfl, rfl⟩ (show i < 12 by omega) rfl ?_
      refine d_run 2 rfl ?_
      rw [show nI i + 1 = nI (i + 1) from nI_1 _]
      refine ih (i + 1) _ _ rfl (by omega) (fun j hj => ?_) (fun j hj => ?_) (q3.u (by simp))
      · by_cases e : j = i
        · rw [e, uF_e]
        · rw [uF_q (by omega)]; exact q1 j (by omega)
      · rw [uF_q (by omega)]; exact q2 j (by omega)
theorem b_sh49 : Td E d 165 0 [some (vr 49 0), some (vi (nI 6)), none] [] x F G b none (fun F2 G2 => G2 = G ∧ ShF F F2 49 6) := by
  refine d_run 2 rfl ?_
  exact l_sh49 6 0 _ F rfl (by omega) (fun j hj => absurd hj (Nat.not_lt_zero _)) (fun j _ => rfl) FrK.rf
theorem l_sh52 {F0 : FT} : ∀ (r i : Nat) (iv : Int32) (F : FT), iv = nI i → i + r = 1000 → (∀ j, j < i → F 52 0 j = F0 52 0 (1000 + j)) → (∀ j, i ≤ j → F 52 0 j = F0 52 0 j) → FrK (fun j => decide (j = 52)) F0 F → Td E d 165 2 [some (vr 52 0), some (vi (nI 1000)), some (vi iv)] [] x F G b none (fun F2 G2 => G2 = G ∧ ShF F0 F2 52 1000) := by
  intro r
  induction r with
  | zero =>
    intro i iv F hiv hir q1 q2 q3
    subst hiv
    have hi : i = 1000 := by omega
    refine d_run 2 rfl ?_
    refine d_ic_ge k165_4 (fun h4 => ?_) (fun h4 => ?_)
    · refine d_ret k165_21 ?_
      subst hi
      exact ⟨rfl, q1, q2, q3⟩
    · exact absurd (lt_nI h4 rfl (by omega) (by omega)) (by omega)
  | succ r ih =>
    intro i iv F hiv hir q1 q2 q3
    subst hiv
    have hi : i < 1000 := by omega
    refine d_run 2 rfl ?_
    refine d_ic_ge k165_4 (fun h4 => ?_) (fun h4 => ?_)
    · exact absurd (ge_nI h4 rfl (by omega) (by omega)) (by omega)
    · refine d_run 6 rfl ?_
      refine d_ia (N := 2000) (j := 1000 + i) k165_13 (by decide) (by first | assumption | exact Nat.le_of_ble_eq_true rfl | omega) ⟨⟨rfl, rfl⟩, rfl, rfl⟩ (show 1000 + i < 2000 by omega) (nI_add _ _) ?_
      rw [q2 (1000 + i) (by omega)]
      refine d_is (N := 2000) (j := i) k165_14 (by first | assumption | exact Nat.le_of_ble_eq_true rfl | omega) ⟨rfl, rfl⟩ (show i < 2000 by omega) rfl ?_
      refine d_run 2 rfl ?_
      rw [show nI i + 1 = nI (i + 1) from nI_1 _]
      refine ih (i + 1) _ _ rfl (by omega) (fun j hj => ?_) (fun j hj => ?_) (q3.u (by simp))
      · by_cases e : j = i
        · rw [e, uF_e]
        · rw [uF_q (by omega)]; exact q1 j (by omega)
      · rw [uF_q (by omega)]; exact q2 j (by omega)
theorem b_sh52 : Td E d 165 0 [some (vr 52 0), some (vi (nI 1000)), none] [] x F G b none (fun F2 G2 => G2 = G ∧ ShF F F2 52 1000) := by
  refine d_run 2 rfl ?_
  exact l_sh52 1000 0 _ F rfl (by omega) (fun j hj => absurd hj (Nat.not_lt_zero _)) (fun j _ => rfl) FrK.rf
theorem l_sh43 {G0 : GT} : ∀ (r i : Nat) (iv : Int32) (G : GT), iv = nI i → i + r = 5 → (∀ j, j < i → G 43 0 j = G0 43 0 (5 + j)) → (∀ j, i ≤ j → G 43 0 j = G0 43 0 j) → (∀ j, j ≠ 43 → G j = G0 j) → Td E d 166 2 [some (vr 43 0), some (vi (nI 5)), some (vi iv)] [] x F G b none (fun F2 G2 => F2 = F ∧ ShG G0 G2 43 5) := by
  intro r
  induction r with
  | zero =>
    intro i iv G hiv hir q1 q2 q3
    subst hiv
    have hi : i = 5 := by omega
    refine d_run 2 rfl ?_
    refine d_ic_ge k166_4 (fun h4 => ?_) (fun h4 => ?_)
    · refine d_ret k166_21 ?_
      subst hi
      exact ⟨rfl, q1, q2, q3⟩
    · exact absurd (lt_nI h4 rfl (by omega) (by omega)) (by omega)
  | succ r ih =>
    intro i iv G hiv hir q1 q2 q3
    subst hiv
    have hi : i < 5 := by omega
    refine d_run 2 rfl ?_
    refine d_ic_ge k166_4 (fun h4 => ?_) (fun h4 => ?_)
    · exact absurd (ge_nI h4 rfl (by omega) (by omega)) (by omega)
    · refine d_run 6 rfl ?_
      refine d_la (N := 10) (j := 5 + i) k166_13 (by first | assumption | exact Nat.le_of_ble_eq_true rfl | omega) ⟨⟨rfl, rfl⟩, rfl, rfl⟩ (show 5 + i < 10 by omega) (nI_add _ _) ?_
      rw [q2 (5 + i) (by omega)]
      refine d_ls (N := 10) (j := i) k166_14 (by first | assumption | exact Nat.le_of_ble_eq_true rfl | omega) ⟨rfl, rfl⟩ (show i < 10 by omega) rfl ?_
      refine d_run 2 rfl ?_
      rw [show nI i + 1 = nI (i + 1) from nI_1 _]
      refine ih (i + 1) _ _ rfl (by omega) (fun j hj => ?_) (fun j hj => ?_) (fun j hj => by rw [uG_k hj]; exact q3 j hj)
      · by_cases e : j = i
        · rw [e, uG_q]
        · rw [uG_m (by omega)]; exact q1 j (by omega)
      · rw [uG_m (by omega)]; exact q2 j (by omega)
theorem b_sh43 : Td E d 166 0 [some (vr 43 0), some (vi (nI 5)), none] [] x F G b none (fun F2 G2 => F2 = F ∧ ShG G G2 43 5) := by
  refine d_run 2 rfl ?_
  exact l_sh43 5 0 _ G rfl (by omega) (fun j hj => absurd hj (Nat.not_lt_zero _)) (fun j _ => rfl) (fun j _ => rfl)
theorem l_sh44 {G0 : GT} : ∀ (r i : Nat) (iv : Int32) (G : GT), iv = nI i → i + r = 6 → (∀ j, j < i → G 44 0 j = G0 44 0 (6 + j)) → (∀ j, i ≤ j → G 44 0 j = G0 44 0 j) → (∀ j, j ≠ 44 → G j = G0 j) → Td E d 166 2 [some (vr 44 0), some (vi (nI 6)), some (vi iv)] [] x F G b none (fun F2 G2 => F2 = F ∧ ShG G0 G2 44 6) := by
  intro r
  induction r with
  | zero =>
    intro i iv G hiv hir q1 q2 q3
    subst hiv
    have hi : i = 6 := by omega
    refine d_run 2 rfl ?_
    refine d_ic_ge k166_4 (fun h4 => ?_) (fun h4 => ?_)
    · refine d_ret k166_21 ?_
      subst hi
      exact ⟨rfl, q1, q2, q3⟩
    · exact absurd (lt_nI h4 rfl (by omega) (by omega)) (by omega)
  | succ r ih =>
    intro i iv G hiv hir q1 q2 q3
    subst hiv
    have hi : i < 6 := by omega
    refine d_run 2 rfl ?_
    refine d_ic_ge k166_4 (fun h4 => ?_) (fun h4 => ?_)
    · exact absurd (ge_nI h4 rfl (by omega) (by omega)) (by omega)
    · refine d_run 6 rfl ?_
      refine d_la (N := 12) (j := 6 + i) k166_13 (by first | assumption | exact Nat.le_of_ble_eq_true rfl | omega) ⟨⟨rfl, rfl⟩, rfl, rfl⟩ (show 6 + i < 12 by omega) (nI_add _ _) ?_
      rw [q2 (6 + i) (by omega)]
      refine d_ls (N := 12) (j := i) k166_14 (by first | assumption | exact Nat.le_of_ble_eq_true rfl | omega) ⟨rfl, rfl⟩ (show i < 12 by omega) rfl ?_
      refine d_run 2 rfl ?_
      rw [show nI i + 1 = nI (i + 1) from nI_1 _]
      refine ih (i + 1) _ _ rfl (by omega) (fun j hj => ?_) (fun j hj => ?_) (fun j hj => by rw [uG_k hj]; exact q3 j hj)
      · by_cases e : j = i
        · rw [e, uG_q]
        · rw [uG_m (by omega)]; exact q1 j (by omega)
      · rw [uG_m (by omega)]; exact q2 j (by omega)
theorem b_sh44 : Td E d 166 0 [some (vr 44 0), some (vi (nI 6)), none] [] x F G b none (fun F2 G2 => F2 = F ∧ ShG G G2 44 6) := by
  refine d_run 2 rfl ?_
  exact l_sh44 6 0 _ G rfl (by omega) (fun j hj => absurd hj (Nat.not_lt_zero _)) (fun j _ => rfl) (fun j _ => rfl)
theorem l_forg {F0 : FT} : ∀ (r i : Nat) (iv : Int32) (F : FT), iv = nI i → i + r = 6 → (∀ j, j < i → F 69 0 j = -1) → (∀ j, i ≤ j → F 69 0 j = F0 69 0 j) → FrK (fun j => decide (j = 69)) F0 F → Td E d 172 2 [some (vr 40 0), some (vi iv)] [] x F G b none (fun F2 G2 => G2 = G ∧ (∀ j, j < 6 → F2 69 0 j = -1) ∧ (∀ j, 6 ≤ j → F2 69 0 j = F0 69 0 j) ∧ FrK (fun j => decide (j = 69)) F0 F2) := by
  intro r
  induction r with
  | zero =>
    intro i iv F hiv hir q1 q2 q3
    subst hiv
    have hi : i = 6 := by omega
    refine d_run 2 rfl ?_
    refine d_ic_ge k172_5 (fun h5 => ?_) (fun h5 => ?_)
    · refine d_ret k172_21 ?_
      subst hi
      exact ⟨rfl, q1, q2, q3⟩
    · exact absurd (lt_nI h5 (show (6 : Int32) = nI 6 from rfl) (by omega) (by omega)) (by omega)
  | succ r ih =>
    intro i iv F hiv hir q1 q2 q3
    subst hiv
    have hi : i < 6 := by omega
    refine d_run 2 rfl ?_
    refine d_ic_ge k172_5 (fun h5 => ?_) (fun h5 => ?_)
    · exact absurd (ge_nI h5 (show (6 : Int32) = nI 6 from rfl) (by omega) (by omega)) (by omega)
    · refine d_run 1 rfl ?_
      refine d_gR k172_9 (by first | assumption | exact Nat.le_of_ble_eq_true rfl | omega) ⟨rfl, rfl, rfl⟩ rfl ?_
      refine d_run 2 rfl ?_
      refine d_is (N := 30) (j := i) k172_14 (by first | assumption | exact Nat.le_of_ble_eq_true rfl | omega) ⟨rfl, rfl⟩ (show i < 30 by omega) rfl ?_
      refine d_run 2 rfl ?_
      rw [show nI i + 1 = nI (i + 1) from nI_1 _]
      refine ih (i + 1) _ _ rfl (by omega) (fun j hj => ?_) (fun j hj => ?_) (q3.u (by simp))
      · by_cases e : j = i
        · rw [e, uF_e]
        · rw [uF_q (by omega)]; exact q1 j (by omega)
      · rw [uF_q (by omega)]; exact q2 j (by omega)
theorem b_forg : Td E d 172 0 [some (vr 40 0), none] [] x F G b none (fun F2 G2 => G2 = G ∧ (∀ j, j < 6 → F2 69 0 j = -1) ∧ (∀ j, 6 ≤ j → F2 69 0 j = F 69 0 j) ∧ FrK (fun j => decide (j = 69)) F F2) := by
  refine d_run 2 rfl ?_
  exact l_forg 6 0 _ F rfl (by omega) (fun j hj => absurd hj (Nat.not_lt_zero _)) (fun j _ => rfl) FrK.rf
/-- what reading a land, from its beginning, may change -/
def M3 (F : FT) (G : GT) (F2 : FT) (G2 : GT) : Prop := FrK dLd F F2 ∧ (∀ k, k ≠ 40 → k ≠ 43 → k ≠ 44 → G2 k = G k) ∧ (∀ k i, kpF k i → ¬ (k = 40 ∧ (i = 1 ∨ i = 3)) → F2 k 0 i = F k 0 i) ∧ ∀ k i, kpG k i → G2 k 0 i = G k 0 i
theorem MFr.m3 {F F1 F2 F3 : FT} {G G1 G2 G3 : GT} (h : MFr F G F1 G1) (h2 : MBg F1 G1 F2 G2) (h3 : MFr F2 G2 F3 G3) : M3 F G F3 G3 := by
  obtain ⟨a1, a2, a3, a4, a5⟩ := h2
  refine ⟨(h.1.tr (a3.mo (fun k e => ?_))).tr h3.1, fun k x y z => ?_, fun k i x y => ?_, fun k i x => ?_⟩
  · simp only [dLd, Bool.or_eq_false_iff] at e
    exact e.1.1
  · rw [h3.2.1 k x y z, a4 k x, h.2.1 k x y z]
  · rw [h3.2.2.1 k i x, ← h.2.2.1 k i x]
    by_cases e : k = 40
    · subst e
      have := x.1 rfl
      exact a2 i (by omega)
    · rw [a3 k (d40_f e)]
  · rw [h3.2.2.2 k i x, ← h.2.2.2 k i x]
    by_cases e : k = 40
    · subst e
      exact a5 i (x.1 rfl).1
    · rw [a4 k e]
def MAl (F : FT) (G : GT) (r : Nat ⊕ LB) (F2 : FT) (G2 : GT) : Prop := F2 40 0 1 = 0 ∧ M3 F G F2 G2 ∧ match r with
  | .inl f => F2 40 0 9 = nI f
  | .inr B => MLb F2 G2 B
theorem m_all (hd : 20 ≤ d) (h1 : F 40 0 1 = nI t.1) (h41 : eqR t.1 (F 41 0) t.2) (ht : wfTp t) : Td E d 164 0 [some (vr 40 0), none] [] x F G b (some (vi (b2i (okB (ldL t 1000 (tB t 0) begB))))) (MAl F G (ldL t 1000 (tB t 0) begB)) := by
  have htl := ht.1
  refine d_run 1 rfl ?_
  refine d_gR k164_1 (by first | assumption | exact Nat.le_of_ble_eq_true rfl | omega) ⟨rfl, rfl, rfl⟩ rfl ?_
  refine d_run 2 rfl ?_
  refine d_is (N := 8) (j := 4) k164_6 (by first | assumption | exact Nat.le_of_ble_eq_true rfl | omega) ⟨rfl, rfl⟩ (by decide) rfl ?_
  refine d_run 1 rfl ?_
  refine d_gR k164_8 (by first | assumption | exact Nat.le_of_ble_eq_true rfl | omega) ⟨rfl, rfl, rfl⟩ rfl ?_
  refine d_run 2 rfl ?_
  refine d_is (N := 8) (j := 5) k164_13 (by first | assumption | exact Nat.le_of_ble_eq_true rfl | omega) ⟨rfl, rfl⟩ (by decide) rfl ?_
  refine d_run 1 rfl ?_
  refine d_gR k164_15 (by first | assumption | exact Nat.le_of_ble_eq_true rfl | omega) ⟨rfl, rfl, rfl⟩ rfl ?_
  refine d_run 2 rfl ?_
  refine d_is (N := 8) (j := 6) k164_21 (by first | assumption | exact Nat.le_of_ble_eq_true rfl | omega) ⟨rfl, rfl⟩ (by decide) rfl ?_
  refine d_run 1 rfl ?_
  refine d_gR k164_23 (by first | assumption | exact Nat.le_of_ble_eq_true rfl | omega) ⟨rfl, rfl, rfl⟩ rfl ?_
  refine d_run 2 rfl ?_
  refine d_is (N := 8) (j := 7) k164_30 (by first | assumption | exact Nat.le_of_ble_eq_true rfl | omega) ⟨rfl, rfl⟩ (by decide) rfl ?_
  refine d_run 1 rfl ?_
  refine d_gR k164_32 (by first | assumption | exact Nat.le_of_ble_eq_true rfl | omega) ⟨rfl, rfl, rfl⟩ rfl ?_
  refine d_run 2 rfl ?_
  refine d_is (N := 2) (j := 1) k164_39 (by first | assumption | exact Nat.le_of_ble_eq_true rfl | omega) ⟨rfl, rfl⟩ (by decide) rfl ?_
  refine d_run 1 rfl ?_
  refine d_gR k164_41 (by first | assumption | exact Nat.le_of_ble_eq_true rfl | omega) ⟨rfl, rfl, rfl⟩ rfl ?_
  refine d_run 2 rfl ?_
  refine d_is (N := 2) (j := 1) k164_48 (by first | assumption | exact Nat.le_of_ble_eq_true rfl | omega) ⟨rfl, rfl⟩ (by decide) rfl ?_
  refine d_run 2 rfl ?_
  refine d_pI k164_51 (by first | assumption | exact Nat.le_of_ble_eq_true rfl | omega) ⟨rfl, rfl⟩ ?_
  refine d_run 2 rfl ?_
  refine d_pI k164_58 (by first | assumption | exact Nat.le_of_ble_eq_true rfl | omega) ⟨rfl, rfl⟩ ?_
  refine d_run 1 rfl ?_
  generalize hF1 : uF (uF (uF (uF (uF (uF (uF (uF F 42 0 4 0) 42 0 5 0) 42 0 6 3) 42 0 7 60) 50 0 1 1000) 51 0 1 1000) 40 0 22 0) 40 0 21 1000 = F1
  have f1 : MFr F G F1 G := by
    rw [← hF1]
    exact (((((((MFr.rf.u rfl (by unfold kpF; omega)).u rfl (by unfold kpF; omega)).u rfl (by unfold kpF; omega)).u rfl (by unfold kpF; omega)).u rfl (by unfold kpF; omega)).u rfl (by unfold kpF; omega)).u rfl (by unfold kpF; omega)).u rfl (by unfold kpF; omega)
  have g1 : F1 40 0 1 = nI t.1 := by
    rw [f1.2.2.1 40 1 (by unfold kpF; omega)]
    exact h1
  have g41 : eqR t.1 (F1 41 0) t.2 := by
    rw [f1.1 41 rfl]
    exact h41
  have b1 : MLb F1 G begB := by
    rw [← hF1]
    refine ⟨⟨by simp [uF]; rfl, by simp [uF]; rfl, by simp [uF]; rfl, by simp [uF]; rfl, fun i hi => absurd hi (Nat.not_lt_zero _), fun i hi => absurd hi (Nat.not_lt_zero _), fun i hi => absurd hi (Nat.not_lt_zero _), fun i hi => absurd hi (Nat.not_lt_zero _), fun i hi => absurd hi (Nat.not_lt_zero _), fun i hi => absurd hi (Nat.not_lt_zero _), fun i hi => absurd hi (Nat.not_lt_zero _), by simp [uF]; rfl⟩, by simp [uF]; rfl, by simp [uF], by simp [uF]; rfl, fun i hi => absurd hi (Nat.not_lt_zero _)⟩
  refine d_call 1 k164_62 (by omega) (Nat.le_of_ble_eq_true rfl) rfl (Nat.le_of_ble_eq_true rfl) (Nat.le_of_ble_eq_true rfl) (recv_ok rfl (by first | assumption | exact Nat.le_of_ble_eq_true rfl | omega)) rfl (m_begins (t := t) (by omega) g1 g41 ht) rfl ?_
  rintro F2 G2 ⟨r2, g2⟩
  have b2 : MLb F2 G2 begB := ⟨b1.1.fr (g2.2.1 22 (by decide)) (fun k a c => by rw [g2.2.2.1 k (d40_f (by omega))]) (fun k a c => by rw [g2.2.2.2.1 k (by omega)]), b1.2.fr (g2.2.1 21 (by decide)) (fun k a c => by rw [g2.2.2.1 k (d40_f (by omega))])⟩
  refine td_mo (l_all (by omega) htl 1000 (tB t 0) begB F2 G2 _ (by omega) r2 b2 beg_wf) (fun F3 G3 e => ?_)
  exact ⟨by rw [e.1.2.2.1 40 1 (by unfold kpF; omega)]; exact g2.1, f1.m3 g2 e.1, e.2⟩
end TH
