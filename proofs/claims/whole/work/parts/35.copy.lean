/-! COPIES AND FILLS -/
def fil (f : Nat → Int32) (N : Nat) (v : Int32) : Nat → Int32 := fun i => if i < N then v else f i
theorem fil_s (f : Nat → Int32) (i : Nat) (v : Int32) : upd (fil f i v) i v = fil f (i + 1) v := by
  funext j
  simp only [upd, fil]
  by_cases h : j = i
  · subst h
    simp
  · simp only [h, if_false]
    by_cases h2 : j < i
    · rw [if_pos h2, if_pos (by omega)]
    · rw [if_neg h2, if_neg (by omega)]
theorem fil_0 (f : Nat → Int32) (v : Int32) : fil f 0 v = f := by funext j; simp [fil]
section C1
variable {E : EV} {d x k n N m l p q : Nat} {F : FT} {G : GT} {b : Bool} {v u w : Int32}
theorem l_fill (hn : n < cn x k) (hk : (kt k).1 = 1 ∧ (kt k).2.1 = N) : ∀ (r i : Nat), i ≤ N → N < i + r → Tm E d 250 5 [some (vr k n), some (vi v), some (vi (nI i)), some (vi (nI N))] [] (cC x) (srow F k n (fil (F k n) i v)) G (Rs b) none (cC x, srow F k n (fil (F k n) N v), G, Rs b) := by
  have hN : N ≤ 2000 := by rw [← hk.2]; exact kt_len k
  intro r
  induction r with
  | zero => intros; omega
  | succ r ih =>
    intro i hi hr
    refine t_run 2 rfl ?_
    refine t_ic_ge k250_7 (fun h7 => ?_) (fun h7 => ?_)
    · have h7 := ge_nI h7 (b := N) rfl (by omega) (by omega)
      have hip : i = N := by omega
      subst hip
      exact t_ret k250_20
    · have h7 := lt_nI h7 (b := N) rfl (by omega) (by omega)
      refine t_run 3 rfl ?_
      refine t_is k250_13 (by first | assumption | exact Nat.le_of_ble_eq_true rfl | omega) hk (by first | assumption | omega) rfl ?_
      rw [srow_u, fil_s]
      refine t_run 2 rfl ?_
      have k1 := ih (i + 1) (by omega) (by omega)
      rw [← nI_1] at k1
      exact k1
theorem c_fill (hn : n < cn x k) (h0 : (k == 0) = false ∧ (k == 91) = false) (hk : (kt k).1 = 1 ∧ (kt k).2.1 = N) : Tm E d 250 0 [some (vr k n), some (vi v), none, none] [] (cC x) F G (Rs b) none (cC x, srow F k n (fil (F k n) N v), G, Rs b) := by
  refine t_run 3 rfl ?_
  refine t_al k250_3 (by first | assumption | exact Nat.le_of_ble_eq_true rfl | omega) ⟨h0, ⟨by rw [hk.1]; decide, by rw [hk.1]; decide⟩, hk.2⟩ ?_
  refine t_run 1 rfl ?_
  have k1 := l_fill (E := E) (d := d) (F := F) (G := G) (b := b) (v := v) hn hk (N + 1) 0 (by omega) (by omega)
  rw [fil_0, srow_self] at k1
  exact k1
/-- a state is laid over another -/
def cpS (F : FT) (n m : Nat) : FT := fun k' n' i' =>
  if n' = n ∧ ((k' = 26 ∧ i' < 6) ∨ (k' = 27 ∧ i' < 6) ∨ (k' = 28 ∧ i' < 36) ∨ (k' = 25 ∧ 3 ≤ i' ∧ i' ≤ 6)) then F k' m i' else F k' n' i'
theorem cpS_eq (hnm : n ≠ m) : uF (uF (uF (uF (cF (cF (cF F 26 n 0 26 m 0 6) 27 n 0 27 m 0 6) 28 n 0 28 m 0 36) 25 n 3 (F 25 m 3)) 25 n 4 (F 25 m 4)) 25 n 5 (F 25 m 5)) 25 n 6 (F 25 m 6) = cpS F n m := by
  funext k' n' i'
  simp only [uF, cF, cpS, va_cpy]
  by_cases hn : n' = n
  · subst hn
    by_cases h1 : k' = 26
    · subst h1
      simp
    · by_cases h2 : k' = 27
      · subst h2
        simp
      · by_cases h3 : k' = 28
        · subst h3
          simp
        · by_cases h4 : k' = 25
          · subst h4
            by_cases e3 : i' = 3
            · subst e3; simp
            · by_cases e4 : i' = 4
              · subst e4; simp
              · by_cases e5 : i' = 5
                · subst e5; simp
                · by_cases e6 : i' = 6
                  · subst e6; simp
                  · have : ¬ (3 ≤ i' ∧ i' ≤ 6) := by omega
                    simp [e3, e4, e5, e6, this]
          · simp [h1, h2, h3, h4]
  · simp [hn]
theorem c_copyS (hn : n < 27) (hm : m < 27) (hnm : n ≠ m) (hd : 1 ≤ d) : Tm E d 45 0 [some (vr 25 n), some (vr 25 m)] [] (cC x) F G (Rs b) none (cC x, cpS F n m, G, Rs b) := by
  have hmn : ¬ m = n := fun e => hnm e.symm
  rw [← cpS_eq hnm]
  refine t_run 1 rfl ?_
  refine t_gR k45_1 (by first | assumption | exact Nat.le_of_ble_eq_true rfl | omega) ⟨rfl, rfl, rfl⟩ rfl ?_
  refine t_run 2 rfl ?_
  refine t_gR k45_6 (by first | assumption | exact Nat.le_of_ble_eq_true rfl | omega) ⟨rfl, rfl, rfl⟩ rfl ?_
  refine t_run 2 rfl ?_
  refine t_cpy k45_12 (by omega) (Nat.le_of_ble_eq_true rfl) ⟨⟨rfl, rfl⟩, rfl, rfl⟩ (by first | assumption | exact Nat.le_of_ble_eq_true rfl | omega) (by first | assumption | exact Nat.le_of_ble_eq_true rfl | omega) (by decide) (by decide) rfl rfl rfl ?_
  refine t_run 1 rfl ?_
  refine t_gR k45_16 (by first | assumption | exact Nat.le_of_ble_eq_true rfl | omega) ⟨rfl, rfl, rfl⟩ rfl ?_
  refine t_run 2 rfl ?_
  refine t_gR k45_21 (by first | assumption | exact Nat.le_of_ble_eq_true rfl | omega) ⟨rfl, rfl, rfl⟩ rfl ?_
  refine t_run 2 rfl ?_
  refine t_cpy k45_27 (by omega) (Nat.le_of_ble_eq_true rfl) ⟨⟨rfl, rfl⟩, rfl, rfl⟩ (by first | assumption | exact Nat.le_of_ble_eq_true rfl | omega) (by first | assumption | exact Nat.le_of_ble_eq_true rfl | omega) (by decide) (by decide) rfl rfl rfl ?_
  refine t_run 1 rfl ?_
  refine t_gR k45_31 (by first | assumption | exact Nat.le_of_ble_eq_true rfl | omega) ⟨rfl, rfl, rfl⟩ rfl ?_
  refine t_run 2 rfl ?_
  refine t_gR k45_36 (by first | assumption | exact Nat.le_of_ble_eq_true rfl | omega) ⟨rfl, rfl, rfl⟩ rfl ?_
  refine t_run 2 rfl ?_
  refine t_cpy k45_42 (by omega) (Nat.le_of_ble_eq_true rfl) ⟨⟨rfl, rfl⟩, rfl, rfl⟩ (by first | assumption | exact Nat.le_of_ble_eq_true rfl | omega) (by first | assumption | exact Nat.le_of_ble_eq_true rfl | omega) (by decide) (by decide) rfl rfl rfl ?_
  refine t_run 2 rfl ?_
  refine t_gI k45_47 (by first | assumption | exact Nat.le_of_ble_eq_true rfl | omega) ⟨rfl, rfl, Or.inl rfl⟩ ?_
  rw [show (cF (cF (cF F 26 n 0 26 m 0 6) 27 n 0 27 m 0 6) 28 n 0 28 m 0 36) 25 m 3 = F 25 m 3 by simp [cF]]
  refine t_pI k45_50 (by first | assumption | exact Nat.le_of_ble_eq_true rfl | omega) ⟨rfl, rfl⟩ ?_
  refine t_run 2 rfl ?_
  refine t_gI k45_55 (by first | assumption | exact Nat.le_of_ble_eq_true rfl | omega) ⟨rfl, rfl, Or.inl rfl⟩ ?_
  rw [show uF (cF (cF (cF F 26 n 0 26 m 0 6) 27 n 0 27 m 0 6) 28 n 0 28 m 0 36) 25 n 3 (F 25 m 3) 25 m 4 = F 25 m 4 by simp [cF, uF]]
  refine t_pI k45_58 (by first | assumption | exact Nat.le_of_ble_eq_true rfl | omega) ⟨rfl, rfl⟩ ?_
  refine t_run 2 rfl ?_
  refine t_gI k45_63 (by first | assumption | exact Nat.le_of_ble_eq_true rfl | omega) ⟨rfl, rfl, Or.inl rfl⟩ ?_
  rw [show uF (uF (cF (cF (cF F 26 n 0 26 m 0 6) 27 n 0 27 m 0 6) 28 n 0 28 m 0 36) 25 n 3 (F 25 m 3)) 25 n 4 (F 25 m 4) 25 m 5 = F 25 m 5 by simp [cF, uF]]
  refine t_pI k45_66 (by first | assumption | exact Nat.le_of_ble_eq_true rfl | omega) ⟨rfl, rfl⟩ ?_
  refine t_run 2 rfl ?_
  refine t_gI k45_71 (by first | assumption | exact Nat.le_of_ble_eq_true rfl | omega) ⟨rfl, rfl, Or.inl rfl⟩ ?_
  rw [show uF (uF (uF (cF (cF (cF F 26 n 0 26 m 0 6) 27 n 0 27 m 0 6) 28 n 0 28 m 0 36) 25 n 3 (F 25 m 3)) 25 n 4 (F 25 m 4)) 25 n 5 (F 25 m 5) 25 m 6 = F 25 m 6 by simp [cF, uF]]
  refine t_pI k45_74 (by first | assumption | exact Nat.le_of_ble_eq_true rfl | omega) ⟨rfl, rfl⟩ ?_
  exact t_ret k45_77
theorem c_within  : Tm E d 114 0 [some (vi u), some (vi v), some (vi w)] [] (cC x) F G (Rs b) (some (vi (b2i (decide (v ≤ u) && decide (u ≤ w))))) (cC x, F, G, Rs b) := by
  refine t_run 2 rfl ?_
  refine t_ic_lt k114_2 (fun h2 => ?_) (fun h2 => ?_)
  · refine t_run 1 rfl ?_
    exact t_ib k114_15 (by simp_all [b2i, Int32.not_lt, Int32.not_le])
  · refine t_run 2 rfl ?_
    refine t_ic_gt k114_7 (fun h7 => ?_) (fun h7 => ?_)
    · refine t_run 1 rfl ?_
      exact t_ib k114_15 (by simp_all [b2i, Int32.not_lt, Int32.not_le])
    · refine t_run 2 rfl ?_
      exact t_ib k114_15 (by simp_all [b2i, Int32.not_lt, Int32.not_le])
end C1
