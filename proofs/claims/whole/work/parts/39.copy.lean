/-! COPIES AND FILLS -/
def fil (f : Nat → Int32) (N : Nat) (v : Int32) : Nat → Int32 := fun i => if i < N then v else f i
theorem fil_s (f : Nat → Int32) (i : Nat) (v : Int32) : upd (fil f i v) i v = fil f (i + 1) v := by
  funext j
  simp only [upd, fil]
  by_cases h : j = i
  · subst h
    simp
  · simp only [h, if_false]
    by_cases h2 : j < i
    · rw [if_pos h2, if_pos (by omega)]
    · rw [if_neg h2, if_neg (by omega)]
theorem fil_0 (f : Nat → Int32) (v : Int32) : fil f 0 v = f := by funext j; simp [fil]
section C1
variable {E : EV} {d x k n N m l p q : Nat} {F : FT} {G : GT} {b : Bool} {v u w : Int32} {A : LA} {s : ST}
theorem l_fill28 (hn : n < 27) : ∀ (r i : Nat), i ≤ 36 → 36 < i + r → Tm E d 250 5 [some (vr 28 n), some (vi v), some (vi (nI i)), some (vi (nI 36))] [] (cC x) (srow F 28 n (fil (F 28 n) i v)) G (Rs b) none (cC x, srow F 28 n (fil (F 28 n) 36 v), G, Rs b) := by
  intro r
  induction r with
  | zero => intros; omega
  | succ r ih =>
    intro i hi hr
    refine t_run 2 rfl ?_
    refine t_ic_ge k250_7 (fun h7 => ?_) (fun h7 => ?_)
    · have h7 := ge_nI h7 (b := 36) rfl (by omega) (by omega)
      have hip : i = 36 := by omega
      subst hip
      exact t_ret k250_20
    · have h7 := lt_nI h7 (b := 36) rfl (by omega) (by omega)
      refine t_run 3 rfl ?_
      refine t_is (N := 36) k250_13 (by first | assumption | exact Nat.le_of_ble_eq_true rfl | omega) ⟨rfl, rfl⟩ (by first | assumption | omega) rfl ?_
      rw [srow_u, fil_s]
      refine t_run 2 rfl ?_
      have k1 := ih (i + 1) (by omega) (by omega)
      rw [← nI_1] at k1
      exact k1
theorem c_fill28 (hn : n < 27) : Tm E d 250 0 [some (vr 28 n), some (vi v), none, none] [] (cC x) F G (Rs b) none (cC x, srow F 28 n (fil (F 28 n) 36 v), G, Rs b) := by
  refine t_run 3 rfl ?_
  refine t_al k250_3 (by first | assumption | exact Nat.le_of_ble_eq_true rfl | omega) ⟨⟨rfl, rfl⟩, ⟨Nat.le_of_ble_eq_true rfl, Nat.le_of_ble_eq_true rfl⟩, rfl⟩ ?_
  refine t_run 1 rfl ?_
  have k1 := l_fill28 (E := E) (d := d) (x := x) (F := F) (G := G) (b := b) (v := v) hn 37 0 (by omega) (by omega)
  rw [fil_0, srow_self] at k1
  exact k1
theorem l_fill24 (hn : n < 5) : ∀ (r i : Nat), i ≤ 6 → 6 < i + r → Tm E d 250 5 [some (vr 24 n), some (vi v), some (vi (nI i)), some (vi (nI 6))] [] (cC x) (srow F 24 n (fil (F 24 n) i v)) G (Rs b) none (cC x, srow F 24 n (fil (F 24 n) 6 v), G, Rs b) := by
  intro r
  induction r with
  | zero => intros; omega
  | succ r ih =>
    intro i hi hr
    refine t_run 2 rfl ?_
    refine t_ic_ge k250_7 (fun h7 => ?_) (fun h7 => ?_)
    · have h7 := ge_nI h7 (b := 6) rfl (by omega) (by omega)
      have hip : i = 6 := by omega
      subst hip
      exact t_ret k250_20
    · have h7 := lt_nI h7 (b := 6) rfl (by omega) (by omega)
      refine t_run 3 rfl ?_
      refine t_is (N := 6) k250_13 (by first | assumption | exact Nat.le_of_ble_eq_true rfl | omega) ⟨rfl, rfl⟩ (by first | assumption | omega) rfl ?_
      rw [srow_u, fil_s]
      refine t_run 2 rfl ?_
      have k1 := ih (i + 1) (by omega) (by omega)
      rw [← nI_1] at k1
      exact k1
theorem c_fill24 (hn : n < 5) : Tm E d 250 0 [some (vr 24 n), some (vi v), none, none] [] (cC x) F G (Rs b) none (cC x, srow F 24 n (fil (F 24 n) 6 v), G, Rs b) := by
  refine t_run 3 rfl ?_
  refine t_al k250_3 (by first | assumption | exact Nat.le_of_ble_eq_true rfl | omega) ⟨⟨rfl, rfl⟩, ⟨Nat.le_of_ble_eq_true rfl, Nat.le_of_ble_eq_true rfl⟩, rfl⟩ ?_
  refine t_run 1 rfl ?_
  have k1 := l_fill24 (E := E) (d := d) (x := x) (F := F) (G := G) (b := b) (v := v) hn 7 0 (by omega) (by omega)
  rw [fil_0, srow_self] at k1
  exact k1
theorem l_fill36 (hn : n < 1) : ∀ (r i : Nat), i ≤ 6 → 6 < i + r → Tm E d 250 5 [some (vr 36 n), some (vi v), some (vi (nI i)), some (vi (nI 6))] [] (cC x) (srow F 36 n (fil (F 36 n) i v)) G (Rs b) none (cC x, srow F 36 n (fil (F 36 n) 6 v), G, Rs b) := by
  intro r
  induction r with
  | zero => intros; omega
  | succ r ih =>
    intro i hi hr
    refine t_run 2 rfl ?_
    refine t_ic_ge k250_7 (fun h7 => ?_) (fun h7 => ?_)
    · have h7 := ge_nI h7 (b := 6) rfl (by omega) (by omega)
      have hip : i = 6 := by omega
      subst hip
      exact t_ret k250_20
    · have h7 := lt_nI h7 (b := 6) rfl (by omega) (by omega)
      refine t_run 3 rfl ?_
      refine t_is (N := 6) k250_13 (by first | assumption | exact Nat.le_of_ble_eq_true rfl | omega) ⟨rfl, rfl⟩ (by first | assumption | omega) rfl ?_
      rw [srow_u, fil_s]
      refine t_run 2 rfl ?_
      have k1 := ih (i + 1) (by omega) (by omega)
      rw [← nI_1] at k1
      exact k1
theorem c_fill36 (hn : n < 1) : Tm E d 250 0 [some (vr 36 n), some (vi v), none, none] [] (cC x) F G (Rs b) none (cC x, srow F 36 n (fil (F 36 n) 6 v), G, Rs b) := by
  refine t_run 3 rfl ?_
  refine t_al k250_3 (by first | assumption | exact Nat.le_of_ble_eq_true rfl | omega) ⟨⟨rfl, rfl⟩, ⟨Nat.le_of_ble_eq_true rfl, Nat.le_of_ble_eq_true rfl⟩, rfl⟩ ?_
  refine t_run 1 rfl ?_
  have k1 := l_fill36 (E := E) (d := d) (x := x) (F := F) (G := G) (b := b) (v := v) hn 7 0 (by omega) (by omega)
  rw [fil_0, srow_self] at k1
  exact k1
theorem l_fill3 (hn : n < 1) : ∀ (r i : Nat), i ≤ 25 → 25 < i + r → Tm E d 250 5 [some (vr 3 n), some (vi v), some (vi (nI i)), some (vi (nI 25))] [] (cC x) (srow F 3 n (fil (F 3 n) i v)) G (Rs b) none (cC x, srow F 3 n (fil (F 3 n) 25 v), G, Rs b) := by
  intro r
  induction r with
  | zero => intros; omega
  | succ r ih =>
    intro i hi hr
    refine t_run 2 rfl ?_
    refine t_ic_ge k250_7 (fun h7 => ?_) (fun h7 => ?_)
    · have h7 := ge_nI h7 (b := 25) rfl (by omega) (by omega)
      have hip : i = 25 := by omega
      subst hip
      exact t_ret k250_20
    · have h7 := lt_nI h7 (b := 25) rfl (by omega) (by omega)
      refine t_run 3 rfl ?_
      refine t_is (N := 25) k250_13 (by first | assumption | exact Nat.le_of_ble_eq_true rfl | omega) ⟨rfl, rfl⟩ (by first | assumption | omega) rfl ?_
      rw [srow_u, fil_s]
      refine t_run 2 rfl ?_
      have k1 := ih (i + 1) (by omega) (by omega)
      rw [← nI_1] at k1
      exact k1
theorem c_fill3 (hn : n < 1) : Tm E d 250 0 [some (vr 3 n), some (vi v), none, none] [] (cC x) F G (Rs b) none (cC x, srow F 3 n (fil (F 3 n) 25 v), G, Rs b) := by
  refine t_run 3 rfl ?_
  refine t_al k250_3 (by first | assumption | exact Nat.le_of_ble_eq_true rfl | omega) ⟨⟨rfl, rfl⟩, ⟨Nat.le_of_ble_eq_true rfl, Nat.le_of_ble_eq_true rfl⟩, rfl⟩ ?_
  refine t_run 1 rfl ?_
  have k1 := l_fill3 (E := E) (d := d) (x := x) (F := F) (G := G) (b := b) (v := v) hn 26 0 (by omega) (by omega)
  rw [fil_0, srow_self] at k1
  exact k1
theorem l_fill4 (hn : n < 1) : ∀ (r i : Nat), i ≤ 25 → 25 < i + r → Tm E d 250 5 [some (vr 4 n), some (vi v), some (vi (nI i)), some (vi (nI 25))] [] (cC x) (srow F 4 n (fil (F 4 n) i v)) G (Rs b) none (cC x, srow F 4 n (fil (F 4 n) 25 v), G, Rs b) := by
  intro r
  induction r with
  | zero => intros; omega
  | succ r ih =>
    intro i hi hr
    refine t_run 2 rfl ?_
    refine t_ic_ge k250_7 (fun h7 => ?_) (fun h7 => ?_)
    · have h7 := ge_nI h7 (b := 25) rfl (by omega) (by omega)
      have hip : i = 25 := by omega
      subst hip
      exact t_ret k250_20
    · have h7 := lt_nI h7 (b := 25) rfl (by omega) (by omega)
      refine t_run 3 rfl ?_
      refine t_is (N := 25) k250_13 (by first | assumption | exact Nat.le_of_ble_eq_true rfl | omega) ⟨rfl, rfl⟩ (by first | assumption | omega) rfl ?_
      rw [srow_u, fil_s]
      refine t_run 2 rfl ?_
      have k1 := ih (i + 1) (by omega) (by omega)
      rw [← nI_1] at k1
      exact k1
theorem c_fill4 (hn : n < 1) : Tm E d 250 0 [some (vr 4 n), some (vi v), none, none] [] (cC x) F G (Rs b) none (cC x, srow F 4 n (fil (F 4 n) 25 v), G, Rs b) := by
  refine t_run 3 rfl ?_
  refine t_al k250_3 (by first | assumption | exact Nat.le_of_ble_eq_true rfl | omega) ⟨⟨rfl, rfl⟩, ⟨Nat.le_of_ble_eq_true rfl, Nat.le_of_ble_eq_true rfl⟩, rfl⟩ ?_
  refine t_run 1 rfl ?_
  have k1 := l_fill4 (E := E) (d := d) (x := x) (F := F) (G := G) (b := b) (v := v) hn 26 0 (by omega) (by omega)
  rw [fil_0, srow_self] at k1
  exact k1
/-- a state is laid over another -/
def cpS (F : FT) (n m : Nat) : FT := fun k' n' i' =>
  if n' = n ∧ ((k' = 26 ∧ i' < 6) ∨ (k' = 27 ∧ i' < 6) ∨ (k' = 28 ∧ i' < 36) ∨ (k' = 25 ∧ 3 ≤ i' ∧ i' ≤ 6)) then F k' m i' else F k' n' i'
theorem cpS_eq (hnm : n ≠ m) : uF (uF (uF (uF (cF (cF (cF F 26 n 0 26 m 0 6) 27 n 0 27 m 0 6) 28 n 0 28 m 0 36) 25 n 3 (F 25 m 3)) 25 n 4 (F 25 m 4)) 25 n 5 (F 25 m 5)) 25 n 6 (F 25 m 6) = cpS F n m := by
  funext k' n' i'
  simp only [uF, cF, cpS, va_cpy]
  by_cases hn : n' = n
  · subst hn
    by_cases h1 : k' = 26
    · subst h1
      simp
    · by_cases h2 : k' = 27
      · subst h2
        simp
      · by_cases h3 : k' = 28
        · subst h3
          simp
        · by_cases h4 : k' = 25
          · subst h4
            by_cases e3 : i' = 3
            · subst e3; simp
            · by_cases e4 : i' = 4
              · subst e4; simp
              · by_cases e5 : i' = 5
                · subst e5; simp
                · by_cases e6 : i' = 6
                  · subst e6; simp
                  · have : ¬ (3 ≤ i' ∧ i' ≤ 6) := by omega
                    simp [e3, e4, e5, e6, this]
          · simp [h1, h2, h3, h4]
  · simp [hn]
theorem c_copyS (hn : n < 27) (hm : m < 27) (hnm : n ≠ m) (hd : 1 ≤ d) : Tm E d 45 0 [some (vr 25 n), some (vr 25 m)] [] (cC x) F G (Rs b) none (cC x, cpS F n m, G, Rs b) := by
  have hmn : ¬ m = n := fun e => hnm e.symm
  rw [← cpS_eq hnm]
  refine t_run 1 rfl ?_
  refine t_gR k45_1 (by first | assumption | exact Nat.le_of_ble_eq_true rfl | omega) ⟨rfl, rfl, rfl⟩ rfl ?_
  refine t_run 2 rfl ?_
  refine t_gR k45_6 (by first | assumption | exact Nat.le_of_ble_eq_true rfl | omega) ⟨rfl, rfl, rfl⟩ rfl ?_
  refine t_run 2 rfl ?_
  refine t_cpy k45_12 (by omega) (Nat.le_of_ble_eq_true rfl) ⟨⟨rfl, rfl⟩, rfl, rfl⟩ (by first | assumption | exact Nat.le_of_ble_eq_true rfl | omega) (by first | assumption | exact Nat.le_of_ble_eq_true rfl | omega) (by decide) (by decide) rfl rfl rfl ?_
  refine t_run 1 rfl ?_
  refine t_gR k45_16 (by first | assumption | exact Nat.le_of_ble_eq_true rfl | omega) ⟨rfl, rfl, rfl⟩ rfl ?_
  refine t_run 2 rfl ?_
  refine t_gR k45_21 (by first | assumption | exact Nat.le_of_ble_eq_true rfl | omega) ⟨rfl, rfl, rfl⟩ rfl ?_
  refine t_run 2 rfl ?_
  refine t_cpy k45_27 (by omega) (Nat.le_of_ble_eq_true rfl) ⟨⟨rfl, rfl⟩, rfl, rfl⟩ (by first | assumption | exact Nat.le_of_ble_eq_true rfl | omega) (by first | assumption | exact Nat.le_of_ble_eq_true rfl | omega) (by decide) (by decide) rfl rfl rfl ?_
  refine t_run 1 rfl ?_
  refine t_gR k45_31 (by first | assumption | exact Nat.le_of_ble_eq_true rfl | omega) ⟨rfl, rfl, rfl⟩ rfl ?_
  refine t_run 2 rfl ?_
  refine t_gR k45_36 (by first | assumption | exact Nat.le_of_ble_eq_true rfl | omega) ⟨rfl, rfl, rfl⟩ rfl ?_
  refine t_run 2 rfl ?_
  refine t_cpy k45_42 (by omega) (Nat.le_of_ble_eq_true rfl) ⟨⟨rfl, rfl⟩, rfl, rfl⟩ (by first | assumption | exact Nat.le_of_ble_eq_true rfl | omega) (by first | assumption | exact Nat.le_of_ble_eq_true rfl | omega) (by decide) (by decide) rfl rfl rfl ?_
  refine t_run 2 rfl ?_
  refine t_gI k45_47 (by first | assumption | exact Nat.le_of_ble_eq_true rfl | omega) ⟨rfl, rfl, Or.inl rfl⟩ ?_
  rw [show (cF (cF (cF F 26 n 0 26 m 0 6) 27 n 0 27 m 0 6) 28 n 0 28 m 0 36) 25 m 3 = F 25 m 3 by simp [cF]]
  refine t_pI k45_50 (by first | assumption | exact Nat.le_of_ble_eq_true rfl | omega) ⟨rfl, rfl⟩ ?_
  refine t_run 2 rfl ?_
  refine t_gI k45_55 (by first | assumption | exact Nat.le_of_ble_eq_true rfl | omega) ⟨rfl, rfl, Or.inl rfl⟩ ?_
  rw [show uF (cF (cF (cF F 26 n 0 26 m 0 6) 27 n 0 27 m 0 6) 28 n 0 28 m 0 36) 25 n 3 (F 25 m 3) 25 m 4 = F 25 m 4 by simp [cF, uF]]
  refine t_pI k45_58 (by first | assumption | exact Nat.le_of_ble_eq_true rfl | omega) ⟨rfl, rfl⟩ ?_
  refine t_run 2 rfl ?_
  refine t_gI k45_63 (by first | assumption | exact Nat.le_of_ble_eq_true rfl | omega) ⟨rfl, rfl, Or.inl rfl⟩ ?_
  rw [show uF (uF (cF (cF (cF F 26 n 0 26 m 0 6) 27 n 0 27 m 0 6) 28 n 0 28 m 0 36) 25 n 3 (F 25 m 3)) 25 n 4 (F 25 m 4) 25 m 5 = F 25 m 5 by simp [cF, uF]]
  refine t_pI k45_66 (by first | assumption | exact Nat.le_of_ble_eq_true rfl | omega) ⟨rfl, rfl⟩ ?_
  refine t_run 2 rfl ?_
  refine t_gI k45_71 (by first | assumption | exact Nat.le_of_ble_eq_true rfl | omega) ⟨rfl, rfl, Or.inl rfl⟩ ?_
  rw [show uF (uF (uF (cF (cF (cF F 26 n 0 26 m 0 6) 27 n 0 27 m 0 6) 28 n 0 28 m 0 36) 25 n 3 (F 25 m 3)) 25 n 4 (F 25 m 4)) 25 n 5 (F 25 m 5) 25 m 6 = F 25 m 6 by simp [cF, uF]]
  refine t_pI k45_74 (by first | assumption | exact Nat.le_of_ble_eq_true rfl | omega) ⟨rfl, rfl⟩ ?_
  exact t_ret k45_77
theorem a_copyS (hn : n < 27) (hm : m < 27) (hnm : n ≠ m) (hd : 1 ≤ d) {P : Nat} (hP : P ≤ 6) (h : CS F m P s) : Td E d 45 0 [some (vr 25 n), some (vr 25 m)] [] x F G b none (fun F2 G2 => G2 = G ∧ CS F2 n P s ∧ FrD (dSt n) F F2) := by
  refine td_T (c_copyS hn hm hnm hd) ⟨rfl, ⟨?_, ?_, ?_, ?_, ?_, ?_, ?_⟩, ?_⟩
  · intro j hj
    have := h.1 j hj
    rw [← this]
    simp [cpS, show j < 6 by omega]
  · have := h.2.1
    rw [← this]
    simp [cpS]
  · intro j hj
    have := h.2.2.1 j hj
    rw [← this]
    simp [svF, cpS, show j < 6 by omega]
  · intro j hj
    have := h.2.2.2.1 j hj
    rw [← this]
    simp [svF, cpS, hj]
  · have := h.2.2.2.2.1
    rw [← this]
    simp [cpS]
  · have := h.2.2.2.2.2.1
    rw [← this]
    simp [cpS]
  · have := h.2.2.2.2.2.2
    rw [← this]
    simp [cpS]
  · intro k1 m1 e
    funext j
    simp only [dSt, Bool.or_eq_false_iff, Bool.and_eq_false_iff, decide_eq_false_iff_not] at e
    simp only [cpS]
    rw [if_neg (by omega)]
theorem cF_k {k1 n1 a k2 n2 c m1 k3 : Nat} (h : k3 ≠ k1) : cF F k1 n1 a k2 n2 c m1 k3 = F k3 := by
  funext n' i'
  simp [cF, h]
theorem srow_k {k1 n1 k3 : Nat} {f : Nat → Int32} (h : k3 ≠ k1) : srow F k1 n1 f k3 = F k3 := by
  funext n' i'
  simp [srow, h]
theorem cF_at {k1 n1 k2 n2 m1 j : Nat} (h : j < m1) : cF F k1 n1 0 k2 n2 0 m1 k1 n1 j = F k2 n2 j := by
  simp [cF, va_cpy, h]
theorem cF_n {k1 n1 a k2 n2 c m1 k3 n3 : Nat} (h : n3 ≠ n1) : cF F k1 n1 a k2 n2 c m1 k3 n3 = F k3 n3 := by
  funext i'
  simp [cF, h]
theorem FrD.c {D : Nat → Nat → Bool} {F F2 : FT} (h : FrD D F F2) {k1 n1 a k2 n2 c m1 : Nat} (hD : D k1 n1 = true) : FrD D F (cF F2 k1 n1 a k2 n2 c m1) := by
  intro k3 m e
  rw [← h k3 m e]
  funext j
  simp only [cF]
  rw [if_neg]
  rintro ⟨rfl, rfl⟩
  rw [hD] at e
  cases e
theorem FrD.sr {D : Nat → Nat → Bool} {F F2 : FT} (h : FrD D F F2) {k1 n1 : Nat} {f : Nat → Int32} (hD : D k1 n1 = true) : FrD D F (srow F2 k1 n1 f) := by
  intro k3 m e
  rw [← h k3 m e]
  funext j
  simp only [srow]
  rw [if_neg]
  rintro ⟨rfl, rfl⟩
  rw [hD] at e
  cases e
theorem dSt_in {k1 : Nat} (h : 25 ≤ k1 ∧ k1 ≤ 28) : dSt n k1 n = true := by simp [dSt, h]
theorem a_begS (hn : n < 27) (hl : l < 2) (hL : CL F l A) (hA : wfL A) (hd : 1 ≤ d) : Td E d 44 0 [some (vr 25 n), some (vr 9 l)] [] x F G b none (fun F2 G2 => G2 = G ∧ CS F2 n (lP A) (begA A) ∧ FrD (dSt n) F F2) := by
  have h6 := hA.2.1
  refine d_run 1 rfl ?_
  refine d_gR k44_1 (by first | assumption | exact Nat.le_of_ble_eq_true rfl | omega) ⟨rfl, rfl, rfl⟩ rfl ?_
  refine d_run 2 rfl ?_
  refine d_gR k44_6 (by first | assumption | exact Nat.le_of_ble_eq_true rfl | omega) ⟨rfl, rfl, rfl⟩ rfl ?_
  refine d_run 2 rfl ?_
  refine d_cpy k44_12 (by omega) (Nat.le_of_ble_eq_true rfl) ⟨⟨rfl, rfl⟩, rfl, rfl⟩ (by first | assumption | exact Nat.le_of_ble_eq_true rfl | omega) (by first | assumption | exact Nat.le_of_ble_eq_true rfl | omega) (by decide) (by decide) rfl rfl rfl ?_
  refine d_run 1 rfl ?_
  refine d_gR k44_16 (by first | assumption | exact Nat.le_of_ble_eq_true rfl | omega) ⟨rfl, rfl, rfl⟩ rfl ?_
  refine d_run 2 rfl ?_
  refine d_gR k44_21 (by first | assumption | exact Nat.le_of_ble_eq_true rfl | omega) ⟨rfl, rfl, rfl⟩ rfl ?_
  refine d_run 2 rfl ?_
  refine d_cpy k44_27 (by omega) (Nat.le_of_ble_eq_true rfl) ⟨⟨rfl, rfl⟩, rfl, rfl⟩ (by first | assumption | exact Nat.le_of_ble_eq_true rfl | omega) (by first | assumption | exact Nat.le_of_ble_eq_true rfl | omega) (by decide) (by decide) rfl rfl rfl ?_
  refine d_run 1 rfl ?_
  refine d_gR k44_31 (by first | assumption | exact Nat.le_of_ble_eq_true rfl | omega) ⟨rfl, rfl, rfl⟩ rfl ?_
  refine d_run 1 rfl ?_
  refine d_callT 2 k44_35 (by omega) (Nat.le_of_ble_eq_true rfl) rfl (Nat.le_of_ble_eq_true rfl) (Nat.le_of_ble_eq_true rfl) recv_st rfl (c_fill28 (by omega)) rfl ?_
  refine d_run 2 rfl ?_
  refine d_pI k44_40 (by first | assumption | exact Nat.le_of_ble_eq_true rfl | omega) ⟨rfl, rfl⟩ ?_
  refine d_run 2 rfl ?_
  refine d_pI k44_45 (by first | assumption | exact Nat.le_of_ble_eq_true rfl | omega) ⟨rfl, rfl⟩ ?_
  refine d_run 2 rfl ?_
  refine d_pI k44_50 (by first | assumption | exact Nat.le_of_ble_eq_true rfl | omega) ⟨rfl, rfl⟩ ?_
  refine d_run 2 rfl ?_
  refine d_pI k44_55 (by first | assumption | exact Nat.le_of_ble_eq_true rfl | omega) ⟨rfl, rfl⟩ ?_
  refine d_ret k44_58 ?_
  refine ⟨rfl, ⟨?_, ?_, ?_, ?_, ?_, ?_, ?_⟩, ?_⟩
  · intro j hj
    have := hL.2.2.2.2.2.2.1 j hj
    simp only [begA, sAt, uF_k (show 26 ≠ 25 by decide), srow_k (show 26 ≠ 28 by decide), cF_k (show 26 ≠ 27 by decide)]
    rw [cF_at (by omega)]
    exact this
  · simp [uF, begA, sHr]
  · intro j hj
    have := hL.2.2.2.2.2.2.2.1 j hj
    simp only [begA, sV, svF, uF_k (show 27 ≠ 25 by decide), srow_k (show 27 ≠ 28 by decide)]
    rw [cF_at (by omega), cF_k (by decide)]
    exact this
  · intro j hj
    simp only [begA, sV, svF, uF_k (show 28 ≠ 25 by decide), srow_at, fil]
    rw [if_pos hj]
  · simp [uF, begA, sV, svF]
  · simp [uF, begA, sV, svF]
  · simp [uF, begA, sV, svF]
  · have h25 : dSt n 25 n = true := dSt_in (by decide)
    exact (((((((FrD.rf.c (dSt_in (by decide))).c (dSt_in (by decide))).sr (dSt_in (by decide))).u h25).u h25).u h25).u h25)
/-- lines of a week: how many, their rows -/
abbrev WK : Type := Nat × (Nat → Nat → Int32)
def CW (F : FT) (n : Nat) (w : WK) : Prop := F 19 n 3 = nI w.1 ∧ w.1 ≤ 40 ∧ eqR w.1 (F 20 n) (w.2 0) ∧ eqR w.1 (F 21 n) (w.2 1) ∧ eqR w.1 (F 22 n) (w.2 2)
def dWk (n k m : Nat) : Bool := decide (19 ≤ k) && decide (k ≤ 22) && decide (m = n)
theorem dWk_in {k1 : Nat} (h : 19 ≤ k1 ∧ k1 ≤ 22) : dWk n k1 n = true := by simp [dWk, h]
theorem CW.fr {F F2 : FT} {w : WK} (h : CW F n w) (hf : ∀ k, 19 ≤ k → k ≤ 22 → F2 k n = F k n) : CW F2 n w := by
  obtain ⟨h1, h2, h3, h4, h5⟩ := h
  refine ⟨?_, h2, ?_, ?_, ?_⟩
  · rw [hf 19 (by omega) (by omega)]; exact h1
  · rw [hf 20 (by omega) (by omega)]; exact h3
  · rw [hf 21 (by omega) (by omega)]; exact h4
  · rw [hf 22 (by omega) (by omega)]; exact h5
theorem a_copyW {w : WK} (hn : n < 6) (hm : m < 6) (hnm : n ≠ m) (hd : 1 ≤ d) (h : CW F m w) : Td E d 84 0 [some (vr 19 n), some (vr 19 m)] [] x F G b none (fun F2 G2 => G2 = G ∧ CW F2 n w ∧ FrD (dWk n) F F2) := by
  obtain ⟨h1, h2, h3, h4, h5⟩ := h
  have hmn : m ≠ n := fun e => hnm e.symm
  refine d_run 2 rfl ?_
  refine d_gI k84_2 (by first | assumption | exact Nat.le_of_ble_eq_true rfl | omega) ⟨rfl, rfl, Or.inl rfl⟩ ?_
  rw [h1]
  refine d_pI k84_5 (by first | assumption | exact Nat.le_of_ble_eq_true rfl | omega) ⟨rfl, rfl⟩ ?_
  refine d_run 1 rfl ?_
  refine d_gR k84_9 (by first | assumption | exact Nat.le_of_ble_eq_true rfl | omega) ⟨rfl, rfl, rfl⟩ rfl ?_
  refine d_run 2 rfl ?_
  refine d_gR k84_14 (by first | assumption | exact Nat.le_of_ble_eq_true rfl | omega) ⟨rfl, rfl, rfl⟩ rfl ?_
  refine d_run 2 rfl ?_
  refine d_gI k84_19 (by first | assumption | exact Nat.le_of_ble_eq_true rfl | omega) ⟨rfl, rfl, Or.inl rfl⟩ ?_
  rw [show uF F 19 n 3 (nI w.1) 19 n 3 = nI w.1 by simp [uF]]
  refine d_cpy k84_22 (by omega) (Nat.le_of_ble_eq_true rfl) ⟨⟨rfl, rfl⟩, rfl, rfl⟩ (by first | assumption | exact Nat.le_of_ble_eq_true rfl | omega) (by first | assumption | exact Nat.le_of_ble_eq_true rfl | omega) (show 0 + w.1 ≤ 40 by omega) (show 0 + w.1 ≤ 40 by omega) rfl rfl rfl ?_
  refine d_run 1 rfl ?_
  refine d_gR k84_26 (by first | assumption | exact Nat.le_of_ble_eq_true rfl | omega) ⟨rfl, rfl, rfl⟩ rfl ?_
  refine d_run 2 rfl ?_
  refine d_gR k84_31 (by first | assumption | exact Nat.le_of_ble_eq_true rfl | omega) ⟨rfl, rfl, rfl⟩ rfl ?_
  refine d_run 2 rfl ?_
  refine d_gI k84_36 (by first | assumption | exact Nat.le_of_ble_eq_true rfl | omega) ⟨rfl, rfl, Or.inl rfl⟩ ?_
  rw [show cF (uF F 19 n 3 (nI w.1)) 20 n 0 20 m 0 w.1 19 n 3 = nI w.1 by simp [cF, uF]]
  refine d_cpy k84_39 (by omega) (Nat.le_of_ble_eq_true rfl) ⟨⟨rfl, rfl⟩, rfl, rfl⟩ (by first | assumption | exact Nat.le_of_ble_eq_true rfl | omega) (by first | assumption | exact Nat.le_of_ble_eq_true rfl | omega) (show 0 + w.1 ≤ 40 by omega) (show 0 + w.1 ≤ 40 by omega) rfl rfl rfl ?_
  refine d_run 1 rfl ?_
  refine d_gR k84_43 (by first | assumption | exact Nat.le_of_ble_eq_true rfl | omega) ⟨rfl, rfl, rfl⟩ rfl ?_
  refine d_run 2 rfl ?_
  refine d_gR k84_48 (by first | assumption | exact Nat.le_of_ble_eq_true rfl | omega) ⟨rfl, rfl, rfl⟩ rfl ?_
  refine d_run 2 rfl ?_
  refine d_gI k84_53 (by first | assumption | exact Nat.le_of_ble_eq_true rfl | omega) ⟨rfl, rfl, Or.inl rfl⟩ ?_
  rw [show cF (cF (uF F 19 n 3 (nI w.1)) 20 n 0 20 m 0 w.1) 21 n 0 21 m 0 w.1 19 n 3 = nI w.1 by simp [cF, uF]]
  refine d_cpy k84_56 (by omega) (Nat.le_of_ble_eq_true rfl) ⟨⟨rfl, rfl⟩, rfl, rfl⟩ (by first | assumption | exact Nat.le_of_ble_eq_true rfl | omega) (by first | assumption | exact Nat.le_of_ble_eq_true rfl | omega) (show 0 + w.1 ≤ 40 by omega) (show 0 + w.1 ≤ 40 by omega) rfl rfl rfl ?_
  refine d_ret k84_59 ?_
  refine ⟨rfl, ⟨?_, h2, ?_, ?_, ?_⟩, ?_⟩
  · simp [cF, uF]
  · intro j hj
    rw [cF_k (by decide), cF_k (by decide), cF_at hj, uF_k (by decide)]
    exact h3 j hj
  · intro j hj
    rw [cF_k (by decide), cF_at hj, cF_k (by decide), uF_k (by decide)]
    exact h4 j hj
  · intro j hj
    rw [cF_at hj, cF_k (by decide), cF_k (by decide), uF_k (by decide)]
    exact h5 j hj
  · exact (((FrD.rf.u (dWk_in (by decide))).c (dWk_in (by decide))).c (dWk_in (by decide))).c (dWk_in (by decide))
def isW2 (u v w : Int32) : Bool := decide (v ≤ u) && decide (u ≤ w)
/-- one of the first P numbers -/
def isN (u : Int32) (P : Nat) : Bool := decide (0 ≤ u) && decide (u < nI P)
theorem isN_ex {P : Nat} (h : isN u P = true) (hP : P < 1000) : ∃ p, p < P ∧ u = nI p := by
  simp only [isN, Bool.and_eq_true, decide_eq_true_eq] at h
  obtain ⟨j, hj, e⟩ := nI_of (x := u) (Int32.not_lt.mpr h.1)
  refine ⟨j, ?_, e⟩
  rw [e, nI_ltI hj (by omega)] at h
  exact h.2
theorem isN_nI {P : Nat} (h : p < P) (hP : P < 1000) : isN (nI p) P = true := by
  simp only [isN, Bool.and_eq_true, decide_eq_true_eq]
  exact ⟨nI_pos' (by omega), (nI_ltI (by omega) (by omega)).mpr h⟩
def isTwo (u v : Int32) (P : Nat) : Bool := isN u P && isN v P && decide (¬ u = v)
/-- the number of the land that stands -/
abbrev lx (b : Bool) : Nat := if b then 1 else 0
theorem lx2 (b : Bool) : lx b < 2 := by cases b <;> decide
theorem Rs_land (b : Bool) : Rs b 1 0 2 = some (lx b) := rfl
theorem c_within  : Tm E d 114 0 [some (vi u), some (vi v), some (vi w)] [] (cC x) F G (Rs b) (some (vi (b2i (isW2 u v w)))) (cC x, F, G, Rs b) := by
  refine t_run 2 rfl ?_
  refine t_ic_lt k114_2 (fun h2 => ?_) (fun h2 => ?_)
  · have h2 : ¬ v ≤ u := Int32.not_le.mpr h2
    refine t_run 1 rfl ?_
    exact t_ib k114_15 (by simp [isW2, b2i, *])
  · have h2 : v ≤ u := Int32.not_lt.mp h2
    refine t_run 2 rfl ?_
    refine t_ic_gt k114_7 (fun h7 => ?_) (fun h7 => ?_)
    · have h7 : ¬ u ≤ w := Int32.not_le.mpr h7
      refine t_run 1 rfl ?_
      exact t_ib k114_15 (by simp [isW2, b2i, *])
    · have h7 : u ≤ w := Int32.not_lt.mp h7
      refine t_run 2 rfl ?_
      exact t_ib k114_15 (by simp [isW2, b2i, *])
theorem a_isP (hL : CL F (lx b) A) : Tm E d 115 0 [some (vr 1 0), some (vi u)] [] (cC x) F G (Rs b) (some (vi (b2i (isN u (lP A))))) (cC x, F, G, Rs b) := by
  refine t_run 1 rfl ?_
  refine t_if_lt k115_1 (fun h1 => ?_) (fun h1 => ?_)
  · have h1 : ¬ 0 ≤ u := Int32.not_le.mpr h1
    refine t_run 1 rfl ?_
    exact t_ib k115_20 (by simp [isN, b2i, *])
  · have h1 : 0 ≤ u := Int32.not_lt.mp h1
    refine t_run 2 rfl ?_
    refine t_gR k115_6 (by first | assumption | exact Nat.le_of_ble_eq_true rfl | omega) ⟨rfl, rfl, rfl⟩ (Rs_land b) ?_
    refine t_gI k115_9 (lx2 b) ⟨rfl, rfl, Or.inl rfl⟩ ?_
    rw [hL.2.1]
    refine t_ic_ge k115_12 (fun h12 => ?_) (fun h12 => ?_)
    · have h12 : ¬ u < nI (lP A) := Int32.not_lt.mpr h12
      refine t_run 1 rfl ?_
      exact t_ib k115_20 (by simp [isN, b2i, *])
    · have h12 : u < nI (lP A) := Int32.not_le.mp h12
      refine t_run 2 rfl ?_
      exact t_ib k115_20 (by simp [isN, b2i, *])
theorem a_isS (hL : CL F (lx b) A) : Tm E d 116 0 [some (vr 1 0), some (vi u)] [] (cC x) F G (Rs b) (some (vi (b2i (isN u (lS A))))) (cC x, F, G, Rs b) := by
  refine t_run 1 rfl ?_
  refine t_if_lt k116_1 (fun h1 => ?_) (fun h1 => ?_)
  · have h1 : ¬ 0 ≤ u := Int32.not_le.mpr h1
    refine t_run 1 rfl ?_
    exact t_ib k116_20 (by simp [isN, b2i, *])
  · have h1 : 0 ≤ u := Int32.not_lt.mp h1
    refine t_run 2 rfl ?_
    refine t_gR k116_6 (by first | assumption | exact Nat.le_of_ble_eq_true rfl | omega) ⟨rfl, rfl, rfl⟩ (Rs_land b) ?_
    refine t_gI k116_9 (lx2 b) ⟨rfl, rfl, Or.inl rfl⟩ ?_
    rw [hL.1]
    refine t_ic_ge k116_12 (fun h12 => ?_) (fun h12 => ?_)
    · have h12 : ¬ u < nI (lS A) := Int32.not_lt.mpr h12
      refine t_run 1 rfl ?_
      exact t_ib k116_20 (by simp [isN, b2i, *])
    · have h12 : u < nI (lS A) := Int32.not_le.mp h12
      refine t_run 2 rfl ?_
      exact t_ib k116_20 (by simp [isN, b2i, *])
theorem a_isTwo (hL : CL F (lx b) A) (hd : 1 ≤ d) : Tm E d 117 0 [some (vr 1 0), some (vi u), some (vi v)] [] (cC x) F G (Rs b) (some (vi (b2i (isTwo u v (lP A))))) (cC x, F, G, Rs b) := by
  refine t_run 2 rfl ?_
  refine t_call 2 k117_2 (by omega) (Nat.le_of_ble_eq_true rfl) rfl (Nat.le_of_ble_eq_true rfl) (Nat.le_of_ble_eq_true rfl) (recv_ok rfl (by first | assumption | exact Nat.le_of_ble_eq_true rfl | omega)) rfl (a_isP hL) rfl ?_
  refine t_if_eq k117_5 (fun h5 => ?_) (fun h5 => ?_)
  · refine t_run 1 rfl ?_
    exact t_ib k117_26 (by simp_all [isTwo, b2i0, b2i1]; simp_all [b2i])
  · refine t_run 2 rfl ?_
    refine t_call 2 k117_10 (by omega) (Nat.le_of_ble_eq_true rfl) rfl (Nat.le_of_ble_eq_true rfl) (Nat.le_of_ble_eq_true rfl) (recv_ok rfl (by first | assumption | exact Nat.le_of_ble_eq_true rfl | omega)) rfl (a_isP hL) rfl ?_
    refine t_if_eq k117_13 (fun h13 => ?_) (fun h13 => ?_)
    · refine t_run 1 rfl ?_
      exact t_ib k117_26 (by simp_all [isTwo, b2i0, b2i1]; simp_all [b2i])
    · refine t_run 2 rfl ?_
      refine t_ic_eq k117_18 (fun h18 => ?_) (fun h18 => ?_)
      · refine t_run 1 rfl ?_
        exact t_ib k117_26 (by simp_all [isTwo, b2i0, b2i1]; simp_all [b2i])
      · refine t_run 2 rfl ?_
        exact t_ib k117_26 (by simp_all [isTwo, b2i0, b2i1]; simp_all [b2i])
end C1
