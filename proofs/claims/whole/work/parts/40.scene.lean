/-! SCENES AND THE PAST -/
abbrev SC : Type := ST × (WK × (Nat → Int32))
def CTl (F : FT) (n : Nat) (t : Nat → Int32) : Prop := eqR 6 (F 24 n) t
def CSc (F : FT) (n P : Nat) (c : SC) : Prop := CS F n P c.1 ∧ CW F (n + 1) c.2.1 ∧ CTl F n c.2.2
def dSc (n k m : Nat) : Bool := dSt n k m || dWk (n + 1) k m || (decide (k = 24) && decide (m = n))
theorem CSc.fr {F F2 : FT} {n P : Nat} {c : SC} (h : CSc F n P c) (hf : ∀ k, 24 ≤ k → k ≤ 28 → F2 k n = F k n) (hf2 : ∀ k, 19 ≤ k → k ≤ 22 → F2 k (n + 1) = F k (n + 1)) : CSc F2 n P c := by
  obtain ⟨h1, h2, h3⟩ := h
  refine ⟨h1.fr (fun k a b => hf k (by omega) b), h2.fr hf2, ?_⟩
  simp only [CTl]
  rw [hf 24 (by omega) (by omega)]
  exact h3
def begC (A : LA) : SC := (begA A, (0, fun _ _ => 0), fun _ => -1)
def tcn (t : Nat → Int32) : Nat → Int32
  | 0 => 0
  | k + 1 => if t k = -1 then tcn t k else tcn t k + 1
theorem tcn_c {t u : Nat → Int32} : ∀ {k : Nat}, (∀ i, i < k → t i = u i) → tcn t k = tcn u k
  | 0, _ => rfl
  | k + 1, e => by
    simp only [tcn]
    rw [e k (by omega), tcn_c (k := k) (fun i hi => e i (by omega))]
section C2
variable {E : EV} {d x k n m l p q : Nat} {F : FT} {G : GT} {b : Bool} {v u : Int32} {A : LA} {s : ST} {c : SC}
theorem dSc_1 {k1 m1 : Nat} (h : dSc n k1 m1 = false) : dSt n k1 m1 = false := by
  simp only [dSc, Bool.or_eq_false_iff] at h
  exact h.1.1
theorem dSc_2 {k1 m1 : Nat} (h : dSc n k1 m1 = false) : dWk (n + 1) k1 m1 = false := by
  simp only [dSc, Bool.or_eq_false_iff] at h
  exact h.1.2
theorem a_begSc (hn : n < 5) (hl : l < 2) (hL : CL F l A) (hA : wfL A) (hd : 2 ≤ d) : Td E d 40 0 [some (vr 23 n), some (vr 9 l)] [] x F G b none (fun F2 G2 => G2 = G ∧ CSc F2 n (lP A) (begC A) ∧ FrD (dSc n) F F2) := by
  refine d_run 1 rfl ?_
  refine d_gR k40_1 (by first | assumption | exact Nat.le_of_ble_eq_true rfl | omega | exact Nat.lt_of_lt_of_le (m := 5) (by omega) (Nat.le_of_ble_eq_true rfl)) ⟨rfl, rfl, rfl⟩ rfl ?_
  refine d_run 1 rfl ?_
  refine d_call 2 k40_5 (by omega) (Nat.le_of_ble_eq_true rfl) rfl (Nat.le_of_ble_eq_true rfl) (Nat.le_of_ble_eq_true rfl) (recv_ok rfl (by first | assumption | exact Nat.le_of_ble_eq_true rfl | omega | exact Nat.lt_of_lt_of_le (m := 27) (by omega) (Nat.le_of_ble_eq_true rfl))) rfl (a_begS (n := n) (l := l) (A := A) (by omega) hl hL hA (by omega)) rfl ?_
  rintro F1 G1 ⟨rfl, k1, f1⟩
  refine d_run 1 rfl ?_
  refine d_gR k40_9 (by first | assumption | exact Nat.le_of_ble_eq_true rfl | omega | exact Nat.lt_of_lt_of_le (m := 5) (by omega) (Nat.le_of_ble_eq_true rfl)) ⟨rfl, rfl, rfl⟩ rfl ?_
  refine d_run 1 rfl ?_
  refine d_pI k40_13 (by first | assumption | exact Nat.le_of_ble_eq_true rfl | omega | exact Nat.lt_of_lt_of_le (m := 6) (by omega) (Nat.le_of_ble_eq_true rfl)) ⟨rfl, rfl⟩ ?_
  refine d_run 1 rfl ?_
  refine d_gR k40_17 (by first | assumption | exact Nat.le_of_ble_eq_true rfl | omega | exact Nat.lt_of_lt_of_le (m := 5) (by omega) (Nat.le_of_ble_eq_true rfl)) ⟨rfl, rfl, rfl⟩ rfl ?_
  refine d_run 1 rfl ?_
  refine d_callT 2 k40_21 (by omega) (Nat.le_of_ble_eq_true rfl) rfl (Nat.le_of_ble_eq_true rfl) (Nat.le_of_ble_eq_true rfl) recv_st rfl (c_fill24 (by omega)) rfl ?_
  refine d_ret k40_24 ?_
  refine ⟨rfl, ⟨?_, ⟨?_, Nat.zero_le _, ?_, ?_, ?_⟩, ?_⟩, ?_⟩
  · refine k1.fr (fun k a b => ?_)
    rw [srow_k (by omega), uF_k (by omega)]
  · rw [srow_k (by decide)]
    simp [uF, begC]
    rfl
  · intro j hj
    simp [begC] at hj
  · intro j hj
    simp [begC] at hj
  · intro j hj
    simp [begC] at hj
  · intro j hj
    rw [srow_at]
    simp only [fil, begC]
    rw [if_pos hj]
  · have f2 : FrD (dSc n) F F1 := f1.mo (fun _ _ h => dSc_1 h)
    refine (f2.u ?_).sr ?_
    · simp [dSc, dWk]
    · simp [dSc]
theorem a_copySc (hn : n < 5) (hm : m < 5) (hnm : n ≠ m) {P : Nat} (hP : P ≤ 6) (h : CSc F m P c) (hd : 2 ≤ d) : Td E d 41 0 [some (vr 23 n), some (vr 23 m)] [] x F G b none (fun F2 G2 => G2 = G ∧ CSc F2 n P c ∧ FrD (dSc n) F F2) := by
  refine d_run 1 rfl ?_
  refine d_gR k41_1 (by first | assumption | exact Nat.le_of_ble_eq_true rfl | omega | exact Nat.lt_of_lt_of_le (m := 5) (by omega) (Nat.le_of_ble_eq_true rfl)) ⟨rfl, rfl, rfl⟩ rfl ?_
  refine d_run 1 rfl ?_
  refine d_gR k41_5 (by first | assumption | exact Nat.le_of_ble_eq_true rfl | omega | exact Nat.lt_of_lt_of_le (m := 5) (by omega) (Nat.le_of_ble_eq_true rfl)) ⟨rfl, rfl, rfl⟩ rfl ?_
  refine d_call 2 k41_8 (by omega) (Nat.le_of_ble_eq_true rfl) rfl (Nat.le_of_ble_eq_true rfl) (Nat.le_of_ble_eq_true rfl) (recv_ok rfl (by first | assumption | exact Nat.le_of_ble_eq_true rfl | omega | exact Nat.lt_of_lt_of_le (m := 27) (by omega) (Nat.le_of_ble_eq_true rfl))) rfl (a_copyS (n := n) (m := m) (by omega) (by omega) hnm (by omega) hP h.1) rfl ?_
  rintro F1 G1 ⟨rfl, k1, f1⟩
  refine d_run 1 rfl ?_
  refine d_gR k41_12 (by first | assumption | exact Nat.le_of_ble_eq_true rfl | omega | exact Nat.lt_of_lt_of_le (m := 5) (by omega) (Nat.le_of_ble_eq_true rfl)) ⟨rfl, rfl, rfl⟩ rfl ?_
  refine d_run 1 rfl ?_
  refine d_gR k41_16 (by first | assumption | exact Nat.le_of_ble_eq_true rfl | omega | exact Nat.lt_of_lt_of_le (m := 5) (by omega) (Nat.le_of_ble_eq_true rfl)) ⟨rfl, rfl, rfl⟩ rfl ?_
  refine d_call 2 k41_19 (by omega) (Nat.le_of_ble_eq_true rfl) rfl (Nat.le_of_ble_eq_true rfl) (Nat.le_of_ble_eq_true rfl) (recv_ok rfl (by first | assumption | exact Nat.le_of_ble_eq_true rfl | omega | exact Nat.lt_of_lt_of_le (m := 6) (by omega) (Nat.le_of_ble_eq_true rfl))) rfl (a_copyW (n := n + 1) (m := m + 1) (w := c.2.1) (by omega) (by omega) (by omega) (by omega) (h.2.1.fr (fun k a b => f1 k _ (dSt_no (by omega) (by omega))))) rfl ?_
  rintro F3 G3 ⟨rfl, k3, f3⟩
  refine d_run 1 rfl ?_
  refine d_gR k41_23 (by first | assumption | exact Nat.le_of_ble_eq_true rfl | omega | exact Nat.lt_of_lt_of_le (m := 5) (by omega) (Nat.le_of_ble_eq_true rfl)) ⟨rfl, rfl, rfl⟩ rfl ?_
  refine d_run 2 rfl ?_
  refine d_gR k41_28 (by first | assumption | exact Nat.le_of_ble_eq_true rfl | omega | exact Nat.lt_of_lt_of_le (m := 5) (by omega) (Nat.le_of_ble_eq_true rfl)) ⟨rfl, rfl, rfl⟩ rfl ?_
  refine d_run 2 rfl ?_
  refine d_cpy k41_34 (by omega) (Nat.le_of_ble_eq_true rfl) ⟨⟨rfl, rfl⟩, rfl, rfl⟩ (by first | assumption | exact Nat.le_of_ble_eq_true rfl | omega) (by first | assumption | exact Nat.le_of_ble_eq_true rfl | omega) (by decide) (by decide) rfl rfl rfl ?_
  refine d_ret k41_37 ?_
  refine ⟨rfl, ⟨?_, ?_, ?_⟩, ?_⟩
  · refine k1.fr (fun k a b => ?_)
    rw [cF_k (by omega)]
    exact f3 k n (by simp only [dWk, Bool.and_eq_false_iff, decide_eq_false_iff_not]; omega)
  · refine k3.fr (fun k a b => ?_)
    rw [cF_k (by omega)]
  · intro j hj
    rw [cF_at hj, f3 24 m (by simp [dWk]), f1 24 m (dSt_no (by omega) (by omega))]
    exact h.2.2 j hj
  · have f2 : FrD (dSc n) F F1 := f1.mo (fun _ _ h => dSc_1 h)
    have f4 : FrD (dSc n) F1 F3 := f3.mo (fun _ _ h => dSc_2 h)
    refine (f2.tr f4).c ?_
    simp [dSc]
theorem l_tales {t : Nat → Int32} (hn : n < 5) (h : CTl F n t) : ∀ (r : Nat) (i : Nat) (acc iv : Int32), iv = nI i → i ≤ 6 → 6 < i + r → acc = tcn t i → Tm E d 42 4 [some (vr 23 n), some (vi acc), some (vi iv)] [] (cC x) F G (Rs b) (some (vi (tcn t 6))) (cC x, F, G, Rs b) := by
  intro r
  induction r with
  | zero => intros; omega
  | succ r ih =>
    intro i acc iv e hi hr ha
    subst e
    refine t_run 2 rfl ?_
    refine t_ic_ge k42_7 (fun h7 => ?_) (fun h7 => ?_)
    · have h7 := ge_nI h7 (b := 6) rfl (by omega) (by omega)
      have hip : i = 6 := by omega
      subst hip
      refine t_run 1 rfl ?_
      exact t_ir k42_30 rfl (by exact ha)
    · have h7 := lt_nI h7 (b := 6) rfl (by omega) (by omega)
      refine t_run 1 rfl ?_
      refine t_gR k42_11 (by first | assumption | exact Nat.le_of_ble_eq_true rfl | omega) ⟨rfl, rfl, rfl⟩ rfl ?_
      refine t_run 1 rfl ?_
      refine t_ia (N := 6) k42_15 (by decide) (by first | assumption | exact Nat.le_of_ble_eq_true rfl | omega) ⟨⟨rfl, rfl⟩, rfl, rfl⟩ (by first | assumption | omega) rfl ?_
      rw [h i (by omega)]
      refine t_run 1 rfl ?_
      refine t_ic_eq k42_17 (fun h17 => ?_) (fun h17 => ?_)
      · have hh : t i = -1 := h17
        refine t_run 2 rfl ?_
        exact ih (i + 1) _ _ (nI_1 i) (by omega) (by omega) (by simp [tcn, hh, ha])
      · have hh : ¬ t i = -1 := h17
        refine t_run 3 rfl ?_
        exact ih (i + 1) _ _ (nI_1 i) (by omega) (by omega) (by simp [tcn, hh, ha])
theorem a_talesTold {t : Nat → Int32} (hn : n < 5) (h : CTl F n t) : Tm E d 42 0 [some (vr 23 n), none, none] [] (cC x) F G (Rs b) (some (vi (tcn t 6))) (cC x, F, G, Rs b) := by
  refine t_run 4 rfl ?_
  exact l_tales hn h 7 0 _ _ rfl (by omega) (by omega) rfl
/-- how it was ahead of the last doings, the last first -/
def CPa (F : FT) (P : Nat) (ps : List ST) : Prop := ∃ nw, nw < 16 ∧ F 29 0 1 = nI nw ∧ F 29 0 2 = nI ps.length ∧ ps.length ≤ 16 ∧ ∀ j (hj : j < ps.length), CS F (5 + (nw + 16 - j) % 16) P ps[j]
def dPa (k m : Nat) : Bool := (decide (25 ≤ k) && decide (k ≤ 28) && decide (5 ≤ m) && decide (m ≤ 20)) || decide (k = 29) || decide (k = 18)
theorem CPa.fr {F F2 : FT} {P : Nat} {ps : List ST} (h : CPa F P ps) (hf : ∀ k m, 25 ≤ k → k ≤ 28 → 5 ≤ m → m ≤ 20 → F2 k m = F k m) (hf2 : F2 29 0 = F 29 0) : CPa F2 P ps := by
  obtain ⟨nw, h1, h2, h3, h4, h5⟩ := h
  refine ⟨nw, h1, ?_, ?_, h4, fun j hj => (h5 j hj).fr (fun k a b => hf k _ a b (by omega) (by omega))⟩
  · rw [hf2]; exact h2
  · rw [hf2]; exact h3
theorem rem16 {a : Nat} (ha : a < 1000) : nI a - nI a / 16 * 16 = nI (a % 16) := pk_rem (d := 16) (by omega) (by decide) (by decide)
theorem Rs_ring {j : Nat} : Rs b 30 0 j = some (5 + j) := rfl
theorem a_keep {ps : List ST} (hn : n < 5) {P : Nat} (hP : P ≤ 6) (h : CS F n P s) (hp : CPa F P ps) (hd : 2 ≤ d) : Td E d 21 0 [some (vr 29 0), some (vr 25 n)] [] x F G b none (fun F2 G2 => G2 = G ∧ CPa F2 P ((s :: ps).take 16) ∧ FrD dPa F F2) := by
  obtain ⟨nw, h1, h2, h3, h4, h5⟩ := hp
  refine d_run 2 rfl ?_
  refine d_gI k21_2 (by first | assumption | exact Nat.le_of_ble_eq_true rfl | omega) ⟨rfl, rfl, Or.inl rfl⟩ ?_
  rw [h2]
  refine d_run 4 rfl ?_
  rw [show (ibop 0 (nI nw) 1) - (ibop 0 (nI nw) 1) / 16 * 16 = nI ((nw + 1) % 16) from (by show (nI nw + 1) - (nI nw + 1) / 16 * 16 = _; rw [nI_1]; exact rem16 (by omega))]
  refine d_pI k21_10 (by first | assumption | exact Nat.le_of_ble_eq_true rfl | omega) ⟨rfl, rfl⟩ ?_
  refine d_run 1 rfl ?_
  refine d_gR k21_14 (by first | assumption | exact Nat.le_of_ble_eq_true rfl | omega) ⟨rfl, rfl, rfl⟩ rfl ?_
  refine d_run 1 rfl ?_
  refine d_gI k21_18 (by first | assumption | exact Nat.le_of_ble_eq_true rfl | omega) ⟨rfl, rfl, Or.inl rfl⟩ ?_
  rw [show uF F 29 0 1 (nI ((nw + 1) % 16)) 29 0 1 = nI ((nw + 1) % 16) by simp [uF]]
  refine d_ra (N := 16) k21_21 (by first | assumption | exact Nat.le_of_ble_eq_true rfl | omega) ⟨⟨rfl, rfl⟩, rfl, rfl, rfl⟩ (show (nw + 1) % 16 < 16 by omega) rfl Rs_ring ?_
  refine d_run 1 rfl ?_
  refine d_call 2 k21_23 (by omega) (Nat.le_of_ble_eq_true rfl) rfl (Nat.le_of_ble_eq_true rfl) (Nat.le_of_ble_eq_true rfl) (recv_ok rfl (show 5 + (nw + 1) % 16 < 27 by omega)) rfl (a_copyS (n := 5 + (nw + 1) % 16) (m := n) (by omega) (by omega) (by omega) (by omega) hP (h.fr (fun k a b => by rw [uF_k (by omega)]))) rfl ?_
  rintro F1 G1 ⟨rfl, k1, f1⟩
  refine d_run 3 rfl ?_
  refine d_gI k21_30 (by first | assumption | exact Nat.le_of_ble_eq_true rfl | omega) ⟨rfl, rfl, Or.inl rfl⟩ ?_
  have e2 : F1 29 0 2 = nI ps.length := by
    rw [f1 29 0 (dSt_no (by omega) (by omega))]
    simp [uF, h3]
  rw [e2]
  refine d_run 2 rfl ?_
  refine d_min k21_35 (by omega) (Nat.le_of_ble_eq_true rfl) ?_
  rw [show (if ibop 0 (nI ps.length) 1 < 16 then ibop 0 (nI ps.length) 1 else 16) = nI ((s :: ps).take 16).length from (by
      show (if nI ps.length + nI 1 < nI 16 then nI ps.length + nI 1 else nI 16) = _
      rw [nI_add, List.length_take, List.length_cons]
      by_cases hh : ps.length + 1 < 16
      · rw [if_pos ((nI_ltI (b := 16) (by omega) (by omega)).mpr hh)]
        congr 1
        omega
      · rw [if_neg (fun q => hh ((nI_ltI (b := 16) (by omega) (by omega)).mp q)), show min 16 (ps.length + 1) = 16 by omega])]
  refine d_pI k21_38 (by first | assumption | exact Nat.le_of_ble_eq_true rfl | omega) ⟨rfl, rfl⟩ ?_
  refine d_ret k21_41 ?_
  refine ⟨rfl, ⟨(nw + 1) % 16, by omega, ?_, ?_, ?_, ?_⟩, ?_⟩
  · simp only [uF]
    rw [if_neg (by omega), f1 29 0 (dSt_no (by omega) (by omega))]
    simp [uF]
  · simp [uF]
  · rw [List.length_take]; omega
  · intro j hj
    rw [List.length_take, List.length_cons] at hj
    refine CS.fr ?_ (fun k a b => by rw [uF_k (by omega)])
    cases j with
    | zero =>
      rw [show (5 + ((nw + 1) % 16 + 16 - 0) % 16) = 5 + (nw + 1) % 16 by omega]
      simp only [List.getElem_take, List.getElem_cons_zero]
      exact k1
    | succ j =>
      simp only [List.getElem_take, List.getElem_cons_succ]
      rw [show 5 + ((nw + 1) % 16 + 16 - (j + 1)) % 16 = 5 + (nw + 16 - j) % 16 by omega]
      refine CS.fr (h5 j (by omega)) (fun k a b => ?_)
      rw [f1 k _ (dSt_no (by omega) (by omega)), uF_k (by omega)]
  · have f2 : FrD dPa F (uF F 29 0 1 (nI ((nw + 1) % 16))) := FrD.rf.u (by simp [dPa])
    have f3 : FrD dPa (uF F 29 0 1 (nI ((nw + 1) % 16))) F1 := f1.mo (fun k m e => by
      simp only [dPa, Bool.or_eq_false_iff, Bool.and_eq_false_iff, decide_eq_false_iff_not] at e
      exact dSt_no (by omega) (by omega))
    exact (f2.tr f3).u (by simp [dPa])
def dRe (n k m : Nat) : Bool := dSt n k m || decide (k = 29)
theorem a_restore0 (h : CPa F p []) : Tm E d 22 0 [some (vr 29 0), some (vr 25 n)] [] (cC x) F G (Rs b) (some (vi (b2i false))) (cC x, F, G, Rs b) := by
  obtain ⟨nw, h1, h2, h3, h4, h5⟩ := h
  refine t_run 1 rfl ?_
  refine t_gI k22_1 (by first | assumption | exact Nat.le_of_ble_eq_true rfl | omega) ⟨rfl, rfl, Or.inl rfl⟩ ?_
  rw [h3]
  refine t_if_ne k22_4 (fun h4 => ?_) (fun h4 => ?_)
  · exact absurd rfl h4
  · 
    refine t_run 1 rfl ?_
    exact t_ib k22_8 (by rfl)
theorem a_restore {ps : List ST} (hn : n < 5) {P : Nat} (hP : P ≤ 6) (h : CPa F P (s :: ps)) (hd : 2 ≤ d) : Td E d 22 0 [some (vr 29 0), some (vr 25 n)] [] x F G b (some (vi (b2i true))) (fun F2 G2 => G2 = G ∧ CS F2 n P s ∧ CPa F2 P ps ∧ FrD (dRe n) F F2) := by
  obtain ⟨nw, h1, h2, h3, h4, h5⟩ := h
  rw [List.length_cons] at h3 h4
  have k0 := h5 0 (by rw [List.length_cons]; omega)
  rw [show 5 + (nw + 16 - 0) % 16 = 5 + nw by omega] at k0
  simp only [List.getElem_cons_zero] at k0
  refine d_run 1 rfl ?_
  refine d_gI k22_1 (by first | assumption | exact Nat.le_of_ble_eq_true rfl | omega) ⟨rfl, rfl, Or.inl rfl⟩ ?_
  rw [h3]
  refine d_if_ne k22_4 (fun h4 => ?_) (fun h4 => ?_)
  · refine d_run 2 rfl ?_
    refine d_gR k22_11 (by first | assumption | exact Nat.le_of_ble_eq_true rfl | omega) ⟨rfl, rfl, rfl⟩ rfl ?_
    refine d_run 1 rfl ?_
    refine d_gI k22_15 (by first | assumption | exact Nat.le_of_ble_eq_true rfl | omega) ⟨rfl, rfl, Or.inl rfl⟩ ?_
    rw [h2]
    refine d_ra (N := 16) k22_18 (by first | assumption | exact Nat.le_of_ble_eq_true rfl | omega) ⟨⟨rfl, rfl⟩, rfl, rfl, rfl⟩ h1 rfl Rs_ring ?_
    refine d_call 2 k22_19 (by omega) (Nat.le_of_ble_eq_true rfl) rfl (Nat.le_of_ble_eq_true rfl) (Nat.le_of_ble_eq_true rfl) (recv_ok rfl (show n < 27 by omega)) rfl (a_copyS (n := n) (m := 5 + nw) (by omega) (by omega) (by omega) (by omega) hP k0) rfl ?_
    rintro F1 G1 ⟨rfl, k1, f1⟩
    have e1 : F1 29 = F 29 := funext fun m => f1 29 m (dSt_no (by omega) (by omega))
    refine d_run 2 rfl ?_
    refine d_gI k22_24 (by first | assumption | exact Nat.le_of_ble_eq_true rfl | omega) ⟨rfl, rfl, Or.inl rfl⟩ ?_
    rw [e1, h2]
    refine d_run 6 rfl ?_
    rw [show ibop 1 (ibop 0 (nI nw) 16) 1 - ibop 1 (ibop 0 (nI nw) 16) 1 / 16 * 16 = nI ((nw + 15) % 16) from (by show (nI nw + nI 16 - nI 1) - (nI nw + nI 16 - nI 1) / 16 * 16 = _; rw [nI_add, pk_sub (by omega)]; exact rem16 (by omega))]
    refine d_pI k22_35 (by first | assumption | exact Nat.le_of_ble_eq_true rfl | omega) ⟨rfl, rfl⟩ ?_
    refine d_run 2 rfl ?_
    refine d_gI k22_40 (by first | assumption | exact Nat.le_of_ble_eq_true rfl | omega) ⟨rfl, rfl, Or.inl rfl⟩ ?_
    rw [show uF F1 29 0 1 (nI ((nw + 15) % 16)) 29 0 2 = nI (ps.length + 1) by simp [uF, e1, h3]]
    refine d_run 2 rfl ?_
    rw [show ibop 1 (nI (ps.length + 1)) 1 = nI ps.length from (by show nI (ps.length + 1) - nI 1 = _; rw [pk_sub (by omega)]; rfl)]
    refine d_pI k22_45 (by first | assumption | exact Nat.le_of_ble_eq_true rfl | omega) ⟨rfl, rfl⟩ ?_
    refine d_run 1 rfl ?_
    refine d_ib k22_49 (by rfl) ?_
    refine ⟨rfl, ?_, ⟨(nw + 15) % 16, by omega, ?_, ?_, by omega, ?_⟩, ?_⟩
    · exact k1.fr (fun k a b => by rw [uF_k (by omega), uF_k (by omega)])
    · simp [uF]
    · simp [uF]
    · intro j hj
      have k2 := h5 (j + 1) (by rw [List.length_cons]; omega)
      simp only [List.getElem_cons_succ] at k2
      rw [show 5 + ((nw + 15) % 16 + 16 - j) % 16 = 5 + (nw + 16 - (j + 1)) % 16 by omega]
      exact k2.fr (fun k a b => by rw [uF_k (by omega), uF_k (by omega), f1 k _ (dSt_no (by omega) (by omega))])
    · have f2 : FrD (dRe n) F F1 := f1.mo (fun k m e => by
        simp only [dRe, Bool.or_eq_false_iff] at e
        exact e.1)
      exact (f2.u (by simp [dRe])).u (by simp [dRe])
  · exact absurd h4 (nI_ne0 (by omega) (by omega))
end C2
