/-! THE REFERENCE'S WEEK -/
def MWa (F : FT) (G : GT) (r : Nat ⊕ WK) (F2 : FT) (G2 : GT) : Prop := MFq F G F2 G2 ∧ match r with
  | .inl f => F2 40 0 9 = nI f
  | .inr w => MW F2 5 w
section TK
variable {E : EV} {d x p n : Nat} {F F0 : FT} {G G0 : GT} {b : Bool} {t : TP} {o : SG} {u v : Int32} {A : LA} {nm : NMs} {w : WK}
theorem l_week (hd : 15 ≤ d) (hS : lS A ≤ 5) (hP : lP A ≤ 6) (hn : wfN A nm) {Q : FT → GT → Prop} : ∀ (n p : Nat) (w : WK) (F : FT) (G : GT), t.1 ≤ p + n → MRd F G t p → MHN F G A nm → MW F 5 w → wfK A w → (∀ F2 G2, MWa F G (ldW t A nm n p w) F2 G2 → okB (ldW t A nm n p w) = true → Td E d 174 45 [some (vr 40 0)] [] x F2 G2 b (some (vi (faV (ldW t A nm n p w)))) Q) → (∀ F2 G2, MWa F G (ldW t A nm n p w) F2 G2 → okB (ldW t A nm n p w) = false → Q F2 G2) → Td E d 174 26 [some (vr 40 0)] [] x F G b (some (vi (faV (ldW t A nm n p w)))) Q := by
  intro n
  induction n with
  | zero =>
    intro p w F G hn0 h hH hW hw k1 k2
    have e0 : tK t p = 0 := tK_0.mpr (by omega)
    refine d_run 1 rfl ?_
    refine d_gI k174_27 (by first | assumption | exact Nat.le_of_ble_eq_true rfl | omega) ⟨rfl, rfl, Or.inl rfl⟩ ?_
    rw [h.2.2.2.1, e0]
    refine d_if_eq k174_30 (fun h30 => ?_) (fun h30 => ?_)
    · exact k1 F G ⟨MFq.rf, hW⟩ rfl
    · exact absurd rfl h30
  | succ n ih =>
    intro p w F G hn0 h hH hW hw k1 k2
    have hk4 := tK_4 (t := t) (p := p)
    have hpl := h.2.2.2.2.2.2.2.1
    refine d_run 1 rfl ?_
    refine d_gI k174_27 (by first | assumption | exact Nat.le_of_ble_eq_true rfl | omega) ⟨rfl, rfl, Or.inl rfl⟩ ?_
    rw [h.2.2.2.1]
    refine d_if_eq k174_30 (fun h30 => ?_) (fun h30 => ?_)
    · have e30 : tK t p = 0 := nI_inj (b := 0) h30 (by omega) (by omega)
      have eL : ldW t A nm (n + 1) p w = .inr w := by simp only [ldW]; rw [if_pos e30]
      rw [eL] at k1 k2 ⊢
      exact k1 F G ⟨MFq.rf, hW⟩ rfl
    · have e30 : ¬ tK t p = 0 := fun e => h30 (by rw [e]; rfl)
      have eL : ldW t A nm (n + 1) p w = bnd (oW t (stW t p A nm w)) (fun q => ldW t A nm n q.1 q.2) := by simp only [ldW]; rw [if_neg e30]; rfl
      rw [eL] at k1 k2 ⊢
      refine d_run 1 rfl ?_
      refine d_call 1 k174_34 (by omega) (Nat.le_of_ble_eq_true rfl) rfl (Nat.le_of_ble_eq_true rfl) (Nat.le_of_ble_eq_true rfl) (recv_ok rfl (by first | assumption | exact Nat.le_of_ble_eq_true rfl | omega)) rfl (m_line (by omega) hH hS hP hn hW h) rfl ?_
      rintro F2 G2 o2
      refine d_if_ne k174_37 (fun h37 => ?_) (fun h37 => ?_)
      · rw [b2i0, Bool.not_eq_false] at h37
        obtain ⟨q, eq⟩ := okB_t h37
        rw [eq] at o2 k1 k2 ⊢
        rw [bnd_i] at k1 k2 ⊢
        obtain ⟨f2, r2, w2⟩ := o2
        obtain ⟨g1, g2, g3⟩ := oneW_go (nm := nm) hpl hw (show oneW t p A nm w = .inr q from eq)
        exact ih q.1 q.2 F2 G2 (by omega) r2 (hH.fr (f2.2.1 42 rfl) f2.2.2.2.2.1) w2 g3 (fun F3 G3 m e => k1 F3 G3 ⟨f2.tr m.1, m.2⟩ e) (fun F3 G3 m e => k2 F3 G3 ⟨f2.tr m.1, m.2⟩ e)
      · rw [b2i0] at h37
        obtain ⟨f, ef⟩ := okB_f h37
        rw [ef] at o2 k2 ⊢
        rw [bnd_e] at k2 ⊢
        obtain ⟨f2, z2⟩ := o2
        have z2 : F2 40 0 9 = nI f := z2
        refine d_run 1 rfl ?_
        refine d_gI k174_41 (by first | assumption | exact Nat.le_of_ble_eq_true rfl | omega) ⟨rfl, rfl, Or.inl rfl⟩ ?_
        rw [z2]
        refine d_ir k174_44 rfl (by rfl) ?_
        exact k2 F2 G2 ⟨f2, z2⟩ rfl
theorem d65_f {k : Nat} (h : k ≠ 40 ∧ (k < 65 ∨ 68 < k)) : d65 k = false := by
  simp only [d65, Bool.or_eq_false_iff, Bool.and_eq_false_iff, decide_eq_false_iff_not]
  omega
/-- the week's reading leaves the rest: F0 the state at the call -/
def MWs (F0 F : FT) (G0 G : GT) : Prop := F 40 0 1 = 0 ∧ F 40 0 49 = F0 40 0 49 ∧ (∀ k, k ≠ 40 → (k < 65 ∨ 68 < k) → F k = F0 k) ∧ (∀ i, i ≠ 5 → F 65 0 i = F0 65 0 i) ∧ (∀ k i, 66 ≤ k → k ≤ 68 → i < 200 → F k 0 i = F0 k 0 i) ∧ ∀ k, k ≠ 40 → G k = G0 k
theorem MWs.mw {F0 F : FT} {G0 G : GT} (h : MWs F0 F G0 G) {n : Nat} {w : WK} (hn : n ≤ 4) (hw : MW F0 n w) : MW F n w := by
  obtain ⟨a1, a2, a3⟩ := hw
  refine ⟨by rw [h.2.2.2.1 n (by omega)]; exact a1, a2, fun i hi => ?_⟩
  rw [h.2.2.2.2.1 66 _ (by decide) (by decide) (by omega), h.2.2.2.2.1 67 _ (by decide) (by decide) (by omega), h.2.2.2.2.1 68 _ (by decide) (by decide) (by omega)]
  exact a3 i hi
theorem MWs.inv {F2 : FT} {G2 : GT} (h : MI2 F G o) (m : MWs F F2 G G2) : MP2 ((0, (gT o).2), o.2) F G F2 G2 := by
  obtain ⟨⟨i1, i2, i3, i4, i5, i6⟩, iX⟩ := h
  have kf := m.2.2.1
  refine ⟨⟨⟨⟨m.1, Nat.zero_le _, fun i hi => absurd hi (Nat.not_lt_zero _)⟩, i2.fr (fun k a c => kf k (by omega) (by omega)), ?_, ?_, fun j hj => ?_, i6.fr m.2.1 (kf 74 (by decide) (by decide))⟩, iX.fr (by rw [kf 50 (by decide) (by decide)]) (by rw [kf 51 (by decide) (by decide)]) (fun i _ => by rw [kf 52 (by decide) (by decide)])⟩, fun k hk => ?_, fun k a _ _ => m.2.2.2.2.2 k a⟩
  · unfold MNm
    rw [m.2.2.2.2.2 43 (by decide), m.2.2.2.2.2 44 (by decide)]
    exact i3
  · obtain ⟨s1, s2, s3⟩ := i4
    refine ⟨by rw [kf 70 (by decide) (by decide)]; exact s1, m.mw (by decide) s2, fun q hq => ?_⟩
    rw [kf 69 (by decide) (by decide)]
    exact s3 q hq
  · obtain ⟨j1, j2⟩ := i5 j hj
    refine ⟨by rw [kf 75 (by decide) (by decide)]; exact j1, fun e => ?_⟩
    obtain ⟨s1, s2, s3⟩ := j2 e
    refine ⟨by rw [kf 73 (by decide) (by decide)]; exact s1, m.mw (by omega) s2, fun q hq => ?_⟩
    rw [kf 69 (by decide) (by decide)]
    exact s3 q hq
  · simp only [dM4, Bool.and_eq_false_iff, decide_eq_false_iff_not] at hk
    exact kf k (by omega) (by omega)
theorem MWs.lay {F2 F3 : FT} {G2 : GT} {w : WK} (h : MI2 F G o) (m : MWs F F2 G G2) (hW : MW F2 5 w) (l : LyQ F2 F3 5 0) : MP2 ((0, (gT o).2), gN o, gA o, (gS o, w, gTl o), gM o, gP o) F G F3 G2 := by
  obtain ⟨⟨⟨q1, q2, q3, q4, q5, q6⟩, qX⟩, qf, qg⟩ := m.inv h
  obtain ⟨l1, l2, l3⟩ := l
  have kf : ∀ k, k < 65 ∨ 68 < k → F3 k = F2 k := fun k hk => l3 k (by simp only [dLy, Bool.and_eq_false_iff, decide_eq_false_iff_not]; omega)
  refine ⟨⟨⟨⟨by rw [kf 40 (by decide)]; exact q1.1, Nat.zero_le _, fun i hi => absurd hi (Nat.not_lt_zero _)⟩, q2.fr (fun k a c => kf k (by omega)), q3, ⟨by rw [kf 70 (by decide)]; exact q4.1, l1 w hW, fun q hq => ?_⟩, fun j hj => ?_, q6.fr (by rw [kf 40 (by decide)]) (kf 74 (by decide))⟩, qX.fr (by rw [kf 50 (by decide)]) (by rw [kf 51 (by decide)]) (fun i _ => by rw [kf 52 (by decide)])⟩, fun k hk => ?_, qg⟩
  · rw [kf 69 (by decide)]
    exact q4.2.2 q hq
  · obtain ⟨j1, j2⟩ := q5 j hj
    refine ⟨by rw [kf 75 (by decide)]; exact j1, fun e => ?_⟩
    obtain ⟨s1, s2, s3⟩ := j2 e
    refine ⟨by rw [kf 73 (by decide)]; exact s1, l2 _ _ (by omega) s2, fun q hq => ?_⟩
    rw [kf 69 (by decide)]
    exact s3 q hq
  · rw [← qf k hk]
    simp only [dM4, Bool.and_eq_false_iff, decide_eq_false_iff_not] at hk
    exact kf k (by omega)
theorem m_week (h : MI2 F G o) (hw : WF o) (hd : 100 ≤ d) : Td E d 174 0 [some (vr 40 0)] [] x F G b (some (vi (q_week o))) (MP2 (n_week o) F G) := by
  have ht := hw.2.2.2.2.2.2
  have hT := h.1.1
  have hL := h.1.2.1
  have hN := h.1.2.2.1
  have hw0 : wfK (gA o) w00 := ⟨by decide, fun i hi => absurd hi (by show ¬ i < 0; omega)⟩
  refine d_run 2 rfl ?_
  refine d_pI k174_2 (by first | assumption | exact Nat.le_of_ble_eq_true rfl | omega) ⟨rfl, rfl⟩ ?_
  refine d_run 1 rfl ?_
  refine d_gR k174_6 (by first | assumption | exact Nat.le_of_ble_eq_true rfl | omega) ⟨rfl, rfl, rfl⟩ rfl ?_
  refine d_run 2 rfl ?_
  refine d_is (N := 6) (j := 5) k174_11 (by first | assumption | exact Nat.le_of_ble_eq_true rfl | omega) ⟨rfl, rfl⟩ (by decide) rfl ?_
  refine d_run 2 rfl ?_
  refine d_pI k174_14 (by first | assumption | exact Nat.le_of_ble_eq_true rfl | omega) ⟨rfl, rfl⟩ ?_
  refine d_run 2 rfl ?_
  refine d_pI k174_19 (by first | assumption | exact Nat.le_of_ble_eq_true rfl | omega) ⟨rfl, rfl⟩ ?_
  refine d_run 1 rfl ?_
  generalize hF1 : uF (uF (uF (uF F 40 0 0 0) 65 0 5 0) 40 0 37 0) 40 0 35 0 = F1
  have f1 : MFq (uF F 40 0 0 0) G F1 G := by
    rw [← hF1]
    exact ((MFq.rf.u (by omega)).u (by omega)).u (by omega)
  have g1 : F1 40 0 1 = nI (gT o).1 := by
    rw [f1.1 1 (by decide), uF_q (by omega)]
    exact hT.1
  have g41 : eqR (gT o).1 (F1 41 0) (gT o).2 := by
    rw [f1.2.1 41 rfl, uF_k (by decide)]
    exact hT.2.2
  have e65 : F1 65 0 5 = 0 := by
    rw [← hF1, uF_q (by omega), uF_q (by omega), uF_e]
  refine d_call 1 k174_23 (by omega) (Nat.le_of_ble_eq_true rfl) rfl (Nat.le_of_ble_eq_true rfl) (Nat.le_of_ble_eq_true rfl) (recv_ok rfl (by first | assumption | exact Nat.le_of_ble_eq_true rfl | omega)) rfl (m_begins (t := gT o) (by omega) g1 g41 ht) rfl ?_
  rintro F2 G2 ⟨r2, g2⟩
  have hH : MHN F2 G2 (gA o) (gN o) := by
    unfold MHN
    rw [g2.2.2.1 42 rfl, f1.2.1 42 rfl, uF_k (by decide), g2.2.2.2.1 43 (by decide), g2.2.2.2.1 44 (by decide)]
    exact ⟨hL.1, hL.2.1, fun i hi => by rw [Nat.mul_zero, Nat.zero_add]; exact hN.1 i hi, fun i hi => by rw [Nat.mul_zero, Nat.zero_add]; exact hN.2 i hi⟩
  have hW0 : MW F2 5 w00 := ⟨by rw [g2.2.2.1 65 rfl]; exact e65, Nat.zero_le _, fun i hi => absurd hi (Nat.not_lt_zero _)⟩
  have mk : ∀ F3 G3, MFq F2 G2 F3 G3 → MWs F F3 G G3 := fun F3 G3 m => by
    refine ⟨by rw [m.1 1 (by decide)]; exact g2.1, by rw [m.1 49 (by decide), g2.2.1 49 (by decide), f1.1 49 (by decide), uF_q (by omega)], fun k a c => by rw [m.2.1 k (d65_f ⟨a, c⟩), g2.2.2.1 k (d40_f a), f1.2.1 k (d65_f ⟨a, c⟩), uF_k a], fun i hi => ?_, fun k i a c e => ?_, fun k hk => by rw [m.2.2.2.2.1 k hk, g2.2.2.2.1 k hk]⟩
    · rw [m.2.2.1 i hi, g2.2.2.1 65 rfl, f1.2.2.1 i hi, uF_k (by decide)]
    · rw [m.2.2.2.1 k i a c e, g2.2.2.1 k (d40_f (by omega)), f1.2.2.2.1 k i a c e, uF_k (by omega)]
  refine l_week (t := gT o) (A := gA o) (nm := gN o) (by omega) hw.1.1 hw.1.2.1 hw.2.2.2.2.2.1 1000 (tB (gT o) 0) w00 F2 G2 (by have := ht.1; omega) r2 hH hW0 hw0 (fun F3 G3 m e => ?_) (fun F3 G3 m e => ?_)
  · obtain ⟨w, ew⟩ := okB_t e
    obtain ⟨mf, mw⟩ := m
    rw [ew] at mw ⊢
    rw [show n_week o = ((0, (gT o).2), gN o, gA o, (gS o, w, gTl o), gM o, gP o) by unfold n_week; rw [ew]]
    refine d_run 3 rfl ?_
    refine d_call 3 k174_48 (by omega) (Nat.le_of_ble_eq_true rfl) rfl (Nat.le_of_ble_eq_true rfl) (Nat.le_of_ble_eq_true rfl) (recv_ok rfl (by first | assumption | exact Nat.le_of_ble_eq_true rfl | omega)) rfl (b_lays (f := 5) (t := 0) (by omega) (by omega) (by omega)) rfl ?_
    rintro F4 G4 ⟨e4, l4⟩
    subst e4
    refine d_run 1 rfl ?_
    refine d_ir k174_52 rfl (by rfl) ?_
    exact (mk F3 G4 mf).lay h mw l4
  · obtain ⟨f, ef⟩ := okB_f e
    obtain ⟨mf, mw⟩ := m
    rw [show n_week o = ((0, (gT o).2), o.2) by unfold n_week; rw [ef]]
    exact (mk F3 G3 mf).inv h
end TK
