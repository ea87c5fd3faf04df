/-! WHAT THE REFERENCE ASKS OF TOKENS -/
/-- what reading a token or a fault may change -/
def MQf (F : FT) (G : GT) (F2 : FT) (G2 : GT) : Prop := (∀ i, (i ≠ 4 ∧ i ≠ 5 ∧ i ≠ 6 ∧ i ≠ 8 ∧ i ≠ 9 ∧ i ≠ 35 ∧ i ≠ 37) → F2 40 0 i = F 40 0 i) ∧ FrK d40 F F2 ∧ (∀ k, k ≠ 40 → G2 k = G k) ∧ ∀ j, j ≠ 7 → j ≠ 36 → G2 40 0 j = G 40 0 j
theorem MQf.rf {F : FT} {G : GT} : MQf F G F G := ⟨fun _ _ => rfl, FrK.rf, fun _ _ => rfl, fun _ _ _ => rfl⟩
theorem MQf.tr {F F1 F2 : FT} {G G1 G2 : GT} (h : MQf F G F1 G1) (h2 : MQf F1 G1 F2 G2) : MQf F G F2 G2 := ⟨fun i a => (h2.1 i a).trans (h.1 i a), h.2.1.tr h2.2.1, fun k hk => (h2.2.2.1 k hk).trans (h.2.2.1 k hk), fun j a b => (h2.2.2.2 j a b).trans (h.2.2.2 j a b)⟩
theorem MNx.q {F F2 : FT} {G G2 : GT} (h : MNx F G F2 G2) : MQf F G F2 G2 := ⟨fun i a => h.1 i a.1 a.2.1 a.2.2.1 a.2.2.2.1, h.2.1, h.2.2.1, fun j a _ => h.2.2.2 j a⟩
theorem MQf.u {F : FT} {G : GT} {i : Nat} {v : Int32} (hi : i = 9 ∨ i = 35 ∨ i = 37) : MQf F G (uF F 40 0 i v) G := ⟨fun j a => by rw [uF_r, pk_un (by omega)], FrK.rf.u rfl, fun _ _ => rfl, fun _ _ _ => rfl⟩
theorem MRd.u {F : FT} {G : GT} {t : TP} {p i : Nat} {v : Int32} (h : MRd F G t p) (hi : i ≠ 3 ∧ i ≠ 4 ∧ i ≠ 5 ∧ i ≠ 6 ∧ i ≠ 8) : MRd (uF F 40 0 i v) G t p := by
  unfold MRd
  rw [uF_r, uF_k (by decide), pk_un (by omega), pk_un (by omega), pk_un (by omega), pk_un (by omega), pk_un (by omega)]
  exact h
theorem MRd.k {F : FT} {G : GT} {t : TP} {p k i n : Nat} {v : Int32} (h : MRd F G t p) (h40 : k ≠ 40) (h41 : k ≠ 41) : MRd (uF F k n i v) G t p := by
  unfold MRd
  rw [uF_k (fun e => h40 e.symm), uF_k (fun e => h41 e.symm)]
  exact h
theorem MRd.ug {F : FT} {G : GT} {t : TP} {p k n i : Nat} {v : Int64} (h : MRd F G t p) (hk : ¬ (k = 40 ∧ n = 0 ∧ i = 7)) : MRd F (uG G k n i v) t p := by
  unfold MRd
  rw [show uG G k n i v 40 0 7 = G 40 0 7 by simp only [uG]; rw [if_neg (by omega)]]
  exact h
theorem kw27 : w27 (lets 1) = 283616147 ∧ w27 (lets 3) = 237308 ∧ w27 (lets 4) = 232608281 ∧ w27 (lets 9) = 47 ∧ w27 (lets 10) = 240023 ∧ w27 (lets 11) = 6132988 ∧ w27 (lets 12) = 385331 ∧ w27 (lets 13) = 384226 ∧ w27 (lets 14) = 12410623 ∧ w27 (lets 22) = 453773 ∧ w27 (lets 23) = 459652 ∧ w27 (lets 24) = 259906 ∧ w27 (lets 25) = 168984 ∧ w27 (lets 5) = 8740238 ∧ w27 (lets 6) = 117812495 ∧ w27 (lets 7) = 82410 ∧ w27 (lets 8) = 14432 ∧ w27 (lets 15) = 10631 ∧ w27 (lets 20) = 1111 ∧ w27 (lets 21) = 423 ∧ w27 (lets 16) = 148870 ∧ w27 (lets 17) = 10801946 ∧ w27 (lets 18) = 9632 ∧ w27 (lets 19) = 1960177 := by decide +kernel
theorem w27_w {t : TP} {p n : Nat} {c : Int64} (hK : tK t p = 1) (hn : n < 26) (h0 : n ≠ 0) (h2 : n ≠ 2) (hc : w27 (lets n) = c) : (w27 (tW t p) = c) = (isWd t p n = true) := by
  rw [← hc, w27_inj (tW_ok hK) (lets_wf n hn h0 h2)]
  simp only [isWd]
  rw [decide_eq_true hK, Bool.true_and]
  simp
section TA
variable {E : EV} {d x p n : Nat} {F : FT} {G : GT} {b : Bool} {t : TP} {u v w : Int32}
theorem m_isWd {c : Int64} (hc : w27 (lets n) = c) (hn : n < 26) (h0 : n ≠ 0) (h2 : n ≠ 2) (h : MRd F G t p) : Tm E d 136 0 [some (vr 40 0), some (vl c), none] [] (cC x) F G (Rs b) (some (vi (b2i (isWd t p n)))) (cC x, F, G, Rs b) := by
  have hk4 := tK_4 (t := t) (p := p)
  refine t_run 1 rfl ?_
  refine t_gI k136_1 (by first | assumption | exact Nat.le_of_ble_eq_true rfl | omega) ⟨rfl, rfl, Or.inl rfl⟩ ?_
  rw [h.2.2.2.1]
  refine t_run 1 rfl ?_
  refine t_ic_ne k136_5 (fun h5 => ?_) (fun h5 => ?_)
  · have e5 : ¬ tK t p = 1 := fun e => h5 (by rw [e]; rfl)
    rw [show isWd t p n = false by simp only [isWd]; rw [decide_eq_false e5]; rfl]
    refine t_run 1 rfl ?_
    exact t_ib k136_22 (by rfl)
  · have e5 : tK t p = 1 := nI_inj (b := 1) h5 (by omega) (by omega)
    refine t_run 1 rfl ?_
    refine t_gL k136_9 (by first | assumption | exact Nat.le_of_ble_eq_true rfl | omega) ⟨rfl, rfl, rfl⟩ ?_
    rw [h.2.2.2.2.1 e5]
    refine t_run 2 rfl ?_
    refine t_if_ne k136_14 (fun h14 => ?_) (fun h14 => ?_)
    · have e14 : ¬ isWd t p n = true := fun e => h14 ((lg_cmp_eq _ _).mpr ((w27_w e5 hn h0 h2 hc).mpr e))
      rw [Bool.not_eq_true] at e14
      rw [e14]
      refine t_run 1 rfl ?_
      exact t_ib k136_22 (by rfl)
    · have e14 : isWd t p n = true := (w27_w e5 hn h0 h2 hc).mp ((lg_cmp_eq _ _).mp h14)
      rw [e14]
      refine t_run 2 rfl ?_
      exact t_ib k136_22 (by rfl)
theorem m_isSg {c : Nat} (hc : c < 128) (h : MRd F G t p) : Tm E d 137 0 [some (vr 40 0), some (vi (nI c))] [] (cC x) F G (Rs b) (some (vi (b2i (isSg t p c)))) (cC x, F, G, Rs b) := by
  have hk4 := tK_4 (t := t) (p := p)
  have ht := h.2.2.2.2.2.2.2.2.1
  refine t_run 1 rfl ?_
  refine t_gI k137_1 (by first | assumption | exact Nat.le_of_ble_eq_true rfl | omega) ⟨rfl, rfl, Or.inl rfl⟩ ?_
  rw [h.2.2.2.1]
  refine t_run 1 rfl ?_
  refine t_ic_ne k137_5 (fun h5 => ?_) (fun h5 => ?_)
  · have e5 : ¬ tK t p = 3 := fun e => h5 (by rw [e]; rfl)
    rw [show isSg t p c = false by simp only [isSg]; rw [decide_eq_false e5]; rfl]
    refine t_run 1 rfl ?_
    exact t_ib k137_26 (by rfl)
  · have e5 : tK t p = 3 := nI_inj (b := 3) h5 (by omega) (by omega)
    have hlt := tK_lt (t := t) (p := p) (by omega)
    have hcc := cAt_c h.2.2.2.2.2.2.2.2 hlt
    refine t_run 1 rfl ?_
    refine t_gR k137_9 (by first | assumption | exact Nat.le_of_ble_eq_true rfl | omega) ⟨rfl, rfl, rfl⟩ rfl ?_
    refine t_run 1 rfl ?_
    refine t_gI k137_13 (by first | assumption | exact Nat.le_of_ble_eq_true rfl | omega) ⟨rfl, rfl, Or.inl rfl⟩ ?_
    rw [h.2.2.1]
    refine t_ia (N := 1000) (j := p) k137_16 (by decide) (by first | assumption | exact Nat.le_of_ble_eq_true rfl | omega) ⟨⟨rfl, rfl⟩, rfl, rfl⟩ (show p < 1000 by omega) rfl ?_
    rw [show F 41 0 p = nI (cAt t p) from (h.2.2.2.2.2.2.1 p hlt).trans hcc.1]
    refine t_run 1 rfl ?_
    refine t_ic_ne k137_18 (fun h18 => ?_) (fun h18 => ?_)
    · have e13 : ¬ cAt t p = c := fun e => h18 (by rw [e])
      rw [show isSg t p c = false by simp only [isSg]; rw [decide_eq_false e13, Bool.and_false]]
      refine t_run 1 rfl ?_
      exact t_ib k137_26 (by rfl)
    · have e13 : cAt t p = c := nI_inj h18 (by omega) (by omega)
      rw [show isSg t p c = true by simp only [isSg]; rw [decide_eq_true e5, decide_eq_true e13]; rfl]
      refine t_run 2 rfl ?_
      exact t_ib k137_26 (by rfl)
theorem m_fails {c : Nat} (h : MRd F G t p) : Tm E d 138 0 [some (vr 40 0), some (vi (nI c))] [] (cC x) F G (Rs b) (some (vi (b2i false))) (cC x, uF F 40 0 9 (nI (c + 16 * p)), G, Rs b) := by
  refine t_run 4 rfl ?_
  refine t_gI k138_5 (by first | assumption | exact Nat.le_of_ble_eq_true rfl | omega) ⟨rfl, rfl, Or.inl rfl⟩ ?_
  rw [h.2.2.1]
  refine t_run 2 rfl ?_
  rw [show ibop 0 (nI c) (ibop 2 16 (nI p)) = nI (c + 16 * p) by show nI c + 16 * nI p = _; rw [show (16 : Int32) = nI 16 from rfl, pk_mul, nI_add]]
  refine t_pI k138_10 (by first | assumption | exact Nat.le_of_ble_eq_true rfl | omega) ⟨rfl, rfl⟩ ?_
  refine t_run 1 rfl ?_
  exact t_ib k138_14 (by rfl)
theorem m_isKept (h : MRd F G t p) : Tm E d 146 0 [some (vr 40 0)] [] (cC x) F G (Rs b) (some (vi (b2i (!isNm t p)))) (cC x, F, G, Rs b) := by
  have hk4 := tK_4 (t := t) (p := p)
  obtain ⟨a0, a1, a2, a3, a4, a5, a6, a7, a8, a9, a10, a11, a12, a13, a14, a15, a16, a17, a18, a19, a20, a21, a22, a23⟩ := kw27
  refine t_run 1 rfl ?_
  refine t_gI k146_1 (by first | assumption | exact Nat.le_of_ble_eq_true rfl | omega) ⟨rfl, rfl, Or.inl rfl⟩ ?_
  rw [h.2.2.2.1]
  refine t_run 1 rfl ?_
  refine t_ic_eq k146_5 (fun h5 => ?_) (fun h5 => ?_)
  · have e5 : tK t p = 1 := nI_inj (b := 1) h5 (by omega) (by omega)
    have hG := h.2.2.2.2.1 e5
    refine t_run 1 rfl ?_
    refine t_gL k146_11 (by first | assumption | exact Nat.le_of_ble_eq_true rfl | omega) ⟨rfl, rfl, rfl⟩ ?_
    rw [hG]
    refine t_run 2 rfl ?_
    refine t_if_eq k146_18 (fun h18 => ?_) (fun h18 => ?_)
    · have e18 : tW t p = lets 1 := by
        have := (lg_cmp_eq _ _).mp h18
        rw [← a0, w27_inj (tW_ok e5) (lets_wf 1 (by decide) (by decide) (by decide))] at this
        exact this
      rw [show isNm t p = false by simp only [isNm]; rw [decide_eq_true (show tW t p ∈ keptL by rw [e18]; decide)]; simp]
      refine t_run 2 rfl ?_
      exact t_ib k146_235 (by rfl)
    · have e18 : ¬ tW t p = lets 1 := fun e => h18 ((lg_cmp_eq _ _).mpr (by rw [e, a0]))
      refine t_run 1 rfl ?_
      refine t_gL k146_22 (by first | assumption | exact Nat.le_of_ble_eq_true rfl | omega) ⟨rfl, rfl, rfl⟩ ?_
      rw [hG]
      refine t_run 2 rfl ?_
      refine t_if_eq k146_29 (fun h29 => ?_) (fun h29 => ?_)
      · have e29 : tW t p = lets 3 := by
          have := (lg_cmp_eq _ _).mp h29
          rw [← a1, w27_inj (tW_ok e5) (lets_wf 3 (by decide) (by decide) (by decide))] at this
          exact this
        rw [show isNm t p = false by simp only [isNm]; rw [decide_eq_true (show tW t p ∈ keptL by rw [e29]; decide)]; simp]
        refine t_run 2 rfl ?_
        exact t_ib k146_235 (by rfl)
      · have e29 : ¬ tW t p = lets 3 := fun e => h29 ((lg_cmp_eq _ _).mpr (by rw [e, a1]))
        refine t_run 1 rfl ?_
        refine t_gL k146_33 (by first | assumption | exact Nat.le_of_ble_eq_true rfl | omega) ⟨rfl, rfl, rfl⟩ ?_
        rw [hG]
        refine t_run 2 rfl ?_
        refine t_if_eq k146_40 (fun h40 => ?_) (fun h40 => ?_)
        · have e40 : tW t p = lets 4 := by
            have := (lg_cmp_eq _ _).mp h40
            rw [← a2, w27_inj (tW_ok e5) (lets_wf 4 (by decide) (by decide) (by decide))] at this
            exact this
          rw [show isNm t p = false by simp only [isNm]; rw [decide_eq_true (show tW t p ∈ keptL by rw [e40]; decide)]; simp]
          refine t_run 2 rfl ?_
          exact t_ib k146_235 (by rfl)
        · have e40 : ¬ tW t p = lets 4 := fun e => h40 ((lg_cmp_eq _ _).mpr (by rw [e, a2]))
          refine t_run 1 rfl ?_
          refine t_gL k146_44 (by first | assumption | exact Nat.le_of_ble_eq_true rfl | omega) ⟨rfl, rfl, rfl⟩ ?_
          rw [hG]
          refine t_run 2 rfl ?_
          refine t_if_eq k146_51 (fun h51 => ?_) (fun h51 => ?_)
          · have e51 : tW t p = lets 9 := by
              have := (lg_cmp_eq _ _).mp h51
              rw [← a3, w27_inj (tW_ok e5) (lets_wf 9 (by decide) (by decide) (by decide))] at this
              exact this
            rw [show isNm t p = false by simp only [isNm]; rw [decide_eq_true (show tW t p ∈ keptL by rw [e51]; decide)]; simp]
            refine t_run 2 rfl ?_
            exact t_ib k146_235 (by rfl)
          · have e51 : ¬ tW t p = lets 9 := fun e => h51 ((lg_cmp_eq _ _).mpr (by rw [e, a3]))
            refine t_run 1 rfl ?_
            refine t_gL k146_55 (by first | assumption | exact Nat.le_of_ble_eq_true rfl | omega) ⟨rfl, rfl, rfl⟩ ?_
            rw [hG]
            refine t_run 2 rfl ?_
            refine t_if_eq k146_62 (fun h62 => ?_) (fun h62 => ?_)
            · have e62 : tW t p = lets 10 := by
                have := (lg_cmp_eq _ _).mp h62
                rw [← a4, w27_inj (tW_ok e5) (lets_wf 10 (by decide) (by decide) (by decide))] at this
                exact this
              rw [show isNm t p = false by simp only [isNm]; rw [decide_eq_true (show tW t p ∈ keptL by rw [e62]; decide)]; simp]
              refine t_run 2 rfl ?_
              exact t_ib k146_235 (by rfl)
            · have e62 : ¬ tW t p = lets 10 := fun e => h62 ((lg_cmp_eq _ _).mpr (by rw [e, a4]))
              refine t_run 1 rfl ?_
              refine t_gL k146_66 (by first | assumption | exact Nat.le_of_ble_eq_true rfl | omega) ⟨rfl, rfl, rfl⟩ ?_
              rw [hG]
              refine t_run 2 rfl ?_
              refine t_if_eq k146_73 (fun h73 => ?_) (fun h73 => ?_)
              · have e73 : tW t p = lets 11 := by
                  have := (lg_cmp_eq _ _).mp h73
                  rw [← a5, w27_inj (tW_ok e5) (lets_wf 11 (by decide) (by decide) (by decide))] at this
                  exact this
                rw [show isNm t p = false by simp only [isNm]; rw [decide_eq_true (show tW t p ∈ keptL by rw [e73]; decide)]; simp]
                refine t_run 2 rfl ?_
                exact t_ib k146_235 (by rfl)
              · have e73 : ¬ tW t p = lets 11 := fun e => h73 ((lg_cmp_eq _ _).mpr (by rw [e, a5]))
                refine t_run 1 rfl ?_
                refine t_gL k146_77 (by first | assumption | exact Nat.le_of_ble_eq_true rfl | omega) ⟨rfl, rfl, rfl⟩ ?_
                rw [hG]
                refine t_run 2 rfl ?_
                refine t_if_eq k146_84 (fun h84 => ?_) (fun h84 => ?_)
                · have e84 : tW t p = lets 12 := by
                    have := (lg_cmp_eq _ _).mp h84
                    rw [← a6, w27_inj (tW_ok e5) (lets_wf 12 (by decide) (by decide) (by decide))] at this
                    exact this
                  rw [show isNm t p = false by simp only [isNm]; rw [decide_eq_true (show tW t p ∈ keptL by rw [e84]; decide)]; simp]
                  refine t_run 2 rfl ?_
                  exact t_ib k146_235 (by rfl)
                · have e84 : ¬ tW t p = lets 12 := fun e => h84 ((lg_cmp_eq _ _).mpr (by rw [e, a6]))
                  refine t_run 1 rfl ?_
                  refine t_gL k146_88 (by first | assumption | exact Nat.le_of_ble_eq_true rfl | omega) ⟨rfl, rfl, rfl⟩ ?_
                  rw [hG]
                  refine t_run 2 rfl ?_
                  refine t_if_eq k146_95 (fun h95 => ?_) (fun h95 => ?_)
                  · have e95 : tW t p = lets 13 := by
                      have := (lg_cmp_eq _ _).mp h95
                      rw [← a7, w27_inj (tW_ok e5) (lets_wf 13 (by decide) (by decide) (by decide))] at this
                      exact this
                    rw [show isNm t p = false by simp only [isNm]; rw [decide_eq_true (show tW t p ∈ keptL by rw [e95]; decide)]; simp]
                    refine t_run 2 rfl ?_
                    exact t_ib k146_235 (by rfl)
                  · have e95 : ¬ tW t p = lets 13 := fun e => h95 ((lg_cmp_eq _ _).mpr (by rw [e, a7]))
                    refine t_run 1 rfl ?_
                    refine t_gL k146_99 (by first | assumption | exact Nat.le_of_ble_eq_true rfl | omega) ⟨rfl, rfl, rfl⟩ ?_
                    rw [hG]
                    refine t_run 2 rfl ?_
                    refine t_if_eq k146_106 (fun h106 => ?_) (fun h106 => ?_)
                    · have e106 : tW t p = lets 14 := by
                        have := (lg_cmp_eq _ _).mp h106
                        rw [← a8, w27_inj (tW_ok e5) (lets_wf 14 (by decide) (by decide) (by decide))] at this
                        exact this
                      rw [show isNm t p = false by simp only [isNm]; rw [decide_eq_true (show tW t p ∈ keptL by rw [e106]; decide)]; simp]
                      refine t_run 2 rfl ?_
                      exact t_ib k146_235 (by rfl)
                    · have e106 : ¬ tW t p = lets 14 := fun e => h106 ((lg_cmp_eq _ _).mpr (by rw [e, a8]))
                      refine t_run 1 rfl ?_
                      refine t_gL k146_110 (by first | assumption | exact Nat.le_of_ble_eq_true rfl | omega) ⟨rfl, rfl, rfl⟩ ?_
                      rw [hG]
                      refine t_run 2 rfl ?_
                      refine t_if_eq k146_117 (fun h117 => ?_) (fun h117 => ?_)
                      · have e117 : tW t p = lets 22 := by
                          have := (lg_cmp_eq _ _).mp h117
                          rw [← a9, w27_inj (tW_ok e5) (lets_wf 22 (by decide) (by decide) (by decide))] at this
                          exact this
                        rw [show isNm t p = false by simp only [isNm]; rw [decide_eq_true (show tW t p ∈ keptL by rw [e117]; decide)]; simp]
                        refine t_run 2 rfl ?_
                        exact t_ib k146_235 (by rfl)
                      · have e117 : ¬ tW t p = lets 22 := fun e => h117 ((lg_cmp_eq _ _).mpr (by rw [e, a9]))
                        refine t_run 1 rfl ?_
                        refine t_gL k146_121 (by first | assumption | exact Nat.le_of_ble_eq_true rfl | omega) ⟨rfl, rfl, rfl⟩ ?_
                        rw [hG]
                        refine t_run 2 rfl ?_
                        refine t_if_eq k146_128 (fun h128 => ?_) (fun h128 => ?_)
                        · have e128 : tW t p = lets 23 := by
                            have := (lg_cmp_eq _ _).mp h128
                            rw [← a10, w27_inj (tW_ok e5) (lets_wf 23 (by decide) (by decide) (by decide))] at this
                            exact this
                          rw [show isNm t p = false by simp only [isNm]; rw [decide_eq_true (show tW t p ∈ keptL by rw [e128]; decide)]; simp]
                          refine t_run 2 rfl ?_
                          exact t_ib k146_235 (by rfl)
                        · have e128 : ¬ tW t p = lets 23 := fun e => h128 ((lg_cmp_eq _ _).mpr (by rw [e, a10]))
                          refine t_run 1 rfl ?_
                          refine t_gL k146_132 (by first | assumption | exact Nat.le_of_ble_eq_true rfl | omega) ⟨rfl, rfl, rfl⟩ ?_
                          rw [hG]
                          refine t_run 2 rfl ?_
                          refine t_if_eq k146_139 (fun h139 => ?_) (fun h139 => ?_)
                          · have e139 : tW t p = lets 24 := by
                              have := (lg_cmp_eq _ _).mp h139
                              rw [← a11, w27_inj (tW_ok e5) (lets_wf 24 (by decide) (by decide) (by decide))] at this
                              exact this
                            rw [show isNm t p = false by simp only [isNm]; rw [decide_eq_true (show tW t p ∈ keptL by rw [e139]; decide)]; simp]
                            refine t_run 2 rfl ?_
                            exact t_ib k146_235 (by rfl)
                          · have e139 : ¬ tW t p = lets 24 := fun e => h139 ((lg_cmp_eq _ _).mpr (by rw [e, a11]))
                            refine t_run 1 rfl ?_
                            refine t_gL k146_143 (by first | assumption | exact Nat.le_of_ble_eq_true rfl | omega) ⟨rfl, rfl, rfl⟩ ?_
                            rw [hG]
                            refine t_run 2 rfl ?_
                            refine t_if_eq k146_150 (fun h150 => ?_) (fun h150 => ?_)
                            · have e150 : tW t p = lets 25 := by
                                have := (lg_cmp_eq _ _).mp h150
                                rw [← a12, w27_inj (tW_ok e5) (lets_wf 25 (by decide) (by decide) (by decide))] at this
                                exact this
                              rw [show isNm t p = false by simp only [isNm]; rw [decide_eq_true (show tW t p ∈ keptL by rw [e150]; decide)]; simp]
                              refine t_run 2 rfl ?_
                              exact t_ib k146_235 (by rfl)
                            · have e150 : ¬ tW t p = lets 25 := fun e => h150 ((lg_cmp_eq _ _).mpr (by rw [e, a12]))
                              refine t_run 1 rfl ?_
                              refine t_gL k146_154 (by first | assumption | exact Nat.le_of_ble_eq_true rfl | omega) ⟨rfl, rfl, rfl⟩ ?_
                              rw [hG]
                              refine t_run 2 rfl ?_
                              refine t_if_eq k146_161 (fun h161 => ?_) (fun h161 => ?_)
                              · have e161 : tW t p = lets 5 := by
                                  have := (lg_cmp_eq _ _).mp h161
                                  rw [← a13, w27_inj (tW_ok e5) (lets_wf 5 (by decide) (by decide) (by decide))] at this
                                  exact this
                                rw [show isNm t p = false by simp only [isNm]; rw [decide_eq_true (show tW t p ∈ keptL by rw [e161]; decide)]; simp]
                                refine t_run 2 rfl ?_
                                exact t_ib k146_235 (by rfl)
                              · have e161 : ¬ tW t p = lets 5 := fun e => h161 ((lg_cmp_eq _ _).mpr (by rw [e, a13]))
                                refine t_run 1 rfl ?_
                                refine t_gL k146_165 (by first | assumption | exact Nat.le_of_ble_eq_true rfl | omega) ⟨rfl, rfl, rfl⟩ ?_
                                rw [hG]
                                refine t_run 2 rfl ?_
                                refine t_if_eq k146_172 (fun h172 => ?_) (fun h172 => ?_)
                                · have e172 : tW t p = lets 6 := by
                                    have := (lg_cmp_eq _ _).mp h172
                                    rw [← a14, w27_inj (tW_ok e5) (lets_wf 6 (by decide) (by decide) (by decide))] at this
                                    exact this
                                  rw [show isNm t p = false by simp only [isNm]; rw [decide_eq_true (show tW t p ∈ keptL by rw [e172]; decide)]; simp]
                                  refine t_run 2 rfl ?_
                                  exact t_ib k146_235 (by rfl)
                                · have e172 : ¬ tW t p = lets 6 := fun e => h172 ((lg_cmp_eq _ _).mpr (by rw [e, a14]))
                                  refine t_run 1 rfl ?_
                                  refine t_gL k146_176 (by first | assumption | exact Nat.le_of_ble_eq_true rfl | omega) ⟨rfl, rfl, rfl⟩ ?_
                                  rw [hG]
                                  refine t_run 2 rfl ?_
                                  refine t_if_eq k146_183 (fun h183 => ?_) (fun h183 => ?_)
                                  · have e183 : tW t p = lets 7 := by
                                      have := (lg_cmp_eq _ _).mp h183
                                      rw [← a15, w27_inj (tW_ok e5) (lets_wf 7 (by decide) (by decide) (by decide))] at this
                                      exact this
                                    rw [show isNm t p = false by simp only [isNm]; rw [decide_eq_true (show tW t p ∈ keptL by rw [e183]; decide)]; simp]
                                    refine t_run 2 rfl ?_
                                    exact t_ib k146_235 (by rfl)
                                  · have e183 : ¬ tW t p = lets 7 := fun e => h183 ((lg_cmp_eq _ _).mpr (by rw [e, a15]))
                                    refine t_run 1 rfl ?_
                                    refine t_gL k146_187 (by first | assumption | exact Nat.le_of_ble_eq_true rfl | omega) ⟨rfl, rfl, rfl⟩ ?_
                                    rw [hG]
                                    refine t_run 2 rfl ?_
                                    refine t_if_eq k146_194 (fun h194 => ?_) (fun h194 => ?_)
                                    · have e194 : tW t p = lets 8 := by
                                        have := (lg_cmp_eq _ _).mp h194
                                        rw [← a16, w27_inj (tW_ok e5) (lets_wf 8 (by decide) (by decide) (by decide))] at this
                                        exact this
                                      rw [show isNm t p = false by simp only [isNm]; rw [decide_eq_true (show tW t p ∈ keptL by rw [e194]; decide)]; simp]
                                      refine t_run 2 rfl ?_
                                      exact t_ib k146_235 (by rfl)
                                    · have e194 : ¬ tW t p = lets 8 := fun e => h194 ((lg_cmp_eq _ _).mpr (by rw [e, a16]))
                                      refine t_run 1 rfl ?_
                                      refine t_gL k146_198 (by first | assumption | exact Nat.le_of_ble_eq_true rfl | omega) ⟨rfl, rfl, rfl⟩ ?_
                                      rw [hG]
                                      refine t_run 2 rfl ?_
                                      refine t_if_eq k146_205 (fun h205 => ?_) (fun h205 => ?_)
                                      · have e205 : tW t p = lets 15 := by
                                          have := (lg_cmp_eq _ _).mp h205
                                          rw [← a17, w27_inj (tW_ok e5) (lets_wf 15 (by decide) (by decide) (by decide))] at this
                                          exact this
                                        rw [show isNm t p = false by simp only [isNm]; rw [decide_eq_true (show tW t p ∈ keptL by rw [e205]; decide)]; simp]
                                        refine t_run 2 rfl ?_
                                        exact t_ib k146_235 (by rfl)
                                      · have e205 : ¬ tW t p = lets 15 := fun e => h205 ((lg_cmp_eq _ _).mpr (by rw [e, a17]))
                                        refine t_run 1 rfl ?_
                                        refine t_gL k146_209 (by first | assumption | exact Nat.le_of_ble_eq_true rfl | omega) ⟨rfl, rfl, rfl⟩ ?_
                                        rw [hG]
                                        refine t_run 2 rfl ?_
                                        refine t_if_eq k146_216 (fun h216 => ?_) (fun h216 => ?_)
                                        · have e216 : tW t p = lets 20 := by
                                            have := (lg_cmp_eq _ _).mp h216
                                            rw [← a18, w27_inj (tW_ok e5) (lets_wf 20 (by decide) (by decide) (by decide))] at this
                                            exact this
                                          rw [show isNm t p = false by simp only [isNm]; rw [decide_eq_true (show tW t p ∈ keptL by rw [e216]; decide)]; simp]
                                          refine t_run 2 rfl ?_
                                          exact t_ib k146_235 (by rfl)
                                        · have e216 : ¬ tW t p = lets 20 := fun e => h216 ((lg_cmp_eq _ _).mpr (by rw [e, a18]))
                                          refine t_run 1 rfl ?_
                                          refine t_gL k146_220 (by first | assumption | exact Nat.le_of_ble_eq_true rfl | omega) ⟨rfl, rfl, rfl⟩ ?_
                                          rw [hG]
                                          refine t_run 2 rfl ?_
                                          refine t_if_ne k146_227 (fun h227 => ?_) (fun h227 => ?_)
                                          · have e227 : ¬ tW t p = lets 21 := fun e => h227 ((lg_cmp_eq _ _).mpr (by rw [e, a19]))
                                            have eN : ¬ tW t p ∈ keptL := by
                                              simp only [keptL, List.mem_cons, List.not_mem_nil, or_false, not_or]
                                              exact ⟨e18, e29, e40, e51, e62, e73, e84, e95, e106, e117, e128, e139, e150, e161, e172, e183, e194, e205, e216, e227⟩
                                            rw [show isNm t p = true by simp only [isNm]; rw [decide_eq_true e5, decide_eq_false eN]; rfl]
                                            refine t_run 1 rfl ?_
                                            exact t_ib k146_235 (by rfl)
                                          · have e227 : tW t p = lets 21 := by
                                              have := (lg_cmp_eq _ _).mp h227
                                              rw [← a19, w27_inj (tW_ok e5) (lets_wf 21 (by decide) (by decide) (by decide))] at this
                                              exact this
                                            rw [show isNm t p = false by simp only [isNm]; rw [decide_eq_true (show tW t p ∈ keptL by rw [e227]; decide)]; simp]
                                            refine t_run 2 rfl ?_
                                            exact t_ib k146_235 (by rfl)
  · have e5 : ¬ tK t p = 1 := fun e => h5 (by rw [e]; rfl)
    rw [show isNm t p = false by simp only [isNm]; rw [decide_eq_false e5]; rfl]
    refine t_run 1 rfl ?_
    exact t_ib k146_9 (by rfl)
theorem l_m_stN {S r : Nat} {nm : Nat → List Nat} (hr : r ≤ 1) (hS : F 42 0 (4 * r + 0) = nI S) (hS5 : S ≤ 5) (hN : ∀ i, i < S → G 43 0 (5 * r + i) = w27 (nm i)) (hwn : ∀ i, i < S → wfWd (nm i)) (h : MRd F G t p) (hK : tK t p = 1) : ∀ (q i : Nat), i + q = S → Tm E d 147 4 [some (vr 40 0), some (vi (nI r)), some (vi (nI (5 * r + i)))] [] (cC x) F G (Rs b) (some (vi (fdV (findN nm (tW t p) i q)))) (cC x, F, G, Rs b) := by
  intro q
  have e5 : ibop 2 5 (nI r) = nI (5 * r) := pk_mul 5 r
  have e4 : ibop 0 (ibop 2 4 (nI r)) 0 = nI (4 * r + 0) := by show 4 * nI r + 0 = _; rw [show (4 : Int32) = nI 4 from rfl, pk_mul, show (0 : Int32) = nI 0 from rfl, nI_add]
  induction q with
  | zero =>
    intro i hiq
    refine t_run 5 rfl ?_
    refine t_gR k147_9 (by first | assumption | exact Nat.le_of_ble_eq_true rfl | omega) ⟨rfl, rfl, rfl⟩ rfl ?_
    refine t_run 5 rfl ?_
    refine t_ia (N := 8) (j := 4 * r + 0) k147_17 (by decide) (by first | assumption | exact Nat.le_of_ble_eq_true rfl | omega) ⟨⟨rfl, rfl⟩, rfl, rfl⟩ (show 4 * r + 0 < 8 by omega) e4 ?_
    rw [hS]
    refine t_run 1 rfl ?_
    rw [e5, show ibop 0 (nI (5 * r)) (nI S) = nI (5 * r + S) from nI_add _ _]
    refine t_ic_ge k147_19 (fun h19 => ?_) (fun h19 => ?_)
    · refine t_run 1 rfl ?_
      exact t_ir k147_49 rfl (by rfl)
    · exact absurd (lt_nI h19 rfl (by omega) (by omega)) (by omega)
  | succ q ih =>
    intro i hiq
    refine t_run 5 rfl ?_
    refine t_gR k147_9 (by first | assumption | exact Nat.le_of_ble_eq_true rfl | omega) ⟨rfl, rfl, rfl⟩ rfl ?_
    refine t_run 5 rfl ?_
    refine t_ia (N := 8) (j := 4 * r + 0) k147_17 (by decide) (by first | assumption | exact Nat.le_of_ble_eq_true rfl | omega) ⟨⟨rfl, rfl⟩, rfl, rfl⟩ (show 4 * r + 0 < 8 by omega) e4 ?_
    rw [hS]
    refine t_run 1 rfl ?_
    rw [e5, show ibop 0 (nI (5 * r)) (nI S) = nI (5 * r + S) from nI_add _ _]
    refine t_ic_ge k147_19 (fun h19 => ?_) (fun h19 => ?_)
    · exact absurd (ge_nI h19 rfl (by omega) (by omega)) (by omega)
    · refine t_run 1 rfl ?_
      refine t_gR k147_23 (by first | assumption | exact Nat.le_of_ble_eq_true rfl | omega) ⟨rfl, rfl, rfl⟩ rfl ?_
      refine t_run 1 rfl ?_
      refine t_la (N := 10) (j := 5 * r + i) k147_27 (by first | assumption | exact Nat.le_of_ble_eq_true rfl | omega) ⟨⟨rfl, rfl⟩, rfl, rfl⟩ (show 5 * r + i < 10 by omega) rfl ?_
      rw [hN i (by omega)]
      refine t_run 1 rfl ?_
      refine t_gL k147_29 (by first | assumption | exact Nat.le_of_ble_eq_true rfl | omega) ⟨rfl, rfl, rfl⟩ ?_
      rw [h.2.2.2.2.1 hK]
      refine t_run 1 rfl ?_
      refine t_if_ne k147_33 (fun h33 => ?_) (fun h33 => ?_)
      · have e18 : ¬ nm i = tW t p := fun e => h33 ((lg_cmp_eq _ _).mpr (by rw [e]))
        refine t_run 2 rfl ?_
        rw [show nI (5 * r + i) + 1 = nI (5 * r + (i + 1)) from nI_1 _, show findN nm (tW t p) i (q + 1) = findN nm (tW t p) (i + 1) q by simp only [findN]; rw [if_neg e18]]
        exact ih (i + 1) (by omega)
      · have e18 : nm i = tW t p := by
          have := (lg_cmp_eq _ _).mp h33
          rwa [w27_inj (hwn i (by omega)) (tW_ok hK)] at this
        refine t_run 5 rfl ?_
        exact t_ir k147_41 rfl (by rw [e5]; simp only [findN]; rw [if_pos e18]; show nI _ - nI _ = _; rw [pk_sub (by omega), Nat.add_sub_cancel_left]; rfl)
theorem m_stN {S r : Nat} {nm : Nat → List Nat} (hr : r ≤ 1) (hS : F 42 0 (4 * r + 0) = nI S) (hS5 : S ≤ 5) (hN : ∀ i, i < S → G 43 0 (5 * r + i) = w27 (nm i)) (hwn : ∀ i, i < S → wfWd (nm i)) (h : MRd F G t p) (hK : tK t p = 1) : Tm E d 147 0 [some (vr 40 0), some (vi (nI r)), none] [] (cC x) F G (Rs b) (some (vi (fdV (findN nm (tW t p) 0 S)))) (cC x, F, G, Rs b) := by
  have e5 : ibop 2 5 (nI r) = nI (5 * r + 0) := pk_mul 5 r
  refine t_run 4 rfl ?_
  rw [e5]
  exact l_m_stN hr hS hS5 hN hwn h hK S 0 (by omega)
theorem l_m_peN {S r : Nat} {nm : Nat → List Nat} (hr : r ≤ 1) (hS : F 42 0 (4 * r + 1) = nI S) (hS5 : S ≤ 6) (hN : ∀ i, i < S → G 44 0 (6 * r + i) = w27 (nm i)) (hwn : ∀ i, i < S → wfWd (nm i)) (h : MRd F G t p) (hK : tK t p = 1) : ∀ (q i : Nat), i + q = S → Tm E d 148 5 [some (vr 40 0), some (vi (nI r)), some (vi (nI (6 * r + i)))] [] (cC x) F G (Rs b) (some (vi (fdV (findN nm (tW t p) i q)))) (cC x, F, G, Rs b) := by
  intro q
  have e5 : ibop 2 6 (nI r) = nI (6 * r) := pk_mul 6 r
  have e4 : ibop 0 (ibop 2 4 (nI r)) 1 = nI (4 * r + 1) := by show 4 * nI r + 1 = _; rw [show (4 : Int32) = nI 4 from rfl, pk_mul, show (1 : Int32) = nI 1 from rfl, nI_add]
  induction q with
  | zero =>
    intro i hiq
    refine t_run 5 rfl ?_
    refine t_gR k148_11 (by first | assumption | exact Nat.le_of_ble_eq_true rfl | omega) ⟨rfl, rfl, rfl⟩ rfl ?_
    refine t_run 5 rfl ?_
    refine t_ia (N := 8) (j := 4 * r + 1) k148_19 (by decide) (by first | assumption | exact Nat.le_of_ble_eq_true rfl | omega) ⟨⟨rfl, rfl⟩, rfl, rfl⟩ (show 4 * r + 1 < 8 by omega) e4 ?_
    rw [hS]
    refine t_run 1 rfl ?_
    rw [e5, show ibop 0 (nI (6 * r)) (nI S) = nI (6 * r + S) from nI_add _ _]
    refine t_ic_ge k148_21 (fun h21 => ?_) (fun h21 => ?_)
    · refine t_run 1 rfl ?_
      exact t_ir k148_52 rfl (by rfl)
    · exact absurd (lt_nI h21 rfl (by omega) (by omega)) (by omega)
  | succ q ih =>
    intro i hiq
    refine t_run 5 rfl ?_
    refine t_gR k148_11 (by first | assumption | exact Nat.le_of_ble_eq_true rfl | omega) ⟨rfl, rfl, rfl⟩ rfl ?_
    refine t_run 5 rfl ?_
    refine t_ia (N := 8) (j := 4 * r + 1) k148_19 (by decide) (by first | assumption | exact Nat.le_of_ble_eq_true rfl | omega) ⟨⟨rfl, rfl⟩, rfl, rfl⟩ (show 4 * r + 1 < 8 by omega) e4 ?_
    rw [hS]
    refine t_run 1 rfl ?_
    rw [e5, show ibop 0 (nI (6 * r)) (nI S) = nI (6 * r + S) from nI_add _ _]
    refine t_ic_ge k148_21 (fun h21 => ?_) (fun h21 => ?_)
    · exact absurd (ge_nI h21 rfl (by omega) (by omega)) (by omega)
    · refine t_run 1 rfl ?_
      refine t_gR k148_25 (by first | assumption | exact Nat.le_of_ble_eq_true rfl | omega) ⟨rfl, rfl, rfl⟩ rfl ?_
      refine t_run 1 rfl ?_
      refine t_la (N := 12) (j := 6 * r + i) k148_29 (by first | assumption | exact Nat.le_of_ble_eq_true rfl | omega) ⟨⟨rfl, rfl⟩, rfl, rfl⟩ (show 6 * r + i < 12 by omega) rfl ?_
      rw [hN i (by omega)]
      refine t_run 1 rfl ?_
      refine t_gL k148_31 (by first | assumption | exact Nat.le_of_ble_eq_true rfl | omega) ⟨rfl, rfl, rfl⟩ ?_
      rw [h.2.2.2.2.1 hK]
      refine t_run 1 rfl ?_
      refine t_if_ne k148_35 (fun h35 => ?_) (fun h35 => ?_)
      · have e18 : ¬ nm i = tW t p := fun e => h35 ((lg_cmp_eq _ _).mpr (by rw [e]))
        refine t_run 2 rfl ?_
        rw [show nI (6 * r + i) + 1 = nI (6 * r + (i + 1)) from nI_1 _, show findN nm (tW t p) i (q + 1) = findN nm (tW t p) (i + 1) q by simp only [findN]; rw [if_neg e18]]
        exact ih (i + 1) (by omega)
      · have e18 : nm i = tW t p := by
          have := (lg_cmp_eq _ _).mp h35
          rwa [w27_inj (hwn i (by omega)) (tW_ok hK)] at this
        refine t_run 5 rfl ?_
        exact t_ir k148_44 rfl (by rw [e5]; simp only [findN]; rw [if_pos e18]; show nI _ - nI _ = _; rw [pk_sub (by omega), Nat.add_sub_cancel_left]; rfl)
theorem m_peN {S r : Nat} {nm : Nat → List Nat} (hr : r ≤ 1) (hS : F 42 0 (4 * r + 1) = nI S) (hS5 : S ≤ 6) (hN : ∀ i, i < S → G 44 0 (6 * r + i) = w27 (nm i)) (hwn : ∀ i, i < S → wfWd (nm i)) (h : MRd F G t p) (hK : tK t p = 1) : Tm E d 148 0 [some (vr 40 0), some (vi (nI r)), none] [] (cC x) F G (Rs b) (some (vi (fdV (findN nm (tW t p) 0 S)))) (cC x, F, G, Rs b) := by
  have e5 : ibop 2 6 (nI r) = nI (6 * r + 0) := pk_mul 6 r
  refine t_run 4 rfl ?_
  rw [e5]
  exact l_m_peN hr hS hS5 hN hwn h hK S 0 (by omega)
theorem fdV_ge {r : Option Nat} (h : ∀ i, r = some i → i ≤ 1000) : (0 ≤ fdV r) = (r ≠ none) := by
  apply propext
  cases r with
  | none => simp [fdV]
  | some i =>
    constructor
    · intro _ e; cases e
    · intro _
      exact Int32.not_lt.mp (nn_nI (by have := h i rfl; omega))
/-- a number asked for: the fault, or given -/
def MNum (t : TP) (p : Nat) (F : FT) (G : GT) (r : Nat ⊕ Nat) (F2 : FT) (G2 : GT) : Prop := MRd F2 G2 t p ∧ (∀ i, i ≠ 9 → i ≠ 35 → F2 40 0 i = F 40 0 i) ∧ FrK d40 F F2 ∧ G2 = G ∧ match r with
  | .inl f => F2 40 0 9 = nI f
  | .inr i => F2 40 0 35 = nI i
theorem MNum.q {F F2 : FT} {G G2 : GT} {r : Nat ⊕ Nat} (h : MNum t p F G r F2 G2) : MQf F G F2 G2 := ⟨fun i a => h.2.1 i (by omega) (by omega), h.2.2.1, fun _ _ => by rw [h.2.2.2.1], fun _ _ _ => by rw [h.2.2.2.1]⟩
theorem m_needS {S r : Nat} {nm : Nat → List Nat} (hd : 5 ≤ d) (hr : r ≤ 1) (hS : F 42 0 (4 * r + 0) = nI S) (hS5 : S ≤ 5) (hN : ∀ i, i < S → G 43 0 (5 * r + i) = w27 (nm i)) (hwn : ∀ i, i < S → wfWd (nm i)) (h : MRd F G t p) : Td E d 153 0 [some (vr 40 0), some (vi (nI r))] [] x F G b (some (vi (b2i (okB (numH t p (findN nm (tW t p) 0 S)))))) (MNum t p F G (numH t p (findN nm (tW t p) 0 S))) := by
  refine d_run 1 rfl ?_
  refine d_callT 1 k153_1 (by omega) (Nat.le_of_ble_eq_true rfl) rfl (Nat.le_of_ble_eq_true rfl) (Nat.le_of_ble_eq_true rfl) (recv_ok rfl (by first | assumption | exact Nat.le_of_ble_eq_true rfl | omega)) rfl (m_isKept h) rfl ?_
  refine d_if_eq k153_4 (fun h4 => ?_) (fun h4 => ?_)
  · rw [b2i0] at h4
    have h4 : isNm t p = true := by simpa using h4
    have hK := isNm_K h4
    refine d_run 3 rfl ?_
    refine d_callT 2 k153_16 (by omega) (Nat.le_of_ble_eq_true rfl) rfl (Nat.le_of_ble_eq_true rfl) (Nat.le_of_ble_eq_true rfl) (recv_ok rfl (by first | assumption | exact Nat.le_of_ble_eq_true rfl | omega)) rfl (m_stN hr hS hS5 hN hwn h hK) rfl ?_
    refine d_pI k153_19 (by first | assumption | exact Nat.le_of_ble_eq_true rfl | omega) ⟨rfl, rfl⟩ ?_
    refine d_run 1 rfl ?_
    refine d_gI k153_23 (by first | assumption | exact Nat.le_of_ble_eq_true rfl | omega) ⟨rfl, rfl, Or.inl rfl⟩ ?_
    rw [uF_r, pk_us]
    refine d_if_ge k153_26 (fun h26 => ?_) (fun h26 => ?_)
    · rw [fdV_ge (fun i e => by have := (findN_lt _ _ e).2; omega)] at h26
      obtain ⟨j, ej⟩ : ∃ j, findN nm (tW t p) 0 S = some j := by
        cases e : findN nm (tW t p) 0 S with
        | none => exact absurd e h26
        | some j => exact ⟨j, rfl⟩
      rw [show numH t p (findN nm (tW t p) 0 S) = .inr j by simp only [numH]; rw [if_pos h4, ej]]
      refine d_run 2 rfl ?_
      refine d_ib k153_42 (by rfl) ?_
      first | exact ⟨h.u (by omega), fun i _ a => by rw [uF_r, pk_un a], FrK.rf.u rfl, rfl, by show _ = _; rw [uF_r, pk_us, ej]; rfl⟩ | exact ⟨h2.u (by omega), fun i a c => by rw [uF_r, pk_un a, uF_r, pk_un c], (FrK.rf.u rfl).u rfl, rfl, by show _ = _; rw [uF_r, pk_us]⟩
    · rw [fdV_ge (fun i e => by have := (findN_lt _ _ e).2; omega), Decidable.not_not] at h26
      rw [show numH t p (findN nm (tW t p) 0 S) = .inl (2 + 16 * p) by simp only [numH]; rw [if_pos h4, h26]]
      have h2 : MRd (uF F 40 0 35 (fdV (findN nm (tW t p) 0 S))) G t p := h.u (by omega)
      refine d_run 2 rfl ?_
      refine d_callT 2 k153_31 (by omega) (Nat.le_of_ble_eq_true rfl) rfl (Nat.le_of_ble_eq_true rfl) (Nat.le_of_ble_eq_true rfl) (recv_ok rfl (by first | assumption | exact Nat.le_of_ble_eq_true rfl | omega)) rfl (m_fails (c := 2) h2) rfl ?_
      refine d_if_eq k153_34 (fun h34 => ?_) (fun h34 => ?_)
      · refine d_run 1 rfl ?_
        refine d_ib k153_42 (by rfl) ?_
        first | exact ⟨h.u (by omega), fun i _ a => by rw [uF_r, pk_un a], FrK.rf.u rfl, rfl, by show _ = _; rw [uF_r, pk_us, ej]; rfl⟩ | exact ⟨h2.u (by omega), fun i a c => by rw [uF_r, pk_un a, uF_r, pk_un c], (FrK.rf.u rfl).u rfl, rfl, by show _ = _; rw [uF_r, pk_us]⟩
      · exact absurd rfl h34
  · rw [b2i0] at h4
    have h4 : isNm t p = false := by simpa using h4
    rw [show numH t p (findN nm (tW t p) 0 S) = .inl (1 + 16 * p) by simp only [numH]; rw [if_neg (by rw [h4]; decide)]]
    refine d_run 2 rfl ?_
    refine d_callT 2 k153_9 (by omega) (Nat.le_of_ble_eq_true rfl) rfl (Nat.le_of_ble_eq_true rfl) (Nat.le_of_ble_eq_true rfl) (recv_ok rfl (by first | assumption | exact Nat.le_of_ble_eq_true rfl | omega)) rfl (m_fails (c := 1) h) rfl ?_
    refine d_ib k153_12 (by rfl) ?_
    exact ⟨h.u (by omega), fun i a _ => by rw [uF_r, pk_un a], FrK.rf.u rfl, rfl, by show _ = _; rw [uF_r, pk_us]⟩
theorem m_needP {S r : Nat} {nm : Nat → List Nat} (hd : 5 ≤ d) (hr : r ≤ 1) (hS : F 42 0 (4 * r + 1) = nI S) (hS5 : S ≤ 6) (hN : ∀ i, i < S → G 44 0 (6 * r + i) = w27 (nm i)) (hwn : ∀ i, i < S → wfWd (nm i)) (h : MRd F G t p) : Td E d 154 0 [some (vr 40 0), some (vi (nI r))] [] x F G b (some (vi (b2i (okB (numH t p (findN nm (tW t p) 0 S)))))) (MNum t p F G (numH t p (findN nm (tW t p) 0 S))) := by
  refine d_run 1 rfl ?_
  refine d_callT 1 k154_1 (by omega) (Nat.le_of_ble_eq_true rfl) rfl (Nat.le_of_ble_eq_true rfl) (Nat.le_of_ble_eq_true rfl) (recv_ok rfl (by first | assumption | exact Nat.le_of_ble_eq_true rfl | omega)) rfl (m_isKept h) rfl ?_
  refine d_if_eq k154_4 (fun h4 => ?_) (fun h4 => ?_)
  · rw [b2i0] at h4
    have h4 : isNm t p = true := by simpa using h4
    have hK := isNm_K h4
    refine d_run 3 rfl ?_
    refine d_callT 2 k154_16 (by omega) (Nat.le_of_ble_eq_true rfl) rfl (Nat.le_of_ble_eq_true rfl) (Nat.le_of_ble_eq_true rfl) (recv_ok rfl (by first | assumption | exact Nat.le_of_ble_eq_true rfl | omega)) rfl (m_peN hr hS hS5 hN hwn h hK) rfl ?_
    refine d_pI k154_19 (by first | assumption | exact Nat.le_of_ble_eq_true rfl | omega) ⟨rfl, rfl⟩ ?_
    refine d_run 1 rfl ?_
    refine d_gI k154_23 (by first | assumption | exact Nat.le_of_ble_eq_true rfl | omega) ⟨rfl, rfl, Or.inl rfl⟩ ?_
    rw [uF_r, pk_us]
    refine d_if_ge k154_26 (fun h26 => ?_) (fun h26 => ?_)
    · rw [fdV_ge (fun i e => by have := (findN_lt _ _ e).2; omega)] at h26
      obtain ⟨j, ej⟩ : ∃ j, findN nm (tW t p) 0 S = some j := by
        cases e : findN nm (tW t p) 0 S with
        | none => exact absurd e h26
        | some j => exact ⟨j, rfl⟩
      rw [show numH t p (findN nm (tW t p) 0 S) = .inr j by simp only [numH]; rw [if_pos h4, ej]]
      refine d_run 2 rfl ?_
      refine d_ib k154_42 (by rfl) ?_
      first | exact ⟨h.u (by omega), fun i _ a => by rw [uF_r, pk_un a], FrK.rf.u rfl, rfl, by show _ = _; rw [uF_r, pk_us, ej]; rfl⟩ | exact ⟨h2.u (by omega), fun i a c => by rw [uF_r, pk_un a, uF_r, pk_un c], (FrK.rf.u rfl).u rfl, rfl, by show _ = _; rw [uF_r, pk_us]⟩
    · rw [fdV_ge (fun i e => by have := (findN_lt _ _ e).2; omega), Decidable.not_not] at h26
      rw [show numH t p (findN nm (tW t p) 0 S) = .inl (2 + 16 * p) by simp only [numH]; rw [if_pos h4, h26]]
      have h2 : MRd (uF F 40 0 35 (fdV (findN nm (tW t p) 0 S))) G t p := h.u (by omega)
      refine d_run 2 rfl ?_
      refine d_callT 2 k154_31 (by omega) (Nat.le_of_ble_eq_true rfl) rfl (Nat.le_of_ble_eq_true rfl) (Nat.le_of_ble_eq_true rfl) (recv_ok rfl (by first | assumption | exact Nat.le_of_ble_eq_true rfl | omega)) rfl (m_fails (c := 2) h2) rfl ?_
      refine d_if_eq k154_34 (fun h34 => ?_) (fun h34 => ?_)
      · refine d_run 1 rfl ?_
        refine d_ib k154_42 (by rfl) ?_
        first | exact ⟨h.u (by omega), fun i _ a => by rw [uF_r, pk_un a], FrK.rf.u rfl, rfl, by show _ = _; rw [uF_r, pk_us, ej]; rfl⟩ | exact ⟨h2.u (by omega), fun i a c => by rw [uF_r, pk_un a, uF_r, pk_un c], (FrK.rf.u rfl).u rfl, rfl, by show _ = _; rw [uF_r, pk_us]⟩
      · exact absurd rfl h34
  · rw [b2i0] at h4
    have h4 : isNm t p = false := by simpa using h4
    rw [show numH t p (findN nm (tW t p) 0 S) = .inl (1 + 16 * p) by simp only [numH]; rw [if_neg (by rw [h4]; decide)]]
    refine d_run 2 rfl ?_
    refine d_callT 2 k154_9 (by omega) (Nat.le_of_ble_eq_true rfl) rfl (Nat.le_of_ble_eq_true rfl) (Nat.le_of_ble_eq_true rfl) (recv_ok rfl (by first | assumption | exact Nat.le_of_ble_eq_true rfl | omega)) rfl (m_fails (c := 1) h) rfl ?_
    refine d_ib k154_12 (by rfl) ?_
    exact ⟨h.u (by omega), fun i a _ => by rw [uF_r, pk_un a], FrK.rf.u rfl, rfl, by show _ = _; rw [uF_r, pk_us]⟩
/-- a reading by the tape alone: the fault, or a place -/
def MOut (t : TP) (F : FT) (G : GT) (r : Nat ⊕ Nat) (F2 : FT) (G2 : GT) : Prop := (MNx F G F2 G2 ∨ ∃ f F1, F2 = uF F1 40 0 9 (nI f) ∧ G2 = G ∧ F1 = F) ∧ match r with
  | .inl f => F2 40 0 9 = nI f
  | .inr p => MRd F2 G2 t p ∧ MNx F G F2 G2
theorem MOut.q {F F2 : FT} {G G2 : GT} {r : Nat ⊕ Nat} (h : MOut t F G r F2 G2) : MQf F G F2 G2 := by
  rcases h.1 with h | ⟨f, F1, rfl, rfl, rfl⟩
  · exact h.q
  · exact MQf.u (by omega)
theorem m_needW {c : Int64} (hc : w27 (lets n) = c) (hn : n < 26) (h0 : n ≠ 0) (h2 : n ≠ 2) (hd : 5 ≤ d) (h : MRd F G t p) : Td E d 150 0 [some (vr 40 0), some (vl c), none] [] x F G b (some (vi (b2i (okB (pWord t p n))))) (MOut t F G (pWord t p n)) := by
  refine d_run 2 rfl ?_
  refine d_callT 2 k150_2 (by omega) (Nat.le_of_ble_eq_true rfl) rfl (Nat.le_of_ble_eq_true rfl) (Nat.le_of_ble_eq_true rfl) (recv_ok rfl (by first | assumption | exact Nat.le_of_ble_eq_true rfl | omega)) rfl (m_isWd hc hn h0 h2 h) rfl ?_
  refine d_if_ne k150_5 (fun h5 => ?_) (fun h5 => ?_)
  · rw [b2i0, Bool.not_eq_false] at h5
    rw [show pWord t p n = .inr (tN t p) by simp only [pWord]; rw [if_pos h5]]
    refine d_run 1 rfl ?_
    refine d_call 1 k150_15 (by omega) (Nat.le_of_ble_eq_true rfl) rfl (Nat.le_of_ble_eq_true rfl) (Nat.le_of_ble_eq_true rfl) (recv_ok rfl (by first | assumption | exact Nat.le_of_ble_eq_true rfl | omega)) rfl (m_nx (by omega) h) rfl ?_
    rintro F1 G1 ⟨h1, n1⟩
    refine d_run 1 rfl ?_
    refine d_ib k150_19 (by rfl) ?_
    exact ⟨Or.inl n1, h1, n1⟩
  · rw [b2i0] at h5
    rw [show pWord t p n = .inl (1 + 16 * p) by simp only [pWord]; rw [if_neg (by rw [h5]; decide)]]
    refine d_run 2 rfl ?_
    refine d_callT 2 k150_10 (by omega) (Nat.le_of_ble_eq_true rfl) rfl (Nat.le_of_ble_eq_true rfl) (Nat.le_of_ble_eq_true rfl) (recv_ok rfl (by first | assumption | exact Nat.le_of_ble_eq_true rfl | omega)) rfl (m_fails (c := 1) h) rfl ?_
    refine d_ib k150_13 (by rfl) ?_
    exact ⟨Or.inr ⟨_, F, rfl, rfl, rfl⟩, by show _ = _; rw [uF_r, pk_us]⟩
theorem m_closes (hd : 5 ≤ d) (h : MRd F G t p) : Td E d 151 0 [some (vr 40 0)] [] x F G b (some (vi (b2i (okB (pSign t p 59))))) (MOut t F G (pSign t p 59)) := by
  refine d_run 2 rfl ?_
  refine d_callT 2 k151_3 (by omega) (Nat.le_of_ble_eq_true rfl) rfl (Nat.le_of_ble_eq_true rfl) (Nat.le_of_ble_eq_true rfl) (recv_ok rfl (by first | assumption | exact Nat.le_of_ble_eq_true rfl | omega)) rfl (m_isSg (c := 59) (by decide) h) rfl ?_
  refine d_if_ne k151_6 (fun h6 => ?_) (fun h6 => ?_)
  · rw [b2i0, Bool.not_eq_false] at h6
    rw [show pSign t p 59 = .inr (tN t p) by simp only [pSign]; rw [if_pos h6]]
    refine d_run 1 rfl ?_
    refine d_call 1 k151_16 (by omega) (Nat.le_of_ble_eq_true rfl) rfl (Nat.le_of_ble_eq_true rfl) (Nat.le_of_ble_eq_true rfl) (recv_ok rfl (by first | assumption | exact Nat.le_of_ble_eq_true rfl | omega)) rfl (m_nx (by omega) h) rfl ?_
    rintro F1 G1 ⟨h1, n1⟩
    refine d_run 1 rfl ?_
    refine d_ib k151_20 (by rfl) ?_
    exact ⟨Or.inl n1, h1, n1⟩
  · rw [b2i0] at h6
    rw [show pSign t p 59 = .inl (1 + 16 * p) by simp only [pSign]; rw [if_neg (by rw [h6]; decide)]]
    refine d_run 2 rfl ?_
    refine d_callT 2 k151_11 (by omega) (Nat.le_of_ble_eq_true rfl) rfl (Nat.le_of_ble_eq_true rfl) (Nat.le_of_ble_eq_true rfl) (recv_ok rfl (by first | assumption | exact Nat.le_of_ble_eq_true rfl | omega)) rfl (m_fails (c := 1) h) rfl ?_
    refine d_ib k151_14 (by rfl) ?_
    exact ⟨Or.inr ⟨_, F, rfl, rfl, rfl⟩, by show _ = _; rw [uF_r, pk_us]⟩
/-- a number asked for and gone past -/
def MNm2 (t : TP) (p : Nat) (F : FT) (G : GT) (r : Nat ⊕ Nat) (F2 : FT) (G2 : GT) : Prop := MQf F G F2 G2 ∧ match r with
  | .inl f => F2 40 0 9 = nI f
  | .inr q => MRd F2 G2 t (tN t q) ∧ F2 40 0 35 = nI (tV t q) ∧ F2 40 0 37 = F 40 0 37 ∧ G2 40 0 36 = G 40 0 36
theorem m_needN {lo hi : Nat} (hhi : hi ≤ 9999) (hlo : lo ≤ 9999) (hd : 5 ≤ d) (h : MRd F G t p) : Td E d 149 0 [some (vr 40 0), some (vi (nI lo)), some (vi (nI hi))] [] x F G b (some (vi (b2i (okB (pNum t p lo hi))))) (MNm2 t p F G (pNum t p lo hi)) := by
  have hk4 := tK_4 (t := t) (p := p)
  refine d_run 1 rfl ?_
  refine d_gI k149_1 (by first | assumption | exact Nat.le_of_ble_eq_true rfl | omega) ⟨rfl, rfl, Or.inl rfl⟩ ?_
  rw [h.2.2.2.1]
  refine d_run 1 rfl ?_
  refine d_ic_eq k149_5 (fun h5 => ?_) (fun h5 => ?_)
  · have e5 : tK t p = 2 := nI_inj (b := 2) h5 (by omega) (by omega)
    have hv := tV_le e5
    have hW : isW2 (nI (tV t p)) (nI lo) (nI hi) = decide (lo ≤ tV t p ∧ tV t p ≤ hi) := by
      rw [Bool.eq_iff_iff]
      simp only [isW2, Bool.and_eq_true, decide_eq_true_eq]
      rw [nI_leI (by omega) (by omega), nI_leI (by omega) (by omega)]
    refine d_run 1 rfl ?_
    refine d_gI k149_15 (by first | assumption | exact Nat.le_of_ble_eq_true rfl | omega) ⟨rfl, rfl, Or.inl rfl⟩ ?_
    rw [h.2.2.2.2.2.1 e5]
    refine d_run 2 rfl ?_
    refine d_callT 3 k149_20 (by omega) (Nat.le_of_ble_eq_true rfl) rfl (Nat.le_of_ble_eq_true rfl) (Nat.le_of_ble_eq_true rfl) recv_st rfl e_within rfl ?_
    rw [hW]
    refine d_if_ne k149_23 (fun h23 => ?_) (fun h23 => ?_)
    · rw [b2i0, Bool.not_eq_false, decide_eq_true_eq] at h23
      rw [show pNum t p lo hi = .inr p by simp only [pNum]; rw [if_pos e5, if_pos h23]]
      refine d_run 2 rfl ?_
      refine d_gI k149_34 (by first | assumption | exact Nat.le_of_ble_eq_true rfl | omega) ⟨rfl, rfl, Or.inl rfl⟩ ?_
      rw [h.2.2.2.2.2.1 e5]
      refine d_pI k149_37 (by first | assumption | exact Nat.le_of_ble_eq_true rfl | omega) ⟨rfl, rfl⟩ ?_
      refine d_run 1 rfl ?_
      refine d_call 1 k149_41 (by omega) (Nat.le_of_ble_eq_true rfl) rfl (Nat.le_of_ble_eq_true rfl) (Nat.le_of_ble_eq_true rfl) (recv_ok rfl (by first | assumption | exact Nat.le_of_ble_eq_true rfl | omega)) rfl (m_nx (by omega) (h.u (by omega))) rfl ?_
      rintro F1 G1 ⟨h1, n1⟩
      refine d_run 1 rfl ?_
      refine d_ib k149_45 (by rfl) ?_
      exact ⟨(MQf.u (by omega)).tr n1.q, h1, by rw [n1.1 35 (by decide) (by decide) (by decide) (by decide), uF_r, pk_us], by rw [n1.1 37 (by decide) (by decide) (by decide) (by decide), uF_r, pk_un (by decide)], n1.2.2.2 36 (by decide)⟩
    · rw [b2i0, decide_eq_false_iff_not] at h23
      rw [show pNum t p lo hi = .inl (4 + 16 * p) by simp only [pNum]; rw [if_pos e5, if_neg h23]]
      refine d_run 2 rfl ?_
      refine d_callT 2 k149_28 (by omega) (Nat.le_of_ble_eq_true rfl) rfl (Nat.le_of_ble_eq_true rfl) (Nat.le_of_ble_eq_true rfl) (recv_ok rfl (by first | assumption | exact Nat.le_of_ble_eq_true rfl | omega)) rfl (m_fails (c := 4) h) rfl ?_
      refine d_ib k149_31 (by rfl) ?_
      exact ⟨MQf.u (by omega), by show _ = _; rw [uF_r, pk_us]⟩
  · have e5 : ¬ tK t p = 2 := fun e => h5 (by rw [e]; rfl)
    rw [show pNum t p lo hi = .inl (1 + 16 * p) by simp only [pNum]; rw [if_neg e5]]
    refine d_run 2 rfl ?_
    refine d_callT 2 k149_10 (by omega) (Nat.le_of_ble_eq_true rfl) rfl (Nat.le_of_ble_eq_true rfl) (Nat.le_of_ble_eq_true rfl) (recv_ok rfl (by first | assumption | exact Nat.le_of_ble_eq_true rfl | omega)) rfl (m_fails (c := 1) h) rfl ?_
    refine d_ib k149_13 (by rfl) ?_
    exact ⟨MQf.u (by omega), by show _ = _; rw [uF_r, pk_us]⟩
end TA
