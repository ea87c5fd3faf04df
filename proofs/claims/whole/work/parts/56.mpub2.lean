/-! WALK, WIND, MEND, HOUR, UNDO, TALE, TINKERS, ENGAGED OF THE REFERENCE -/
theorem dKe_k {F F2 : FT} (h : FrK dKe F F2) : FrK dMk F F2 := h.mo (fun k e => by
  simp only [dMk, Bool.or_eq_false_iff] at e
  simp only [dKe, Bool.or_eq_false_iff]
  exact ⟨e.1.1.1.1.1.1, e.1.1.1.1.2⟩)
theorem MPost.kp {F F1 F2 : FT} {G : GT} {o : SG} {s t : ST} {ps : List ST} (h : MInv F G o) (k1 : MPa F1 (lP (gA o)) ps) (k2 : ∀ i, i ≠ 49 → F1 40 0 i = F 40 0 i) (k3 : FrK dKe F F1) (m : MQp F1 (lP (gA o)) s t F2) : MPost (setS o t ps) F G F2 G :=
  MPost.mk h ((dKe_k k3).tr (dMH_k m.2.2.2)) ((m.2.2.1 1 (by decide)).trans (k2 1 (by decide))) m.1 (k1.fr (m.2.2.1 49 (by decide)) (m.2.2.2 74 rfl)) (fun _ _ => rfl)
section M9
variable {E : EV} {d x : Nat} {F : FT} {G : GT} {b : Bool} {o : SG} {u v w : Int32}
theorem e_walk0 (h : MInv F G o) (hw : WF o) (hd : 90 ≤ d) : Td E d 198 5 [some (vr 40 0), some (vi u), some (vi v)] [] x F G b (some (vi (b2i (g_walk o u v)))) (MPost (n_walk o u v) F G) := by
  have hL := h.2.1
  have hA := hw.1
  have hS := h.2.2.2.1.1
  have hwS := hw.2.1.1
  have hP6 := hA.2.1
  have hS5 := hA.1
  by_cases hN : isN u (lP (gA o)) = true
  · obtain ⟨p, hp, rfl⟩ := isN_ex hN (by omega)
    by_cases hM : isN v (lS (gA o)) = true
    · obtain ⟨q, hq, rfl⟩ := isN_ex hM (by omega)
      rw [show g_walk o (nI p) (nI q) = cwkA (gA o) (gS o) p q by simp [g_walk, hN, hM, ix_nI (show p < 100000 by omega), ix_nI (show q < 100000 by omega)]]
      by_cases hc : cwkA (gA o) (gS o) p q = true
      · rw [show n_walk o (nI p) (nI q) = keepS o (wlkA (gS o) p q) by simp [n_walk, g_walk, hN, hM, hc, ix_nI (show p < 100000 by omega), ix_nI (show q < 100000 by omega)]]
        refine d_run 2 rfl ?_
        refine d_callT 2 k198_7 (by omega) (Nat.le_of_ble_eq_true rfl) rfl (Nat.le_of_ble_eq_true rfl) (Nat.le_of_ble_eq_true rfl) (recv_ok rfl (by first | assumption | exact Nat.le_of_ble_eq_true rfl | omega)) rfl (e_isP hL) rfl ?_
        rw [hN]
        refine d_if_eq k198_10 (fun h10 => ?_) (fun h10 => ?_)
        · exact absurd h10 (by decide)
        · refine d_run 2 rfl ?_
          refine d_callT 2 k198_15 (by omega) (Nat.le_of_ble_eq_true rfl) rfl (Nat.le_of_ble_eq_true rfl) (Nat.le_of_ble_eq_true rfl) (recv_ok rfl (by first | assumption | exact Nat.le_of_ble_eq_true rfl | omega)) rfl (e_isS hL) rfl ?_
          rw [hM]
          refine d_if_eq k198_18 (fun h18 => ?_) (fun h18 => ?_)
          · exact absurd h18 (by decide)
          · refine d_run 3 rfl ?_
            refine d_callT 3 k198_24 (by omega) (Nat.le_of_ble_eq_true rfl) rfl (Nat.le_of_ble_eq_true rfl) (Nat.le_of_ble_eq_true rfl) (recv_ok rfl (by first | assumption | exact Nat.le_of_ble_eq_true rfl | omega)) rfl (b_canWalk hL hA hS hwS hp (by omega)) rfl ?_
            rw [hc]
            refine d_if_ne k198_27 (fun h27 => ?_) (fun h27 => ?_)
            · refine d_run 1 rfl ?_
              refine d_call 1 k198_33 (by omega) (Nat.le_of_ble_eq_true rfl) rfl (Nat.le_of_ble_eq_true rfl) (Nat.le_of_ble_eq_true rfl) (recv_ok rfl (by first | assumption | exact Nat.le_of_ble_eq_true rfl | omega)) rfl (b_keeps hP6 hS h.2.2.2.2.2 (by omega)) rfl ?_
              rintro F1 G1 ⟨rfl, k1, k2, k3⟩
              have hS1 : rowS (F1 70 0) (lP (gA o)) (gS o) := by rw [k3 70 rfl]; exact hS
              have hL1 : ML F1 (gA o) := hL.fr (fun k a b => k3 k (by simp only [dKe, Bool.or_eq_false_iff, decide_eq_false_iff_not]; omega))
              refine d_run 1 rfl ?_
              refine d_gR k198_37 (by first | assumption | exact Nat.le_of_ble_eq_true rfl | omega) ⟨rfl, rfl, rfl⟩ rfl ?_
              refine d_run 4 rfl ?_
              refine d_is (N := 50) k198_44 (by first | assumption | exact Nat.le_of_ble_eq_true rfl | omega) ⟨rfl, rfl⟩ (by first | assumption | omega) (nI_add 2 _) ?_
              refine d_run 1 rfl ?_
              refine d_ib k198_46 (by rfl) ?_
              exact MPost.kp h k1 k2 k3 (b_wlk hA hS1 hp)
            · exact absurd h27 (by decide)
      · have hc : cwkA (gA o) (gS o) p q = false := by simpa using hc
        rw [show n_walk o (nI p) (nI q) = o by simp [n_walk, g_walk, hN, hM, hc, ix_nI (show p < 100000 by omega), ix_nI (show q < 100000 by omega)]]
        refine d_run 2 rfl ?_
        refine d_callT 2 k198_7 (by omega) (Nat.le_of_ble_eq_true rfl) rfl (Nat.le_of_ble_eq_true rfl) (Nat.le_of_ble_eq_true rfl) (recv_ok rfl (by first | assumption | exact Nat.le_of_ble_eq_true rfl | omega)) rfl (e_isP hL) rfl ?_
        rw [hN]
        refine d_if_eq k198_10 (fun h10 => ?_) (fun h10 => ?_)
        · exact absurd h10 (by decide)
        · refine d_run 2 rfl ?_
          refine d_callT 2 k198_15 (by omega) (Nat.le_of_ble_eq_true rfl) rfl (Nat.le_of_ble_eq_true rfl) (Nat.le_of_ble_eq_true rfl) (recv_ok rfl (by first | assumption | exact Nat.le_of_ble_eq_true rfl | omega)) rfl (e_isS hL) rfl ?_
          rw [hM]
          refine d_if_eq k198_18 (fun h18 => ?_) (fun h18 => ?_)
          · exact absurd h18 (by decide)
          · refine d_run 3 rfl ?_
            refine d_callT 3 k198_24 (by omega) (Nat.le_of_ble_eq_true rfl) rfl (Nat.le_of_ble_eq_true rfl) (Nat.le_of_ble_eq_true rfl) (recv_ok rfl (by first | assumption | exact Nat.le_of_ble_eq_true rfl | omega)) rfl (b_canWalk hL hA hS hwS hp (by omega)) rfl ?_
            rw [hc]
            refine d_if_ne k198_27 (fun h27 => ?_) (fun h27 => ?_)
            · exact absurd h27 (by decide)
            · refine d_run 1 rfl ?_
              refine d_ib k198_31 (by rfl) ?_
              exact MPost.q0 h
    · have hM : isN v (lS (gA o)) = false := by simpa using hM
      rw [show n_walk o (nI p) v = o by simp [n_walk, g_walk, hM], show g_walk o (nI p) v = false by simp [g_walk, hM]]
      refine d_run 2 rfl ?_
      refine d_callT 2 k198_7 (by omega) (Nat.le_of_ble_eq_true rfl) rfl (Nat.le_of_ble_eq_true rfl) (Nat.le_of_ble_eq_true rfl) (recv_ok rfl (by first | assumption | exact Nat.le_of_ble_eq_true rfl | omega)) rfl (e_isP hL) rfl ?_
      rw [hN]
      refine d_if_eq k198_10 (fun h10 => ?_) (fun h10 => ?_)
      · exact absurd h10 (by decide)
      · refine d_run 2 rfl ?_
        refine d_callT 2 k198_15 (by omega) (Nat.le_of_ble_eq_true rfl) rfl (Nat.le_of_ble_eq_true rfl) (Nat.le_of_ble_eq_true rfl) (recv_ok rfl (by first | assumption | exact Nat.le_of_ble_eq_true rfl | omega)) rfl (e_isS hL) rfl ?_
        rw [hM]
        refine d_if_eq k198_18 (fun h18 => ?_) (fun h18 => ?_)
        · refine d_run 1 rfl ?_
          refine d_ib k198_31 (by rfl) ?_
          exact MPost.q0 h
        · exact absurd h18 (by decide)
  · have hN : isN u (lP (gA o)) = false := by simpa using hN
    rw [show n_walk o u v = o by simp [n_walk, g_walk, hN], show g_walk o u v = false by simp [g_walk, hN]]
    refine d_run 2 rfl ?_
    refine d_callT 2 k198_7 (by omega) (Nat.le_of_ble_eq_true rfl) rfl (Nat.le_of_ble_eq_true rfl) (Nat.le_of_ble_eq_true rfl) (recv_ok rfl (by first | assumption | exact Nat.le_of_ble_eq_true rfl | omega)) rfl (e_isP hL) rfl ?_
    rw [hN]
    refine d_if_eq k198_10 (fun h10 => ?_) (fun h10 => ?_)
    · refine d_run 1 rfl ?_
      refine d_ib k198_31 (by rfl) ?_
      exact MPost.q0 h
    · exact absurd h10 (by decide)
theorem e_walk (h : MInv F G o) (hw : WF o) (hd : 90 ≤ d) : Td E d 198 0 [some (vr 40 0), some (vi u), some (vi v)] [] x F G b (some (vi (b2i (g_walk o u v)))) (MPost (n_walk o u v) F G) := by
  refine d_run 2 rfl ?_
  refine d_pI k198_2 (by first | assumption | exact Nat.le_of_ble_eq_true rfl | omega) ⟨rfl, rfl⟩ ?_
  exact MPost.th h hw (fun h => e_walk0 h hw hd)
theorem e_wind0 (h : MInv F G o) (hw : WF o) (hd : 90 ≤ d) : Td E d 199 5 [some (vr 40 0), some (vi u), some (vi v)] [] x F G b (some (vi (q_wind o u v))) (MPost (n_wind o u v) F G) := by
  have hL := h.2.1
  have hA := hw.1
  have hS := h.2.2.2.1.1
  have hwS := hw.2.1.1
  have hP6 := hA.2.1
  have hS5 := hA.1
  by_cases hN : isTwo u v (lP (gA o)) = true
  · obtain ⟨p, q, hp, hq, hpq, rfl, rfl⟩ := isTwo_ex hN (by omega)
    have hcw := cwd_mwdA (A := gA o) (s := gS o) (a := p) (c := q)
    cases hm : mwdA (gA o) (gS o) p q with
    | false =>
      rw [hm, Bool.false_and] at hcw
      rw [show n_wind o (nI p) (nI q) = o by simp [n_wind, g_wind, hcw, ix_nI (show p < 100000 by omega), ix_nI (show q < 100000 by omega)], show q_wind o (nI p) (nI q) = -1 by simp [q_wind, g_wind, hcw, ix_nI (show p < 100000 by omega), ix_nI (show q < 100000 by omega)]]
      refine d_run 3 rfl ?_
      refine d_callT 3 k199_8 (by omega) (Nat.le_of_ble_eq_true rfl) rfl (Nat.le_of_ble_eq_true rfl) (Nat.le_of_ble_eq_true rfl) (recv_ok rfl (by first | assumption | exact Nat.le_of_ble_eq_true rfl | omega)) rfl (e_isTwo hL (by omega)) rfl ?_
      rw [hN]
      refine d_if_eq k199_11 (fun h11 => ?_) (fun h11 => ?_)
      · exact absurd h11 (by decide)
      · refine d_run 3 rfl ?_
        refine d_callT 3 k199_17 (by omega) (Nat.le_of_ble_eq_true rfl) rfl (Nat.le_of_ble_eq_true rfl) (Nat.le_of_ble_eq_true rfl) (recv_ok rfl (by first | assumption | exact Nat.le_of_ble_eq_true rfl | omega)) rfl (b_might hL hA hS hp hq (by omega)) rfl ?_
        rw [hm]
        refine d_if_eq k199_20 (fun h20 => ?_) (fun h20 => ?_)
        · refine d_run 1 rfl ?_
          refine d_ir k199_32 rfl (by rfl) ?_
          exact MPost.q0 h
        · exact absurd h20 (by decide)
    | true =>
      cases hb2 : (decide (¬ lKi (gA o) q = 3) && !bit (sSn (gS o)) q) with
      | false =>
        rw [hm, hb2, Bool.and_false] at hcw
        rw [show n_wind o (nI p) (nI q) = o by simp [n_wind, g_wind, hcw, ix_nI (show p < 100000 by omega), ix_nI (show q < 100000 by omega)], show q_wind o (nI p) (nI q) = -1 by simp [q_wind, g_wind, hcw, ix_nI (show p < 100000 by omega), ix_nI (show q < 100000 by omega)]]
        refine d_run 3 rfl ?_
        refine d_callT 3 k199_8 (by omega) (Nat.le_of_ble_eq_true rfl) rfl (Nat.le_of_ble_eq_true rfl) (Nat.le_of_ble_eq_true rfl) (recv_ok rfl (by first | assumption | exact Nat.le_of_ble_eq_true rfl | omega)) rfl (e_isTwo hL (by omega)) rfl ?_
        rw [hN]
        refine d_if_eq k199_11 (fun h11 => ?_) (fun h11 => ?_)
        · exact absurd h11 (by decide)
        · refine d_run 3 rfl ?_
          refine d_callT 3 k199_17 (by omega) (Nat.le_of_ble_eq_true rfl) rfl (Nat.le_of_ble_eq_true rfl) (Nat.le_of_ble_eq_true rfl) (recv_ok rfl (by first | assumption | exact Nat.le_of_ble_eq_true rfl | omega)) rfl (b_might hL hA hS hp hq (by omega)) rfl ?_
          rw [hm]
          refine d_if_eq k199_20 (fun h20 => ?_) (fun h20 => ?_)
          · exact absurd h20 (by decide)
          · refine d_run 2 rfl ?_
            refine d_callT 2 k199_25 (by omega) (Nat.le_of_ble_eq_true rfl) rfl (Nat.le_of_ble_eq_true rfl) (Nat.le_of_ble_eq_true rfl) (recv_ok rfl (by first | assumption | exact Nat.le_of_ble_eq_true rfl | omega)) rfl (b_canBe hL hA hS hq (by omega)) rfl ?_
            rw [hb2]
            refine d_if_ne k199_28 (fun h28 => ?_) (fun h28 => ?_)
            · exact absurd h28 (by decide)
            · refine d_run 1 rfl ?_
              refine d_ir k199_32 rfl (by rfl) ?_
              exact MPost.q0 h
      | true =>
        rw [hm, hb2, Bool.and_true] at hcw
        rw [show n_wind o (nI p) (nI q) = keepS o (turnA (gA o) (gS o) p q) by simp [n_wind, g_wind, hN, hcw, ix_nI (show p < 100000 by omega), ix_nI (show q < 100000 by omega)], show q_wind o (nI p) (nI q) = sLf (turnA (gA o) (gS o) p q) q by simp [q_wind, g_wind, hN, hcw, ix_nI (show p < 100000 by omega), ix_nI (show q < 100000 by omega)]]
        refine d_run 3 rfl ?_
        refine d_callT 3 k199_8 (by omega) (Nat.le_of_ble_eq_true rfl) rfl (Nat.le_of_ble_eq_true rfl) (Nat.le_of_ble_eq_true rfl) (recv_ok rfl (by first | assumption | exact Nat.le_of_ble_eq_true rfl | omega)) rfl (e_isTwo hL (by omega)) rfl ?_
        rw [hN]
        refine d_if_eq k199_11 (fun h11 => ?_) (fun h11 => ?_)
        · exact absurd h11 (by decide)
        · refine d_run 3 rfl ?_
          refine d_callT 3 k199_17 (by omega) (Nat.le_of_ble_eq_true rfl) rfl (Nat.le_of_ble_eq_true rfl) (Nat.le_of_ble_eq_true rfl) (recv_ok rfl (by first | assumption | exact Nat.le_of_ble_eq_true rfl | omega)) rfl (b_might hL hA hS hp hq (by omega)) rfl ?_
          rw [hm]
          refine d_if_eq k199_20 (fun h20 => ?_) (fun h20 => ?_)
          · exact absurd h20 (by decide)
          · refine d_run 2 rfl ?_
            refine d_callT 2 k199_25 (by omega) (Nat.le_of_ble_eq_true rfl) rfl (Nat.le_of_ble_eq_true rfl) (Nat.le_of_ble_eq_true rfl) (recv_ok rfl (by first | assumption | exact Nat.le_of_ble_eq_true rfl | omega)) rfl (b_canBe hL hA hS hq (by omega)) rfl ?_
            rw [hb2]
            refine d_if_ne k199_28 (fun h28 => ?_) (fun h28 => ?_)
            · refine d_run 1 rfl ?_
              refine d_call 1 k199_34 (by omega) (Nat.le_of_ble_eq_true rfl) rfl (Nat.le_of_ble_eq_true rfl) (Nat.le_of_ble_eq_true rfl) (recv_ok rfl (by first | assumption | exact Nat.le_of_ble_eq_true rfl | omega)) rfl (b_keeps hP6 hS h.2.2.2.2.2 (by omega)) rfl ?_
              rintro F1 G1 ⟨rfl, k1, k2, k3⟩
              have hS1 : rowS (F1 70 0) (lP (gA o)) (gS o) := by rw [k3 70 rfl]; exact hS
              have hL1 : ML F1 (gA o) := hL.fr (fun k a b => k3 k (by simp only [dKe, Bool.or_eq_false_iff, decide_eq_false_iff_not]; omega))
              refine d_run 3 rfl ?_
              refine d_call 3 k199_40 (by omega) (Nat.le_of_ble_eq_true rfl) rfl (Nat.le_of_ble_eq_true rfl) (Nat.le_of_ble_eq_true rfl) (recv_ok rfl (by first | assumption | exact Nat.le_of_ble_eq_true rfl | omega)) rfl (b_winds hL1 hA hS1 hp hq (by omega)) rfl ?_
              rintro F2 G2 ⟨rfl, m2⟩
              refine d_run 1 rfl ?_
              refine d_gR k199_44 (by first | assumption | exact Nat.le_of_ble_eq_true rfl | omega) ⟨rfl, rfl, rfl⟩ rfl ?_
              refine d_run 3 rfl ?_
              refine d_ia (N := 50) k199_51 (by decide) (by first | assumption | exact Nat.le_of_ble_eq_true rfl | omega) ⟨⟨rfl, rfl⟩, rfl, rfl⟩ (by first | assumption | omega) (nI_add 8 _) ?_
              refine d_ir k199_52 rfl (by exact m2.1.2.2.2.1 q hq) ?_
              exact MPost.kp h k1 k2 k3 m2
            · exact absurd h28 (by decide)
  · have hN : isTwo u v (lP (gA o)) = false := by simpa using hN
    rw [show n_wind o u v = o by simp [n_wind, g_wind, hN], show q_wind o u v = -1 by simp [q_wind, g_wind, hN]]
    refine d_run 3 rfl ?_
    refine d_callT 3 k199_8 (by omega) (Nat.le_of_ble_eq_true rfl) rfl (Nat.le_of_ble_eq_true rfl) (Nat.le_of_ble_eq_true rfl) (recv_ok rfl (by first | assumption | exact Nat.le_of_ble_eq_true rfl | omega)) rfl (e_isTwo hL (by omega)) rfl ?_
    rw [hN]
    refine d_if_eq k199_11 (fun h11 => ?_) (fun h11 => ?_)
    · refine d_run 1 rfl ?_
      refine d_ir k199_32 rfl (by rfl) ?_
      exact MPost.q0 h
    · exact absurd h11 (by decide)
theorem e_wind (h : MInv F G o) (hw : WF o) (hd : 90 ≤ d) : Td E d 199 0 [some (vr 40 0), some (vi u), some (vi v)] [] x F G b (some (vi (q_wind o u v))) (MPost (n_wind o u v) F G) := by
  refine d_run 2 rfl ?_
  refine d_pI k199_2 (by first | assumption | exact Nat.le_of_ble_eq_true rfl | omega) ⟨rfl, rfl⟩ ?_
  exact MPost.th h hw (fun h => e_wind0 h hw hd)
theorem e_mend0 (h : MInv F G o) (hw : WF o) (hd : 90 ≤ d) : Td E d 200 5 [some (vr 40 0), some (vi u)] [] x F G b (some (vi (b2i (g_mend o u)))) (MPost (n_mend o u) F G) := by
  have hL := h.2.1
  have hA := hw.1
  have hS := h.2.2.2.1.1
  have hwS := hw.2.1.1
  have hP6 := hA.2.1
  have hS5 := hA.1
  by_cases hN : isN u (lP (gA o)) = true
  · obtain ⟨p, hp, rfl⟩ := isN_ex hN (by omega)
    by_cases hc : bit (sSn (gS o)) p = true
    · rw [show n_mend o (nI p) = keepS o (repA (gS o) p) by simp [n_mend, g_mend, hN, hc, ix_nI (show p < 100000 by omega)], show g_mend o (nI p) = true by simp [g_mend, hN, hc, ix_nI (show p < 100000 by omega)]]
      refine d_run 2 rfl ?_
      refine d_callT 2 k200_7 (by omega) (Nat.le_of_ble_eq_true rfl) rfl (Nat.le_of_ble_eq_true rfl) (Nat.le_of_ble_eq_true rfl) (recv_ok rfl (by first | assumption | exact Nat.le_of_ble_eq_true rfl | omega)) rfl (e_isP hL) rfl ?_
      rw [hN]
      refine d_if_eq k200_10 (fun h10 => ?_) (fun h10 => ?_)
      · exact absurd h10 (by decide)
      · refine d_run 2 rfl ?_
        refine d_callT 2 k200_15 (by omega) (Nat.le_of_ble_eq_true rfl) rfl (Nat.le_of_ble_eq_true rfl) (Nat.le_of_ble_eq_true rfl) (recv_ok rfl (by first | assumption | exact Nat.le_of_ble_eq_true rfl | omega)) rfl (b_snapped hS) rfl ?_
        rw [hc]
        refine d_if_ne k200_18 (fun h18 => ?_) (fun h18 => ?_)
        · refine d_run 1 rfl ?_
          refine d_call 1 k200_24 (by omega) (Nat.le_of_ble_eq_true rfl) rfl (Nat.le_of_ble_eq_true rfl) (Nat.le_of_ble_eq_true rfl) (recv_ok rfl (by first | assumption | exact Nat.le_of_ble_eq_true rfl | omega)) rfl (b_keeps hP6 hS h.2.2.2.2.2 (by omega)) rfl ?_
          rintro F1 G1 ⟨rfl, k1, k2, k3⟩
          have hS1 : rowS (F1 70 0) (lP (gA o)) (gS o) := by rw [k3 70 rfl]; exact hS
          have hL1 : ML F1 (gA o) := hL.fr (fun k a b => k3 k (by simp only [dKe, Bool.or_eq_false_iff, decide_eq_false_iff_not]; omega))
          refine d_run 2 rfl ?_
          refine d_call 2 k200_29 (by omega) (Nat.le_of_ble_eq_true rfl) rfl (Nat.le_of_ble_eq_true rfl) (Nat.le_of_ble_eq_true rfl) (recv_ok rfl (by first | assumption | exact Nat.le_of_ble_eq_true rfl | omega)) rfl (b_mends hA hS1 hp) rfl ?_
          rintro F2 G2 ⟨rfl, m2⟩
          refine d_run 1 rfl ?_
          refine d_ib k200_33 (by rfl) ?_
          exact MPost.kp h k1 k2 k3 m2
        · exact absurd h18 (by decide)
    · have hc : bit (sSn (gS o)) p = false := by simpa using hc
      rw [show n_mend o (nI p) = o by simp [n_mend, g_mend, hN, hc, ix_nI (show p < 100000 by omega)], show g_mend o (nI p) = false by simp [g_mend, hN, hc, ix_nI (show p < 100000 by omega)]]
      refine d_run 2 rfl ?_
      refine d_callT 2 k200_7 (by omega) (Nat.le_of_ble_eq_true rfl) rfl (Nat.le_of_ble_eq_true rfl) (Nat.le_of_ble_eq_true rfl) (recv_ok rfl (by first | assumption | exact Nat.le_of_ble_eq_true rfl | omega)) rfl (e_isP hL) rfl ?_
      rw [hN]
      refine d_if_eq k200_10 (fun h10 => ?_) (fun h10 => ?_)
      · exact absurd h10 (by decide)
      · refine d_run 2 rfl ?_
        refine d_callT 2 k200_15 (by omega) (Nat.le_of_ble_eq_true rfl) rfl (Nat.le_of_ble_eq_true rfl) (Nat.le_of_ble_eq_true rfl) (recv_ok rfl (by first | assumption | exact Nat.le_of_ble_eq_true rfl | omega)) rfl (b_snapped hS) rfl ?_
        rw [hc]
        refine d_if_ne k200_18 (fun h18 => ?_) (fun h18 => ?_)
        · exact absurd h18 (by decide)
        · refine d_run 1 rfl ?_
          refine d_ib k200_22 (by rfl) ?_
          exact MPost.q0 h
  · have hN : isN u (lP (gA o)) = false := by simpa using hN
    rw [show n_mend o u = o by simp [n_mend, g_mend, hN], show g_mend o u = false by simp [g_mend, hN]]
    refine d_run 2 rfl ?_
    refine d_callT 2 k200_7 (by omega) (Nat.le_of_ble_eq_true rfl) rfl (Nat.le_of_ble_eq_true rfl) (Nat.le_of_ble_eq_true rfl) (recv_ok rfl (by first | assumption | exact Nat.le_of_ble_eq_true rfl | omega)) rfl (e_isP hL) rfl ?_
    rw [hN]
    refine d_if_eq k200_10 (fun h10 => ?_) (fun h10 => ?_)
    · refine d_run 1 rfl ?_
      refine d_ib k200_22 (by rfl) ?_
      exact MPost.q0 h
    · exact absurd h10 (by decide)
theorem e_mend (h : MInv F G o) (hw : WF o) (hd : 90 ≤ d) : Td E d 200 0 [some (vr 40 0), some (vi u)] [] x F G b (some (vi (b2i (g_mend o u)))) (MPost (n_mend o u) F G) := by
  refine d_run 2 rfl ?_
  refine d_pI k200_2 (by first | assumption | exact Nat.le_of_ble_eq_true rfl | omega) ⟨rfl, rfl⟩ ?_
  exact MPost.th h hw (fun h => e_mend0 h hw hd)
theorem e_hour0 (h : MInv F G o) (hw : WF o) (hd : 90 ≤ d) : Td E d 201 5 [some (vr 40 0)] [] x F G b (some (vi (q_hour o))) (MPost (n_hour o) F G) := by
  have hL := h.2.1
  have hA := hw.1
  have hS := h.2.2.2.1.1
  have hwS := hw.2.1.1
  have hP6 := hA.2.1
  have hS5 := hA.1
  refine d_run 1 rfl ?_
  refine d_call 1 k201_6 (by omega) (Nat.le_of_ble_eq_true rfl) rfl (Nat.le_of_ble_eq_true rfl) (Nat.le_of_ble_eq_true rfl) (recv_ok rfl (by first | assumption | exact Nat.le_of_ble_eq_true rfl | omega)) rfl (b_keeps hP6 hS h.2.2.2.2.2 (by omega)) rfl ?_
  rintro F1 G1 ⟨rfl, k1, k2, k3⟩
  have hS1 : rowS (F1 70 0) (lP (gA o)) (gS o) := by rw [k3 70 rfl]; exact hS
  have hL1 : ML F1 (gA o) := hL.fr (fun k a b => k3 k (by simp only [dKe, Bool.or_eq_false_iff, decide_eq_false_iff_not]; omega))
  refine d_run 1 rfl ?_
  refine d_call 1 k201_10 (by omega) (Nat.le_of_ble_eq_true rfl) rfl (Nat.le_of_ble_eq_true rfl) (Nat.le_of_ble_eq_true rfl) (recv_ok rfl (by first | assumption | exact Nat.le_of_ble_eq_true rfl | omega)) rfl (b_passes hL1 hA hS1 hwS (by omega)) rfl ?_
  rintro F2 G2 ⟨rfl, m2⟩
  refine d_ir k201_13 rfl (by rfl) ?_
  exact MPost.kp h k1 k2 k3 m2
theorem e_hour (h : MInv F G o) (hw : WF o) (hd : 90 ≤ d) : Td E d 201 0 [some (vr 40 0)] [] x F G b (some (vi (q_hour o))) (MPost (n_hour o) F G) := by
  refine d_run 2 rfl ?_
  refine d_pI k201_2 (by first | assumption | exact Nat.le_of_ble_eq_true rfl | omega) ⟨rfl, rfl⟩ ?_
  exact MPost.th h hw (fun h => e_hour0 h hw hd)
theorem e_undo0 (h : MInv F G o) (hw : WF o) (hd : 90 ≤ d) : Td E d 202 5 [some (vr 40 0)] [] x F G b (some (vi (b2i (q_undo o)))) (MPost (n_undo o) F G) := by
  have hL := h.2.1
  have hA := hw.1
  have hS := h.2.2.2.1.1
  have hwS := hw.2.1.1
  have hP6 := hA.2.1
  have hS5 := hA.1
  obtain ⟨p1, p2, p3⟩ := h.2.2.2.2.2
  cases hps : gP o with
  | nil =>
    rw [show q_undo o = false by simp only [q_undo]; rw [hps]; rfl, show n_undo o = o by simp only [n_undo]; rw [hps]]
    rw [hps] at p1
    refine d_run 1 rfl ?_
    refine d_gI k202_6 (by first | assumption | exact Nat.le_of_ble_eq_true rfl | omega) ⟨rfl, rfl, Or.inl rfl⟩ ?_
    rw [p1]
    refine d_if_ne k202_9 (fun h9 => ?_) (fun h9 => ?_)
    · exact absurd rfl h9
    · refine d_run 1 rfl ?_
      refine d_ib k202_13 (by rfl) ?_
      exact MPost.q0 h
  | cons s ps =>
    rw [show q_undo o = true by simp only [q_undo]; rw [hps]; rfl, show n_undo o = setS o s ps by simp only [n_undo]; rw [hps]]
    rw [hps, List.length_cons] at p1 p2
    have p3 : ∀ j (hj : j < (s :: ps).length), rowS (fun i => F 74 0 (50 * ((s :: ps).length - 1 - j) + i)) (lP (gA o)) (s :: ps)[j] := by rw [← hps]; exact p3
    have hm1 : ibop 1 (nI (ps.length + 1)) 1 = nI ps.length := nI_pred _
    refine d_run 1 rfl ?_
    refine d_gI k202_6 (by first | assumption | exact Nat.le_of_ble_eq_true rfl | omega) ⟨rfl, rfl, Or.inl rfl⟩ ?_
    rw [p1]
    refine d_if_ne k202_9 (fun h9 => ?_) (fun h9 => ?_)
    · refine d_run 2 rfl ?_
      refine d_gI k202_16 (by first | assumption | exact Nat.le_of_ble_eq_true rfl | omega) ⟨rfl, rfl, Or.inl rfl⟩ ?_
      rw [p1]
      refine d_run 2 rfl ?_
      rw [hm1]
      refine d_pI k202_21 (by first | assumption | exact Nat.le_of_ble_eq_true rfl | omega) ⟨rfl, rfl⟩ ?_
      have e49 : uF F 40 0 49 (nI ps.length) 40 0 49 = nI ps.length := by rw [uF_r, pk_us]
      refine d_run 1 rfl ?_
      refine d_gR k202_25 (by first | assumption | exact Nat.le_of_ble_eq_true rfl | omega) ⟨rfl, rfl, rfl⟩ rfl ?_
      refine d_run 2 rfl ?_
      refine d_gI k202_31 (by first | assumption | exact Nat.le_of_ble_eq_true rfl | omega) ⟨rfl, rfl, Or.inl rfl⟩ ?_
      rw [e49]
      refine d_run 2 rfl ?_
      refine d_gR k202_36 (by first | assumption | exact Nat.le_of_ble_eq_true rfl | omega) ⟨rfl, rfl, rfl⟩ rfl ?_
      refine d_run 1 rfl ?_
      rw [show ibop 2 50 (nI ps.length) = nI (50 * ps.length) from pk_mul 50 _]
      refine d_call 4 k202_40 (by omega) (Nat.le_of_ble_eq_true rfl) rfl (Nat.le_of_ble_eq_true rfl) (Nat.le_of_ble_eq_true rfl) recv_st rfl (b_cp74_70 (a := 50 * ps.length) (c := 0) (by omega) (by omega)) rfl ?_
      rintro F2 G2 ⟨rfl, q1, q2, q3⟩
      refine d_run 1 rfl ?_
      refine d_ib k202_44 (by rfl) ?_
      refine MPost.mk h ((FrK.rf.u rfl).tr (q3.mo (fun k e => ?_))) ?_ ?_ ⟨?_, by omega, ?_⟩ (fun _ _ => rfl)
      · simp only [dMk, Bool.or_eq_false_iff] at e
        exact e.1.1.1.1.1.2
      · rw [q3 40 rfl, uF_r, pk_un (by decide)]
      · refine (p3 0 (by simp)).eq hP6 (fun i hi => ?_)
        have := q1 i hi
        rw [Nat.zero_add, uF_k (by decide)] at this
        rw [this]
        simp
      · rw [q3 40 rfl, e49]
      · intro j hj
        refine (p3 (j + 1) (by simp; omega)).eq hP6 (fun i hi => ?_)
        rw [q3 74 rfl, uF_k (by decide)]
        simp only [List.length_cons]
        congr 2
        omega
    · exact absurd (nI_inj (b := 0) h9 (by omega) (by omega)) (by omega)
theorem e_undo (h : MInv F G o) (hw : WF o) (hd : 90 ≤ d) : Td E d 202 0 [some (vr 40 0)] [] x F G b (some (vi (b2i (q_undo o)))) (MPost (n_undo o) F G) := by
  refine d_run 2 rfl ?_
  refine d_pI k202_2 (by first | assumption | exact Nat.le_of_ble_eq_true rfl | omega) ⟨rfl, rfl⟩ ?_
  exact MPost.th h hw (fun h => e_undo0 h hw hd)
end M9
