/-! THE REFERENCE'S PLAIN PUBLIC METHODS -/
section M8
variable {E : EV} {d x : Nat} {F : FT} {G : GT} {b : Bool} {o : SG} {u v w : Int32}
theorem le5_ex {w : Int32} (h : isW2 w 0 5 = true) : w = 0 ∨ w = 1 ∨ w = 2 ∨ w = 3 ∨ w = 4 ∨ w = 5 := by
  obtain ⟨n, hn, rfl⟩ := isW2_ex (H := 5) h ⟨by decide, rfl, by decide⟩
  have h6 : n = 0 ∨ n = 1 ∨ n = 2 ∨ n = 3 ∨ n = 4 ∨ n = 5 := by omega
  rcases h6 with rfl | rfl | rfl | rfl | rfl | rfl <;> decide
theorem le5_no {w : Int32} (h : isW2 w 0 5 = false) : ¬ w = 0 ∧ ¬ w = 1 ∧ ¬ w = 2 ∧ ¬ w = 3 ∧ ¬ w = 4 ∧ ¬ w = 5 := by
  refine ⟨?_, ?_, ?_, ?_, ?_, ?_⟩ <;> (intro e; subst e; exact absurd h (by decide))
theorem e_person0 (h : MInv F G o) (hw : WF o) (hd : 90 ≤ d) : Td E d 193 5 [some (vr 40 0), some (vi u), some (vi w)] [] x F G b (some (vi (q_person o u w))) (MPost (o) F G) := by
  have hL := h.2.1
  have hA := hw.1
  have hS := h.2.2.2.1.1
  have hwS := hw.2.1.1
  have hP6 := hA.2.1
  have hS5 := hA.1
  by_cases hN : isN u (lP (gA o)) = true
  · obtain ⟨p, hp, rfl⟩ := isN_ex hN (by omega)
    have hq : q_person o (nI p) w = (if w = 0 then lKi (gA o) p else if w = 1 then sAt (gS o) p else if w = 2 then sLf (gS o) p else if w = 3 then b2i (bit (sSn (gS o)) p) else if w = 4 then b2i (sitA (gS o) p) else if w = 5 then bset (stgA (gA o) (gS o) p) (lP (gA o)) else -1) := by simp only [q_person]; rw [if_pos hN, ix_nI (by omega)]
    cases hM : isW2 w 0 5 with
    | false =>
      obtain ⟨n0, n1, n2, n3, n4, n5⟩ := le5_no hM
      rw [show q_person o (nI p) w = -1 by rw [hq]; simp [n0, n1, n2, n3, n4, n5]]
      refine d_run 2 rfl ?_
      refine d_callT 2 k193_7 (by omega) (Nat.le_of_ble_eq_true rfl) rfl (Nat.le_of_ble_eq_true rfl) (Nat.le_of_ble_eq_true rfl) (recv_ok rfl (by first | assumption | exact Nat.le_of_ble_eq_true rfl | omega)) rfl (e_isP hL) rfl ?_
      rw [hN]
      refine d_if_eq k193_10 (fun h10 => ?_) (fun h10 => ?_)
      · exact absurd h10 (by decide)
      · refine d_run 3 rfl ?_
        refine d_callT 3 k193_16 (by omega) (Nat.le_of_ble_eq_true rfl) rfl (Nat.le_of_ble_eq_true rfl) (Nat.le_of_ble_eq_true rfl) recv_st rfl e_within rfl ?_
        rw [hM]
        refine d_if_ne k193_19 (fun h19 => ?_) (fun h19 => ?_)
        · exact absurd h19 (by decide)
        · refine d_run 1 rfl ?_
          refine d_ir k193_23 rfl (by rfl) ?_
          exact MPost.q0 h
    | true =>
      rcases le5_ex hM with rfl | rfl | rfl | rfl | rfl | rfl
      · rw [show q_person o (nI p) 0 = lKi (gA o) p by rw [hq]; rfl]
        refine d_run 2 rfl ?_
        refine d_callT 2 k193_7 (by omega) (Nat.le_of_ble_eq_true rfl) rfl (Nat.le_of_ble_eq_true rfl) (Nat.le_of_ble_eq_true rfl) (recv_ok rfl (by first | assumption | exact Nat.le_of_ble_eq_true rfl | omega)) rfl (e_isP hL) rfl ?_
        rw [hN]
        refine d_if_eq k193_10 (fun h10 => ?_) (fun h10 => ?_)
        · exact absurd h10 (by decide)
        · refine d_run 3 rfl ?_
          refine d_callT 3 k193_16 (by omega) (Nat.le_of_ble_eq_true rfl) rfl (Nat.le_of_ble_eq_true rfl) (Nat.le_of_ble_eq_true rfl) recv_st rfl e_within rfl ?_
          rw [hM]
          refine d_if_ne k193_19 (fun h19 => ?_) (fun h19 => ?_)
          · refine d_run 2 rfl ?_
            refine d_ic_ge k193_26 (fun h26 => ?_) (fun h26 => ?_)
            · exact absurd h26 (by decide)
            · refine d_run 1 rfl ?_
              refine d_if_ne k193_30 (fun h30 => ?_) (fun h30 => ?_)
              · exact absurd h30 (by decide)
              · refine d_run 1 rfl ?_
                refine d_gR k193_34 (by first | assumption | exact Nat.le_of_ble_eq_true rfl | omega) ⟨rfl, rfl, rfl⟩ rfl ?_
                refine d_run 1 rfl ?_
                refine d_ia (N := 12) k193_38 (by decide) (by first | assumption | exact Nat.le_of_ble_eq_true rfl | omega) ⟨⟨rfl, rfl⟩, rfl, rfl⟩ (by first | assumption | omega) rfl ?_
                refine d_run 1 rfl ?_
                refine d_ir k193_67 rfl (by exact hL.2.2.2.2.2.1 p hp) ?_
                exact MPost.q0 h
          · exact absurd h19 (by decide)
      · rw [show q_person o (nI p) 1 = sAt (gS o) p by rw [hq]; rfl]
        refine d_run 2 rfl ?_
        refine d_callT 2 k193_7 (by omega) (Nat.le_of_ble_eq_true rfl) rfl (Nat.le_of_ble_eq_true rfl) (Nat.le_of_ble_eq_true rfl) (recv_ok rfl (by first | assumption | exact Nat.le_of_ble_eq_true rfl | omega)) rfl (e_isP hL) rfl ?_
        rw [hN]
        refine d_if_eq k193_10 (fun h10 => ?_) (fun h10 => ?_)
        · exact absurd h10 (by decide)
        · refine d_run 3 rfl ?_
          refine d_callT 3 k193_16 (by omega) (Nat.le_of_ble_eq_true rfl) rfl (Nat.le_of_ble_eq_true rfl) (Nat.le_of_ble_eq_true rfl) recv_st rfl e_within rfl ?_
          rw [hM]
          refine d_if_ne k193_19 (fun h19 => ?_) (fun h19 => ?_)
          · refine d_run 2 rfl ?_
            refine d_ic_ge k193_26 (fun h26 => ?_) (fun h26 => ?_)
            · exact absurd h26 (by decide)
            · refine d_run 1 rfl ?_
              refine d_if_ne k193_30 (fun h30 => ?_) (fun h30 => ?_)
              · refine d_run 2 rfl ?_
                refine d_ic_ne k193_44 (fun h44 => ?_) (fun h44 => ?_)
                · exact absurd rfl h44
                · refine d_run 1 rfl ?_
                  refine d_gR k193_48 (by first | assumption | exact Nat.le_of_ble_eq_true rfl | omega) ⟨rfl, rfl, rfl⟩ rfl ?_
                  refine d_run 3 rfl ?_
                  refine d_ia (N := 50) k193_54 (by decide) (by first | assumption | exact Nat.le_of_ble_eq_true rfl | omega) ⟨⟨rfl, rfl⟩, rfl, rfl⟩ (by first | assumption | omega) (nI_add 2 _) ?_
                  refine d_run 1 rfl ?_
                  refine d_ir k193_67 rfl (by exact hS.2.2.1 p hp) ?_
                  exact MPost.q0 h
              · exact absurd h30 (by decide)
          · exact absurd h19 (by decide)
      · rw [show q_person o (nI p) 2 = sLf (gS o) p by rw [hq]; rfl]
        refine d_run 2 rfl ?_
        refine d_callT 2 k193_7 (by omega) (Nat.le_of_ble_eq_true rfl) rfl (Nat.le_of_ble_eq_true rfl) (Nat.le_of_ble_eq_true rfl) (recv_ok rfl (by first | assumption | exact Nat.le_of_ble_eq_true rfl | omega)) rfl (e_isP hL) rfl ?_
        rw [hN]
        refine d_if_eq k193_10 (fun h10 => ?_) (fun h10 => ?_)
        · exact absurd h10 (by decide)
        · refine d_run 3 rfl ?_
          refine d_callT 3 k193_16 (by omega) (Nat.le_of_ble_eq_true rfl) rfl (Nat.le_of_ble_eq_true rfl) (Nat.le_of_ble_eq_true rfl) recv_st rfl e_within rfl ?_
          rw [hM]
          refine d_if_ne k193_19 (fun h19 => ?_) (fun h19 => ?_)
          · refine d_run 2 rfl ?_
            refine d_ic_ge k193_26 (fun h26 => ?_) (fun h26 => ?_)
            · exact absurd h26 (by decide)
            · refine d_run 1 rfl ?_
              refine d_if_ne k193_30 (fun h30 => ?_) (fun h30 => ?_)
              · refine d_run 2 rfl ?_
                refine d_ic_ne k193_44 (fun h44 => ?_) (fun h44 => ?_)
                · refine d_run 1 rfl ?_
                  refine d_gR k193_59 (by first | assumption | exact Nat.le_of_ble_eq_true rfl | omega) ⟨rfl, rfl, rfl⟩ rfl ?_
                  refine d_run 3 rfl ?_
                  refine d_ia (N := 50) k193_66 (by decide) (by first | assumption | exact Nat.le_of_ble_eq_true rfl | omega) ⟨⟨rfl, rfl⟩, rfl, rfl⟩ (by first | assumption | omega) (nI_add 8 _) ?_
                  refine d_ir k193_67 rfl (by exact hS.2.2.2.1 p hp) ?_
                  exact MPost.q0 h
                · exact absurd h44 (by decide)
              · exact absurd h30 (by decide)
          · exact absurd h19 (by decide)
      · rw [show q_person o (nI p) 3 = b2i (bit (sSn (gS o)) p) by rw [hq]; rfl]
        refine d_run 2 rfl ?_
        refine d_callT 2 k193_7 (by omega) (Nat.le_of_ble_eq_true rfl) rfl (Nat.le_of_ble_eq_true rfl) (Nat.le_of_ble_eq_true rfl) (recv_ok rfl (by first | assumption | exact Nat.le_of_ble_eq_true rfl | omega)) rfl (e_isP hL) rfl ?_
        rw [hN]
        refine d_if_eq k193_10 (fun h10 => ?_) (fun h10 => ?_)
        · exact absurd h10 (by decide)
        · refine d_run 3 rfl ?_
          refine d_callT 3 k193_16 (by omega) (Nat.le_of_ble_eq_true rfl) rfl (Nat.le_of_ble_eq_true rfl) (Nat.le_of_ble_eq_true rfl) recv_st rfl e_within rfl ?_
          rw [hM]
          refine d_if_ne k193_19 (fun h19 => ?_) (fun h19 => ?_)
          · refine d_run 2 rfl ?_
            refine d_ic_ge k193_26 (fun h26 => ?_) (fun h26 => ?_)
            · refine d_run 2 rfl ?_
              refine d_ic_ge k193_70 (fun h70 => ?_) (fun h70 => ?_)
              · exact absurd h70 (by decide)
              · refine d_run 2 rfl ?_
                refine d_ic_ne k193_75 (fun h75 => ?_) (fun h75 => ?_)
                · exact absurd rfl h75
                · refine d_run 1 rfl ?_
                  refine d_gR k193_79 (by first | assumption | exact Nat.le_of_ble_eq_true rfl | omega) ⟨rfl, rfl, rfl⟩ rfl ?_
                  refine d_run 1 rfl ?_
                  refine d_ia (N := 50) (j := 1) k193_83 (by decide) (by first | assumption | exact Nat.le_of_ble_eq_true rfl | omega) ⟨⟨rfl, rfl⟩, rfl, rfl⟩ (by decide) rfl ?_
                  rw [hS.2.1]
                  refine d_run 5 rfl ?_
                  refine d_ir k193_104 rfl (by exact b2i_bit _ _) ?_
                  exact MPost.q0 h
            · exact absurd h26 (by decide)
          · exact absurd h19 (by decide)
      · rw [show q_person o (nI p) 4 = b2i (sitA (gS o) p) by rw [hq]; rfl]
        refine d_run 2 rfl ?_
        refine d_callT 2 k193_7 (by omega) (Nat.le_of_ble_eq_true rfl) rfl (Nat.le_of_ble_eq_true rfl) (Nat.le_of_ble_eq_true rfl) (recv_ok rfl (by first | assumption | exact Nat.le_of_ble_eq_true rfl | omega)) rfl (e_isP hL) rfl ?_
        rw [hN]
        refine d_if_eq k193_10 (fun h10 => ?_) (fun h10 => ?_)
        · exact absurd h10 (by decide)
        · refine d_run 3 rfl ?_
          refine d_callT 3 k193_16 (by omega) (Nat.le_of_ble_eq_true rfl) rfl (Nat.le_of_ble_eq_true rfl) (Nat.le_of_ble_eq_true rfl) recv_st rfl e_within rfl ?_
          rw [hM]
          refine d_if_ne k193_19 (fun h19 => ?_) (fun h19 => ?_)
          · refine d_run 2 rfl ?_
            refine d_ic_ge k193_26 (fun h26 => ?_) (fun h26 => ?_)
            · refine d_run 2 rfl ?_
              refine d_ic_ge k193_70 (fun h70 => ?_) (fun h70 => ?_)
              · exact absurd h70 (by decide)
              · refine d_run 2 rfl ?_
                refine d_ic_ne k193_75 (fun h75 => ?_) (fun h75 => ?_)
                · refine d_run 2 rfl ?_
                  refine d_callT 2 k193_93 (by omega) (Nat.le_of_ble_eq_true rfl) rfl (Nat.le_of_ble_eq_true rfl) (Nat.le_of_ble_eq_true rfl) (recv_ok rfl (by first | assumption | exact Nat.le_of_ble_eq_true rfl | omega)) rfl (b_sits hA hS hp (by omega)) rfl ?_
                  refine d_if_eq k193_96 (fun h96 => ?_) (fun h96 => ?_)
                  · refine d_run 1 rfl ?_
                    refine d_ir k193_104 rfl (by simp_all [b2i]) ?_
                    exact MPost.q0 h
                  · refine d_run 2 rfl ?_
                    refine d_ir k193_104 rfl (by simp_all [b2i]) ?_
                    exact MPost.q0 h
                · exact absurd h75 (by decide)
            · exact absurd h26 (by decide)
          · exact absurd h19 (by decide)
      · rw [show q_person o (nI p) 5 = bset (stgA (gA o) (gS o) p) (lP (gA o)) by rw [hq]; rfl]
        refine d_run 2 rfl ?_
        refine d_callT 2 k193_7 (by omega) (Nat.le_of_ble_eq_true rfl) rfl (Nat.le_of_ble_eq_true rfl) (Nat.le_of_ble_eq_true rfl) (recv_ok rfl (by first | assumption | exact Nat.le_of_ble_eq_true rfl | omega)) rfl (e_isP hL) rfl ?_
        rw [hN]
        refine d_if_eq k193_10 (fun h10 => ?_) (fun h10 => ?_)
        · exact absurd h10 (by decide)
        · refine d_run 3 rfl ?_
          refine d_callT 3 k193_16 (by omega) (Nat.le_of_ble_eq_true rfl) rfl (Nat.le_of_ble_eq_true rfl) (Nat.le_of_ble_eq_true rfl) recv_st rfl e_within rfl ?_
          rw [hM]
          refine d_if_ne k193_19 (fun h19 => ?_) (fun h19 => ?_)
          · refine d_run 2 rfl ?_
            refine d_ic_ge k193_26 (fun h26 => ?_) (fun h26 => ?_)
            · refine d_run 2 rfl ?_
              refine d_ic_ge k193_70 (fun h70 => ?_) (fun h70 => ?_)
              · refine d_run 2 rfl ?_
                refine d_callT 2 k193_107 (by omega) (Nat.le_of_ble_eq_true rfl) rfl (Nat.le_of_ble_eq_true rfl) (Nat.le_of_ble_eq_true rfl) (recv_ok rfl (by first | assumption | exact Nat.le_of_ble_eq_true rfl | omega)) rfl (b_stgOf hL hA hS hp (by omega)) rfl ?_
                refine d_ir k193_110 rfl (by rfl) ?_
                exact MPost.q0 h
              · exact absurd h70 (by decide)
            · exact absurd h26 (by decide)
          · exact absurd h19 (by decide)
  · have hN : isN u (lP (gA o)) = false := by simpa using hN
    rw [show q_person o u w = -1 by simp [q_person, hN]]
    refine d_run 2 rfl ?_
    refine d_callT 2 k193_7 (by omega) (Nat.le_of_ble_eq_true rfl) rfl (Nat.le_of_ble_eq_true rfl) (Nat.le_of_ble_eq_true rfl) (recv_ok rfl (by first | assumption | exact Nat.le_of_ble_eq_true rfl | omega)) rfl (e_isP hL) rfl ?_
    rw [hN]
    refine d_if_eq k193_10 (fun h10 => ?_) (fun h10 => ?_)
    · refine d_run 1 rfl ?_
      refine d_ir k193_23 rfl (by rfl) ?_
      exact MPost.q0 h
    · exact absurd h10 (by decide)
theorem e_person (h : MInv F G o) (hw : WF o) (hd : 90 ≤ d) : Td E d 193 0 [some (vr 40 0), some (vi u), some (vi w)] [] x F G b (some (vi (q_person o u w))) (MPost (o) F G) := by
  refine d_run 2 rfl ?_
  refine d_pI k193_2 (by first | assumption | exact Nat.le_of_ble_eq_true rfl | omega) ⟨rfl, rfl⟩ ?_
  exact MPost.th h hw (fun h => e_person0 h hw hd)
theorem e_wound0 (h : MInv F G o) (hw : WF o) (hd : 90 ≤ d) : Td E d 194 5 [some (vr 40 0), some (vi u), some (vi v)] [] x F G b (some (vi (q_wound o u v))) (MPost (o) F G) := by
  have hL := h.2.1
  have hA := hw.1
  have hS := h.2.2.2.1.1
  have hwS := hw.2.1.1
  have hP6 := hA.2.1
  have hS5 := hA.1
  by_cases hN : isTwo u v (lP (gA o)) = true
  · obtain ⟨p, q, hp, hq, hpq, rfl, rfl⟩ := isTwo_ex hN (by omega)
    rw [show q_wound o (nI p) (nI q) = sWd (gS o) (6 * p + q) by simp only [q_wound]; rw [if_pos hN, ix_nI (by omega), ix_nI (by omega)]]
    refine d_run 3 rfl ?_
    refine d_callT 3 k194_8 (by omega) (Nat.le_of_ble_eq_true rfl) rfl (Nat.le_of_ble_eq_true rfl) (Nat.le_of_ble_eq_true rfl) (recv_ok rfl (by first | assumption | exact Nat.le_of_ble_eq_true rfl | omega)) rfl (e_isTwo hL (by omega)) rfl ?_
    rw [hN]
    refine d_if_eq k194_11 (fun h11 => ?_) (fun h11 => ?_)
    · exact absurd h11 (by decide)
    · refine d_run 1 rfl ?_
      refine d_gR k194_15 (by first | assumption | exact Nat.le_of_ble_eq_true rfl | omega) ⟨rfl, rfl, rfl⟩ rfl ?_
      refine d_run 7 rfl ?_
      refine d_ia (N := 50) (j := 14 + (6 * p + q)) k194_27 (by decide) (by first | assumption | exact Nat.le_of_ble_eq_true rfl | omega) ⟨⟨rfl, rfl⟩, rfl, rfl⟩ (show 14 + (6 * p + q) < 50 by omega) (ix14 p q) ?_
      refine d_run 1 rfl ?_
      refine d_ir k194_32 rfl (by exact hS.2.2.2.2.2 _ (by omega)) ?_
      exact MPost.q0 h
  · have hN : isTwo u v (lP (gA o)) = false := by simpa using hN
    rw [show q_wound o u v = -1 by simp [q_wound, hN]]
    refine d_run 3 rfl ?_
    refine d_callT 3 k194_8 (by omega) (Nat.le_of_ble_eq_true rfl) rfl (Nat.le_of_ble_eq_true rfl) (Nat.le_of_ble_eq_true rfl) (recv_ok rfl (by first | assumption | exact Nat.le_of_ble_eq_true rfl | omega)) rfl (e_isTwo hL (by omega)) rfl ?_
    rw [hN]
    refine d_if_eq k194_11 (fun h11 => ?_) (fun h11 => ?_)
    · refine d_run 1 rfl ?_
      refine d_ir k194_32 rfl (by rfl) ?_
      exact MPost.q0 h
    · exact absurd h11 (by decide)
theorem e_wound (h : MInv F G o) (hw : WF o) (hd : 90 ≤ d) : Td E d 194 0 [some (vr 40 0), some (vi u), some (vi v)] [] x F G b (some (vi (q_wound o u v))) (MPost (o) F G) := by
  refine d_run 2 rfl ?_
  refine d_pI k194_2 (by first | assumption | exact Nat.le_of_ble_eq_true rfl | omega) ⟨rfl, rfl⟩ ?_
  exact MPost.th h hw (fun h => e_wound0 h hw hd)
theorem e_lanes0 (h : MInv F G o) (hw : WF o) (hd : 90 ≤ d) : Td E d 195 5 [some (vr 40 0), some (vi u)] [] x F G b (some (vi (q_lanes o u))) (MPost (o) F G) := by
  have hL := h.2.1
  have hA := hw.1
  have hS := h.2.2.2.1.1
  have hwS := hw.2.1.1
  have hP6 := hA.2.1
  have hS5 := hA.1
  by_cases hN : isN u (lS (gA o)) = true
  · obtain ⟨p, hp, rfl⟩ := isN_ex hN (by omega)
    rw [show q_lanes o (nI p) = lLn (gA o) p by simp only [q_lanes]; rw [if_pos hN, ix_nI (by omega)]]
    refine d_run 2 rfl ?_
    refine d_callT 2 k195_7 (by omega) (Nat.le_of_ble_eq_true rfl) rfl (Nat.le_of_ble_eq_true rfl) (Nat.le_of_ble_eq_true rfl) (recv_ok rfl (by first | assumption | exact Nat.le_of_ble_eq_true rfl | omega)) rfl (e_isS hL) rfl ?_
    rw [hN]
    refine d_if_eq k195_10 (fun h10 => ?_) (fun h10 => ?_)
    · exact absurd h10 (by decide)
    · refine d_run 1 rfl ?_
      refine d_gR k195_14 (by first | assumption | exact Nat.le_of_ble_eq_true rfl | omega) ⟨rfl, rfl, rfl⟩ rfl ?_
      refine d_run 1 rfl ?_
      refine d_ia (N := 10) k195_18 (by decide) (by first | assumption | exact Nat.le_of_ble_eq_true rfl | omega) ⟨⟨rfl, rfl⟩, rfl, rfl⟩ (by first | assumption | omega) rfl ?_
      refine d_run 1 rfl ?_
      refine d_ir k195_23 rfl (by exact hL.2.2.2.2.1 p hp) ?_
      exact MPost.q0 h
  · have hN : isN u (lS (gA o)) = false := by simpa using hN
    rw [show q_lanes o u = -1 by simp [q_lanes, hN]]
    refine d_run 2 rfl ?_
    refine d_callT 2 k195_7 (by omega) (Nat.le_of_ble_eq_true rfl) rfl (Nat.le_of_ble_eq_true rfl) (Nat.le_of_ble_eq_true rfl) (recv_ok rfl (by first | assumption | exact Nat.le_of_ble_eq_true rfl | omega)) rfl (e_isS hL) rfl ?_
    rw [hN]
    refine d_if_eq k195_10 (fun h10 => ?_) (fun h10 => ?_)
    · refine d_run 1 rfl ?_
      refine d_ir k195_23 rfl (by rfl) ?_
      exact MPost.q0 h
    · exact absurd h10 (by decide)
theorem e_lanes (h : MInv F G o) (hw : WF o) (hd : 90 ≤ d) : Td E d 195 0 [some (vr 40 0), some (vi u)] [] x F G b (some (vi (q_lanes o u))) (MPost (o) F G) := by
  refine d_run 2 rfl ?_
  refine d_pI k195_2 (by first | assumption | exact Nat.le_of_ble_eq_true rfl | omega) ⟨rfl, rfl⟩ ?_
  exact MPost.th h hw (fun h => e_lanes0 h hw hd)
theorem e_gives0 (h : MInv F G o) (hw : WF o) (hd : 90 ≤ d) : Td E d 196 5 [some (vr 40 0), some (vi u), some (vi v)] [] x F G b (some (vi (q_gives o u v))) (MPost (o) F G) := by
  have hL := h.2.1
  have hA := hw.1
  have hS := h.2.2.2.1.1
  have hwS := hw.2.1.1
  have hP6 := hA.2.1
  have hS5 := hA.1
  by_cases hN : isTwo u v (lP (gA o)) = true
  · obtain ⟨p, q, hp, hq, hpq, rfl, rfl⟩ := isTwo_ex hN (by omega)
    rw [show q_gives o (nI p) (nI q) = givA (gA o) (gS o) p q (sLf (gS o) q) by simp only [q_gives]; rw [if_pos hN, ix_nI (by omega), ix_nI (by omega)]]
    refine d_run 3 rfl ?_
    refine d_callT 3 k196_8 (by omega) (Nat.le_of_ble_eq_true rfl) rfl (Nat.le_of_ble_eq_true rfl) (Nat.le_of_ble_eq_true rfl) (recv_ok rfl (by first | assumption | exact Nat.le_of_ble_eq_true rfl | omega)) rfl (e_isTwo hL (by omega)) rfl ?_
    rw [hN]
    refine d_if_eq k196_11 (fun h11 => ?_) (fun h11 => ?_)
    · exact absurd h11 (by decide)
    · refine d_run 4 rfl ?_
      refine d_gR k196_18 (by first | assumption | exact Nat.le_of_ble_eq_true rfl | omega) ⟨rfl, rfl, rfl⟩ rfl ?_
      refine d_run 3 rfl ?_
      refine d_ia (N := 50) k196_25 (by decide) (by first | assumption | exact Nat.le_of_ble_eq_true rfl | omega) ⟨⟨rfl, rfl⟩, rfl, rfl⟩ (by first | assumption | omega) (nI_add 8 _) ?_
      rw [hS.2.2.2.1 q hq]
      refine d_call 4 k196_26 (by omega) (Nat.le_of_ble_eq_true rfl) rfl (Nat.le_of_ble_eq_true rfl) (Nat.le_of_ble_eq_true rfl) (recv_ok rfl (by first | assumption | exact Nat.le_of_ble_eq_true rfl | omega)) rfl (b_given hL hA hS hp hq (by omega)) rfl ?_
      rintro F1 G1 ⟨rfl, f1⟩
      refine d_run 1 rfl ?_
      refine d_ir k196_33 rfl (by rfl) ?_
      exact MPost.sc h hw f1
  · have hN : isTwo u v (lP (gA o)) = false := by simpa using hN
    rw [show q_gives o u v = -1 by simp [q_gives, hN]]
    refine d_run 3 rfl ?_
    refine d_callT 3 k196_8 (by omega) (Nat.le_of_ble_eq_true rfl) rfl (Nat.le_of_ble_eq_true rfl) (Nat.le_of_ble_eq_true rfl) (recv_ok rfl (by first | assumption | exact Nat.le_of_ble_eq_true rfl | omega)) rfl (e_isTwo hL (by omega)) rfl ?_
    rw [hN]
    refine d_if_eq k196_11 (fun h11 => ?_) (fun h11 => ?_)
    · refine d_run 1 rfl ?_
      refine d_ir k196_33 rfl (by rfl) ?_
      exact MPost.q0 h
    · exact absurd h11 (by decide)
theorem e_gives (h : MInv F G o) (hw : WF o) (hd : 90 ≤ d) : Td E d 196 0 [some (vr 40 0), some (vi u), some (vi v)] [] x F G b (some (vi (q_gives o u v))) (MPost (o) F G) := by
  refine d_run 2 rfl ?_
  refine d_pI k196_2 (by first | assumption | exact Nat.le_of_ble_eq_true rfl | omega) ⟨rfl, rfl⟩ ?_
  exact MPost.th h hw (fun h => e_gives0 h hw hd)
end M8
