/-! rests() of the reference, whole -/
section TR
variable {E : EV} {d x : Nat} {F : FT} {G : GT} {b : Bool} {a c e w : Int32}
theorem rs_bad : Td E d 230 42 [some (vr 40 0), some (vi a), some (vi c), some (vi e), some (vi w), none, none, none, none] [vi 1, vr 40 0] x F G b (some (vi 0)) (RsQ F G 1) := by
  refine d_pI k230_42 (by first | assumption | exact Nat.le_of_ble_eq_true rfl | omega) ⟨rfl, rfl⟩ ?_
  refine d_run 1 rfl ?_
  refine d_gI k230_46 (by first | assumption | exact Nat.le_of_ble_eq_true rfl | omega) ⟨rfl, rfl, Or.inl rfl⟩ ?_
  rw [uF_e]
  refine d_run 1 rfl ?_
  refine d_ic_ne k230_50 (fun h50 => ?_) (fun h50 => ?_)
  · exact absurd rfl h50
  · refine d_run 1 rfl ?_
    refine d_ir k230_54 rfl (by rfl) ?_
    exact ⟨rfl, FrK.rf.u rfl, fun i hi => uF_q (by omega), uF_e⟩
theorem rs_ok (hd : 3 ≤ d) : Td E d 230 42 [some (vr 40 0), some (vi a), some (vi c), some (vi e), some (vi w), none, none, none, none] [vi 0, vr 40 0] x F G b (some (vi (rsG a c e w [(0, 0, 0), (1, 0, 1), (2, 1, 0), (3, 1, 1)] 0).1)) (RsQ F G (rsG a c e w [(0, 0, 0), (1, 0, 1), (2, 1, 0), (3, 1, 1)] 0).2) := by
  refine d_pI k230_42 (by first | assumption | exact Nat.le_of_ble_eq_true rfl | omega) ⟨rfl, rfl⟩ ?_
  refine d_run 1 rfl ?_
  refine d_gI k230_46 (by first | assumption | exact Nat.le_of_ble_eq_true rfl | omega) ⟨rfl, rfl, Or.inl rfl⟩ ?_
  rw [uF_e]
  refine d_run 1 rfl ?_
  refine d_ic_ne k230_50 (fun h50 => ?_) (fun h50 => ?_)
  · refine d_run 4 rfl ?_
    exact td_mo (rs0 (v7 := 0) (v8 := 0) (by omega) uF_e) (fun F2 G2 m => RsQ.u m)
  · exact absurd h50 (by decide)
theorem m_rests (hd : 3 ≤ d) : Td E d 230 0 [some (vr 40 0), some (vi a), some (vi c), some (vi e), some (vi w), none, none, none, none] [] x F G b (some (vi (rsA a c e w).1)) (RsQ F G (rsA a c e w).2) := by
  refine d_run 4 rfl ?_
  refine d_callT 3 k230_5 (by omega) (Nat.le_of_ble_eq_true rfl) rfl (Nat.le_of_ble_eq_true rfl) (Nat.le_of_ble_eq_true rfl) recv_st rfl e_within rfl ?_
  refine d_if_eq k230_8 (fun h8 => ?_) (fun h8 => ?_)
  · rw [b2i0] at h8
    have eG : g_rests a c e w = false := by simp [g_rests, *]
    rw [show rsA a c e w = (0, 1) by simp only [rsA]; rw [if_neg (by rw [eG]; decide)]]
    refine d_run 1 rfl ?_
    exact rs_bad
  · rw [b2i0, Bool.not_eq_false] at h8
    refine d_run 3 rfl ?_
    refine d_callT 3 k230_15 (by omega) (Nat.le_of_ble_eq_true rfl) rfl (Nat.le_of_ble_eq_true rfl) (Nat.le_of_ble_eq_true rfl) recv_st rfl e_within rfl ?_
    refine d_if_eq k230_18 (fun h18 => ?_) (fun h18 => ?_)
    · rw [b2i0] at h18
      have eG : g_rests a c e w = false := by simp [g_rests, *]
      rw [show rsA a c e w = (0, 1) by simp only [rsA]; rw [if_neg (by rw [eG]; decide)]]
      refine d_run 1 rfl ?_
      exact rs_bad
    · rw [b2i0, Bool.not_eq_false] at h18
      refine d_run 3 rfl ?_
      refine d_callT 3 k230_25 (by omega) (Nat.le_of_ble_eq_true rfl) rfl (Nat.le_of_ble_eq_true rfl) (Nat.le_of_ble_eq_true rfl) recv_st rfl e_within rfl ?_
      refine d_if_eq k230_28 (fun h28 => ?_) (fun h28 => ?_)
      · rw [b2i0] at h28
        have eG : g_rests a c e w = false := by simp [g_rests, *]
        rw [show rsA a c e w = (0, 1) by simp only [rsA]; rw [if_neg (by rw [eG]; decide)]]
        refine d_run 1 rfl ?_
        exact rs_bad
      · rw [b2i0, Bool.not_eq_false] at h28
        refine d_run 2 rfl ?_
        refine d_ic_lt k230_34 (fun h34 => ?_) (fun h34 => ?_)
        · have eG : g_rests a c e w = false := by simp only [g_rests]; rw [decide_eq_false (Int32.not_le.mpr h34)]; simp
          rw [show rsA a c e w = (0, 1) by simp only [rsA]; rw [if_neg (by rw [eG]; decide)]]
          refine d_run 1 rfl ?_
          exact rs_bad
        · have g34 := Int32.not_lt.mp h34
          have eG : g_rests a c e w = true := by simp only [g_rests]; rw [h8, h18, h28, decide_eq_true g34]; rfl
          rw [show rsA a c e w = rsG a c e w [(0, 0, 0), (1, 0, 1), (2, 1, 0), (3, 1, 1)] 0 by simp only [rsA]; rw [if_pos eG]]
          refine d_run 2 rfl ?_
          exact rs_ok hd
end TR
