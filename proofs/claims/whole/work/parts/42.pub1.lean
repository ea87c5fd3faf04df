/-! THE CLASS'S PUBLIC METHODS, the plain ones -/
abbrev ix (u : Int32) : Nat := u.toNatClampNeg
theorem ix_nI {p : Nat} (h : p < 100000) : ix (nI p) = p := nI_clamp (by omega)
/-- behind a call of the class: what stands, and that nothing else has changed -/
def CPost (b : Bool) (o : SG) (F : FT) (G : GT) (F2 : FT) (G2 : GT) : Prop := CInv F2 G2 b o ∧ FrD dCl F F2 ∧ ∀ k, 40 ≤ k → G2 k = G k
theorem CPost.q {b : Bool} {o : SG} {F F2 : FT} {G : GT} (h : CInv F G b o) (hf : FrD dQ F F2) : CPost b o F G F2 G := ⟨h.fr hf (fun _ _ => rfl), dQ_Cl hf, fun _ _ => rfl⟩
theorem CPost.ks {F F2 : FT} {G : GT} {b : Bool} {o : SG} {s : ST} {ps : List ST} (h : CInv F G b o) (hf : FrD dKS F F2) (hs : CS F2 0 (lP (gA o)) s) (hp : CPa F2 (lP (gA o)) ps) : CPost b (setS o s ps) F G F2 G := ⟨h.ks hf hs hp, dKS_Cl hf, fun _ _ => rfl⟩
def q_person (o : SG) (u w : Int32) : Int32 := if isN u (lP (gA o)) = true then (if w = 0 then lKi (gA o) (ix u) else if w = 1 then sAt (gS o) (ix u) else if w = 2 then sLf (gS o) (ix u) else if w = 3 then b2i (bit (sSn (gS o)) (ix u)) else if w = 4 then b2i (sitA (gS o) (ix u)) else if w = 5 then bset (stgA (gA o) (gS o) (ix u)) (lP (gA o)) else -1) else -1
def q_wound (o : SG) (u v : Int32) : Int32 := if isTwo u v (lP (gA o)) = true then sWd (gS o) (6 * ix u + ix v) else -1
def q_lanes (o : SG) (u : Int32) : Int32 := if isN u (lS (gA o)) = true then lLn (gA o) (ix u) else -1
def q_gives (o : SG) (u v : Int32) : Int32 := if isTwo u v (lP (gA o)) = true then givA (gA o) (gS o) (ix u) (ix v) (sLf (gS o) (ix v)) else -1
def g_walk (o : SG) (u v : Int32) : Bool := isN u (lP (gA o)) && isN v (lS (gA o)) && cwkA (gA o) (gS o) (ix u) (ix v)
def n_walk (o : SG) (u v : Int32) : SG := if g_walk o u v = true then keepS o (wlkA (gS o) (ix u) (ix v)) else o
def g_wind (o : SG) (u v : Int32) : Bool := isTwo u v (lP (gA o)) && cwdA (gA o) (gS o) (ix u) (ix v)
def n_wind (o : SG) (u v : Int32) : SG := if g_wind o u v = true then keepS o (turnA (gA o) (gS o) (ix u) (ix v)) else o
def q_wind (o : SG) (u v : Int32) : Int32 := if g_wind o u v = true then sLf (turnA (gA o) (gS o) (ix u) (ix v)) (ix v) else -1
def g_mend (o : SG) (u : Int32) : Bool := isN u (lP (gA o)) && bit (sSn (gS o)) (ix u)
def n_mend (o : SG) (u : Int32) : SG := if g_mend o u = true then keepS o (repA (gS o) (ix u)) else o
def n_hour (o : SG) : SG := keepS o (hourA (gA o) (gS o))
def q_hour (o : SG) : Int32 := hrN (gA o) (gS o)
def q_undo (o : SG) : Bool := !(gP o).isEmpty
def n_undo (o : SG) : SG := match gP o with
  | [] => o
  | s :: ps => setS o s ps
def g_tale (o : SG) (u v : Int32) : Bool := isN u (lP (gA o)) && isW2 v 0 99
def n_tale (o : SG) (u v : Int32) : SG := if g_tale o u v = true then (gT o, gN o, gA o, (gS o, gW o, upd (gTl o) (ix u) v), gM o, gP o) else o
theorem isTwo_ex {u v : Int32} {P : Nat} (h : isTwo u v P = true) (hP : P < 1000) : ∃ p q, p < P ∧ q < P ∧ p ≠ q ∧ u = nI p ∧ v = nI q := by
  simp only [isTwo, Bool.and_eq_true, decide_eq_true_eq] at h
  obtain ⟨p, hp, rfl⟩ := isN_ex h.1.1 hP
  obtain ⟨q, hq, rfl⟩ := isN_ex h.1.2 hP
  exact ⟨p, q, hp, hq, nI_ne h.2, rfl, rfl⟩
section P1
variable {E : EV} {d x : Nat} {F : FT} {G : GT} {b : Bool} {o : SG} {u v w : Int32}
theorem a_person (h : CInv F G b o) (hw : WF o) (hd : 100 ≤ d) : Td E d 89 0 [some (vr 1 0), some (vi u), some (vi w), none] [] x F G b (some (vi (q_person o u w))) (CPost b (o) F G) := by
  have hL := h.2.1
  have hA := hw.1
  have hS := h.2.2.2.1.1
  have hwS := hw.2.1.1
  have hP6 := hA.2.1
  have hS5 := hA.1
  by_cases hN : isN u (lP (gA o)) = true
  · obtain ⟨p, hp, rfl⟩ := isN_ex hN (by omega)
    rw [show q_person o (nI p) w = (if w = 0 then lKi (gA o) p else if w = 1 then sAt (gS o) p else if w = 2 then sLf (gS o) p else if w = 3 then b2i (bit (sSn (gS o)) p) else if w = 4 then b2i (sitA (gS o) p) else if w = 5 then bset (stgA (gA o) (gS o) p) (lP (gA o)) else -1) by simp only [q_person]; rw [if_pos hN, ix_nI (by omega)]]
    refine d_run 2 rfl ?_
    refine d_callT 2 k89_2 (by omega) (Nat.le_of_ble_eq_true rfl) rfl (Nat.le_of_ble_eq_true rfl) (Nat.le_of_ble_eq_true rfl) (recv_ok rfl (by first | assumption | exact Nat.le_of_ble_eq_true rfl | omega)) rfl (a_isP hL) rfl ?_
    rw [hN]
    refine d_if_ne k89_5 (fun h5 => ?_) (fun h5 => ?_)
    · refine d_run 1 rfl ?_
      refine d_gR k89_11 (by first | assumption | exact Nat.le_of_ble_eq_true rfl | omega) ⟨rfl, rfl, rfl⟩ rfl ?_
      refine d_gR k89_14 (by first | assumption | exact Nat.le_of_ble_eq_true rfl | omega | exact Nat.lt_of_lt_of_le (m := 5) (by omega) (Nat.le_of_ble_eq_true rfl)) ⟨rfl, rfl, rfl⟩ rfl ?_
      refine d_run 2 rfl ?_
      by_cases s19_0 : w = 0
      · subst s19_0
        refine d_sw k89_19 rfl (q1 := 56) (by decide) ?_
        refine d_run 1 rfl ?_
        refine d_gR k89_57 (by first | assumption | exact Nat.le_of_ble_eq_true rfl | omega) ⟨rfl, rfl, rfl⟩ (Rs_land _) ?_
        refine d_gR k89_60 (by first | assumption | exact lx2 _ | exact Nat.le_of_ble_eq_true rfl | omega | exact Nat.lt_of_lt_of_le (m := 2) (by omega) (Nat.le_of_ble_eq_true rfl)) ⟨rfl, rfl, rfl⟩ rfl ?_
        refine d_run 1 rfl ?_
        refine d_ia (N := 6) k89_64 (by decide) (by first | assumption | exact lx2 _ | exact Nat.le_of_ble_eq_true rfl | omega | exact Nat.lt_of_lt_of_le (m := 2) (by omega) (Nat.le_of_ble_eq_true rfl)) ⟨⟨rfl, rfl⟩, rfl, rfl⟩ (by first | assumption | omega) rfl ?_
        refine d_ir k89_65 rfl (by simp; exact hL.ki p hp) ?_
        exact CPost.q h FrD.rf
      by_cases s19_1 : w = 1
      · subst s19_1
        refine d_sw k89_19 rfl (q1 := 66) (by decide) ?_
        refine d_run 1 rfl ?_
        refine d_gR k89_67 (by first | assumption | exact Nat.le_of_ble_eq_true rfl | omega | exact Nat.lt_of_lt_of_le (m := 27) (by omega) (Nat.le_of_ble_eq_true rfl)) ⟨rfl, rfl, rfl⟩ rfl ?_
        refine d_run 1 rfl ?_
        refine d_ia (N := 6) k89_71 (by decide) (by first | assumption | exact Nat.le_of_ble_eq_true rfl | omega | exact Nat.lt_of_lt_of_le (m := 27) (by omega) (Nat.le_of_ble_eq_true rfl)) ⟨⟨rfl, rfl⟩, rfl, rfl⟩ (by first | assumption | omega) rfl ?_
        refine d_ir k89_72 rfl (by simp; exact hS.1 p hp) ?_
        exact CPost.q h FrD.rf
      by_cases s19_2 : w = 2
      · subst s19_2
        refine d_sw k89_19 rfl (q1 := 73) (by decide) ?_
        refine d_run 1 rfl ?_
        refine d_gR k89_74 (by first | assumption | exact Nat.le_of_ble_eq_true rfl | omega | exact Nat.lt_of_lt_of_le (m := 27) (by omega) (Nat.le_of_ble_eq_true rfl)) ⟨rfl, rfl, rfl⟩ rfl ?_
        refine d_run 1 rfl ?_
        refine d_ia (N := 6) k89_78 (by decide) (by first | assumption | exact Nat.le_of_ble_eq_true rfl | omega | exact Nat.lt_of_lt_of_le (m := 27) (by omega) (Nat.le_of_ble_eq_true rfl)) ⟨⟨rfl, rfl⟩, rfl, rfl⟩ (by first | assumption | omega) rfl ?_
        refine d_ir k89_79 rfl (by simp; exact hS.2.2.1 p hp) ?_
        exact CPost.q h FrD.rf
      by_cases s19_3 : w = 3
      · subst s19_3
        refine d_sw k89_19 rfl (q1 := 80) (by decide) ?_
        refine d_run 2 rfl ?_
        refine d_callT 2 k89_82 (by omega) (Nat.le_of_ble_eq_true rfl) rfl (Nat.le_of_ble_eq_true rfl) (Nat.le_of_ble_eq_true rfl) (recv_ok rfl (by first | assumption | exact Nat.le_of_ble_eq_true rfl | omega | exact Nat.lt_of_lt_of_le (m := 27) (by omega) (Nat.le_of_ble_eq_true rfl))) rfl (a_snapped (by omega) hS) rfl ?_
        refine d_if_eq k89_85 (fun h85 => ?_) (fun h85 => ?_)
        · refine d_run 1 rfl ?_
          refine d_ir k89_93 rfl (by simp_all [b2i]) ?_
          exact CPost.q h FrD.rf
        · refine d_run 2 rfl ?_
          refine d_ir k89_93 rfl (by simp_all [b2i]) ?_
          exact CPost.q h FrD.rf
      by_cases s19_4 : w = 4
      · subst s19_4
        refine d_sw k89_19 rfl (q1 := 94) (by decide) ?_
        refine d_run 2 rfl ?_
        refine d_callT 2 k89_96 (by omega) (Nat.le_of_ble_eq_true rfl) rfl (Nat.le_of_ble_eq_true rfl) (Nat.le_of_ble_eq_true rfl) (recv_ok rfl (by first | assumption | exact Nat.le_of_ble_eq_true rfl | omega | exact Nat.lt_of_lt_of_le (m := 27) (by omega) (Nat.le_of_ble_eq_true rfl))) rfl (a_sits (by omega) hS hp hP6 (by omega)) rfl ?_
        refine d_if_eq k89_99 (fun h99 => ?_) (fun h99 => ?_)
        · refine d_run 1 rfl ?_
          refine d_ir k89_107 rfl (by simp_all [b2i]) ?_
          exact CPost.q h FrD.rf
        · refine d_run 2 rfl ?_
          refine d_ir k89_107 rfl (by simp_all [b2i]) ?_
          exact CPost.q h FrD.rf
      by_cases s19_5 : w = 5
      · subst s19_5
        refine d_sw k89_19 rfl (q1 := 108) (by decide) ?_
        refine d_run 2 rfl ?_
        refine d_gR k89_110 (by first | assumption | exact Nat.le_of_ble_eq_true rfl | omega) ⟨rfl, rfl, rfl⟩ (Rs_land _) ?_
        refine d_run 1 rfl ?_
        refine d_callT 3 k89_114 (by omega) (Nat.le_of_ble_eq_true rfl) rfl (Nat.le_of_ble_eq_true rfl) (Nat.le_of_ble_eq_true rfl) (recv_ok rfl (by first | assumption | exact Nat.le_of_ble_eq_true rfl | omega | exact Nat.lt_of_lt_of_le (m := 27) (by omega) (Nat.le_of_ble_eq_true rfl))) rfl (a_stgOf (by omega) (lx2 b) hL hA hS hp (by omega)) rfl ?_
        refine d_ir k89_117 rfl (by simp) ?_
        exact CPost.q h FrD.rf
      have e19_0 : (w).toInt ≠ 0 := fun e => s19_0 (i32_of e)
      have e19_1 : (w).toInt ≠ 1 := fun e => s19_1 (i32_of e)
      have e19_2 : (w).toInt ≠ 2 := fun e => s19_2 (i32_of e)
      have e19_3 : (w).toInt ≠ 3 := fun e => s19_3 (i32_of e)
      have e19_4 : (w).toInt ≠ 4 := fun e => s19_4 (i32_of e)
      have e19_5 : (w).toInt ≠ 5 := fun e => s19_5 (i32_of e)
      refine d_sw k89_19 rfl (q1 := 118) (sw_out (by simp only [List.length_cons, List.length_nil]; omega)) ?_
      refine d_run 1 rfl ?_
      refine d_ir k89_119 rfl (by simp [*]) ?_
      exact CPost.q h FrD.rf
    · exact absurd h5 (by decide)
  · have hN : isN u (lP (gA o)) = false := by simpa using hN
    rw [show q_person o u w = -1 by simp [q_person, hN]]
    refine d_run 2 rfl ?_
    refine d_callT 2 k89_2 (by omega) (Nat.le_of_ble_eq_true rfl) rfl (Nat.le_of_ble_eq_true rfl) (Nat.le_of_ble_eq_true rfl) (recv_ok rfl (by first | assumption | exact Nat.le_of_ble_eq_true rfl | omega)) rfl (a_isP hL) rfl ?_
    rw [hN]
    refine d_if_ne k89_5 (fun h5 => ?_) (fun h5 => ?_)
    · exact absurd h5 (by decide)
    · refine d_run 1 rfl ?_
      refine d_ir k89_9 rfl (by rfl) ?_
      exact CPost.q h FrD.rf
theorem a_wound (h : CInv F G b o) (hw : WF o) (hd : 100 ≤ d) : Td E d 90 0 [some (vr 1 0), some (vi u), some (vi v)] [] x F G b (some (vi (q_wound o u v))) (CPost b (o) F G) := by
  have hL := h.2.1
  have hA := hw.1
  have hS := h.2.2.2.1.1
  have hwS := hw.2.1.1
  have hP6 := hA.2.1
  have hS5 := hA.1
  by_cases hN : isTwo u v (lP (gA o)) = true
  · obtain ⟨p, q, hp, hq, hpq, rfl, rfl⟩ := isTwo_ex hN (by omega)
    rw [show q_wound o (nI p) (nI q) = sWd (gS o) (6 * p + q) by simp only [q_wound]; rw [if_pos hN, ix_nI (by omega), ix_nI (by omega)]]
    refine d_run 3 rfl ?_
    refine d_callT 3 k90_3 (by omega) (Nat.le_of_ble_eq_true rfl) rfl (Nat.le_of_ble_eq_true rfl) (Nat.le_of_ble_eq_true rfl) (recv_ok rfl (by first | assumption | exact Nat.le_of_ble_eq_true rfl | omega)) rfl (a_isTwo hL (by omega)) rfl ?_
    rw [hN]
    refine d_if_eq k90_6 (fun h6 => ?_) (fun h6 => ?_)
    · exact absurd h6 (by decide)
    · refine d_run 1 rfl ?_
      refine d_gR k90_10 (by first | assumption | exact Nat.le_of_ble_eq_true rfl | omega) ⟨rfl, rfl, rfl⟩ rfl ?_
      refine d_gR k90_13 (by first | assumption | exact Nat.le_of_ble_eq_true rfl | omega | exact Nat.lt_of_lt_of_le (m := 5) (by omega) (Nat.le_of_ble_eq_true rfl)) ⟨rfl, rfl, rfl⟩ rfl ?_
      refine d_gR k90_16 (by first | assumption | exact Nat.le_of_ble_eq_true rfl | omega | exact Nat.lt_of_lt_of_le (m := 27) (by omega) (Nat.le_of_ble_eq_true rfl)) ⟨rfl, rfl, rfl⟩ rfl ?_
      refine d_run 5 rfl ?_
      refine d_ia (N := 36) k90_25 (by decide) (by first | assumption | exact Nat.le_of_ble_eq_true rfl | omega | exact Nat.lt_of_lt_of_le (m := 27) (by omega) (Nat.le_of_ble_eq_true rfl)) ⟨⟨rfl, rfl⟩, rfl, rfl⟩ (show 6 * p + q < 36 by omega) (ix6 p q) ?_
      refine d_run 1 rfl ?_
      refine d_ir k90_30 rfl (by exact hS.2.2.2.1 _ (by omega)) ?_
      exact CPost.q h FrD.rf
  · have hN : isTwo u v (lP (gA o)) = false := by simpa using hN
    rw [show q_wound o u v = -1 by simp [q_wound, hN]]
    refine d_run 3 rfl ?_
    refine d_callT 3 k90_3 (by omega) (Nat.le_of_ble_eq_true rfl) rfl (Nat.le_of_ble_eq_true rfl) (Nat.le_of_ble_eq_true rfl) (recv_ok rfl (by first | assumption | exact Nat.le_of_ble_eq_true rfl | omega)) rfl (a_isTwo hL (by omega)) rfl ?_
    rw [hN]
    refine d_if_eq k90_6 (fun h6 => ?_) (fun h6 => ?_)
    · refine d_run 1 rfl ?_
      refine d_ir k90_30 rfl (by rfl) ?_
      exact CPost.q h FrD.rf
    · exact absurd h6 (by decide)
theorem a_lanes (h : CInv F G b o) (hw : WF o) (hd : 100 ≤ d) : Td E d 91 0 [some (vr 1 0), some (vi u)] [] x F G b (some (vi (q_lanes o u))) (CPost b (o) F G) := by
  have hL := h.2.1
  have hA := hw.1
  have hS := h.2.2.2.1.1
  have hwS := hw.2.1.1
  have hP6 := hA.2.1
  have hS5 := hA.1
  by_cases hN : isN u (lS (gA o)) = true
  · obtain ⟨p, hp, rfl⟩ := isN_ex hN (by omega)
    rw [show q_lanes o (nI p) = lLn (gA o) p by simp only [q_lanes]; rw [if_pos hN, ix_nI (by omega)]]
    refine d_run 2 rfl ?_
    refine d_callT 2 k91_2 (by omega) (Nat.le_of_ble_eq_true rfl) rfl (Nat.le_of_ble_eq_true rfl) (Nat.le_of_ble_eq_true rfl) (recv_ok rfl (by first | assumption | exact Nat.le_of_ble_eq_true rfl | omega)) rfl (a_isS hL) rfl ?_
    rw [hN]
    refine d_if_eq k91_5 (fun h5 => ?_) (fun h5 => ?_)
    · exact absurd h5 (by decide)
    · refine d_run 1 rfl ?_
      refine d_gR k91_9 (by first | assumption | exact Nat.le_of_ble_eq_true rfl | omega) ⟨rfl, rfl, rfl⟩ (Rs_land _) ?_
      refine d_gR k91_12 (by first | assumption | exact lx2 _ | exact Nat.le_of_ble_eq_true rfl | omega | exact Nat.lt_of_lt_of_le (m := 2) (by omega) (Nat.le_of_ble_eq_true rfl)) ⟨rfl, rfl, rfl⟩ rfl ?_
      refine d_run 1 rfl ?_
      refine d_ia (N := 5) k91_16 (by decide) (by first | assumption | exact lx2 _ | exact Nat.le_of_ble_eq_true rfl | omega | exact Nat.lt_of_lt_of_le (m := 2) (by omega) (Nat.le_of_ble_eq_true rfl)) ⟨⟨rfl, rfl⟩, rfl, rfl⟩ (by first | assumption | omega) rfl ?_
      refine d_run 1 rfl ?_
      refine d_ir k91_21 rfl (by exact hL.ln p hp) ?_
      exact CPost.q h FrD.rf
  · have hN : isN u (lS (gA o)) = false := by simpa using hN
    rw [show q_lanes o u = -1 by simp [q_lanes, hN]]
    refine d_run 2 rfl ?_
    refine d_callT 2 k91_2 (by omega) (Nat.le_of_ble_eq_true rfl) rfl (Nat.le_of_ble_eq_true rfl) (Nat.le_of_ble_eq_true rfl) (recv_ok rfl (by first | assumption | exact Nat.le_of_ble_eq_true rfl | omega)) rfl (a_isS hL) rfl ?_
    rw [hN]
    refine d_if_eq k91_5 (fun h5 => ?_) (fun h5 => ?_)
    · refine d_run 1 rfl ?_
      refine d_ir k91_21 rfl (by rfl) ?_
      exact CPost.q h FrD.rf
    · exact absurd h5 (by decide)
theorem a_gives (h : CInv F G b o) (hw : WF o) (hd : 100 ≤ d) : Td E d 92 0 [some (vr 1 0), some (vi u), some (vi v)] [] x F G b (some (vi (q_gives o u v))) (CPost b (o) F G) := by
  have hL := h.2.1
  have hA := hw.1
  have hS := h.2.2.2.1.1
  have hwS := hw.2.1.1
  have hP6 := hA.2.1
  have hS5 := hA.1
  by_cases hN : isTwo u v (lP (gA o)) = true
  · obtain ⟨p, q, hp, hq, hpq, rfl, rfl⟩ := isTwo_ex hN (by omega)
    rw [show q_gives o (nI p) (nI q) = givA (gA o) (gS o) p q (sLf (gS o) q) by simp only [q_gives]; rw [if_pos hN, ix_nI (by omega), ix_nI (by omega)]]
    refine d_run 3 rfl ?_
    refine d_callT 3 k92_3 (by omega) (Nat.le_of_ble_eq_true rfl) rfl (Nat.le_of_ble_eq_true rfl) (Nat.le_of_ble_eq_true rfl) (recv_ok rfl (by first | assumption | exact Nat.le_of_ble_eq_true rfl | omega)) rfl (a_isTwo hL (by omega)) rfl ?_
    rw [hN]
    refine d_if_ne k92_6 (fun h6 => ?_) (fun h6 => ?_)
    · refine d_run 1 rfl ?_
      refine d_gR k92_12 (by first | assumption | exact Nat.le_of_ble_eq_true rfl | omega) ⟨rfl, rfl, rfl⟩ rfl ?_
      refine d_gR k92_15 (by first | assumption | exact Nat.le_of_ble_eq_true rfl | omega | exact Nat.lt_of_lt_of_le (m := 5) (by omega) (Nat.le_of_ble_eq_true rfl)) ⟨rfl, rfl, rfl⟩ rfl ?_
      refine d_run 1 rfl ?_
      refine d_gR k92_19 (by first | assumption | exact Nat.le_of_ble_eq_true rfl | omega) ⟨rfl, rfl, rfl⟩ (Rs_land _) ?_
      refine d_run 3 rfl ?_
      refine d_gR k92_25 (by first | assumption | exact Nat.le_of_ble_eq_true rfl | omega) ⟨rfl, rfl, rfl⟩ rfl ?_
      refine d_gR k92_28 (by first | assumption | exact Nat.le_of_ble_eq_true rfl | omega | exact Nat.lt_of_lt_of_le (m := 5) (by omega) (Nat.le_of_ble_eq_true rfl)) ⟨rfl, rfl, rfl⟩ rfl ?_
      refine d_gR k92_31 (by first | assumption | exact Nat.le_of_ble_eq_true rfl | omega | exact Nat.lt_of_lt_of_le (m := 27) (by omega) (Nat.le_of_ble_eq_true rfl)) ⟨rfl, rfl, rfl⟩ rfl ?_
      refine d_run 1 rfl ?_
      refine d_ia (N := 6) k92_35 (by decide) (by first | assumption | exact Nat.le_of_ble_eq_true rfl | omega | exact Nat.lt_of_lt_of_le (m := 27) (by omega) (Nat.le_of_ble_eq_true rfl)) ⟨⟨rfl, rfl⟩, rfl, rfl⟩ (by first | assumption | omega) rfl ?_
      rw [show F 27 0 q = sLf (gS o) q from hS.2.2.1 q hq]
      refine d_call 5 k92_36 (by omega) (Nat.le_of_ble_eq_true rfl) rfl (Nat.le_of_ble_eq_true rfl) (Nat.le_of_ble_eq_true rfl) (recv_ok rfl (by first | assumption | exact Nat.le_of_ble_eq_true rfl | omega | exact Nat.lt_of_lt_of_le (m := 27) (by omega) (Nat.le_of_ble_eq_true rfl))) rfl (a_given (by omega) (lx2 b) hL hA hS hp hq (by omega)) rfl ?_
      rintro F1 G1 ⟨rfl, f1⟩
      refine d_ir k92_39 rfl (by rfl) ?_
      exact CPost.q h (d18_Q f1)
    · exact absurd h6 (by decide)
  · have hN : isTwo u v (lP (gA o)) = false := by simpa using hN
    rw [show q_gives o u v = -1 by simp [q_gives, hN]]
    refine d_run 3 rfl ?_
    refine d_callT 3 k92_3 (by omega) (Nat.le_of_ble_eq_true rfl) rfl (Nat.le_of_ble_eq_true rfl) (Nat.le_of_ble_eq_true rfl) (recv_ok rfl (by first | assumption | exact Nat.le_of_ble_eq_true rfl | omega)) rfl (a_isTwo hL (by omega)) rfl ?_
    rw [hN]
    refine d_if_ne k92_6 (fun h6 => ?_) (fun h6 => ?_)
    · exact absurd h6 (by decide)
    · refine d_run 1 rfl ?_
      refine d_ir k92_10 rfl (by rfl) ?_
      exact CPost.q h FrD.rf
theorem a_walk (h : CInv F G b o) (hw : WF o) (hd : 100 ≤ d) : Td E d 93 0 [some (vr 1 0), some (vi u), some (vi v)] [] x F G b (some (vi (b2i (g_walk o u v)))) (CPost b (n_walk o u v) F G) := by
  have hL := h.2.1
  have hA := hw.1
  have hS := h.2.2.2.1.1
  have hwS := hw.2.1.1
  have hP6 := hA.2.1
  have hS5 := hA.1
  by_cases hN : isN u (lP (gA o)) = true
  · obtain ⟨p, hp, rfl⟩ := isN_ex hN (by omega)
    by_cases hM : isN v (lS (gA o)) = true
    · obtain ⟨q, hq, rfl⟩ := isN_ex hM (by omega)
      rw [show g_walk o (nI p) (nI q) = cwkA (gA o) (gS o) p q by simp [g_walk, hN, hM, ix_nI (show p < 100000 by omega), ix_nI (show q < 100000 by omega)]]
      by_cases hc : cwkA (gA o) (gS o) p q = true
      · rw [show n_walk o (nI p) (nI q) = keepS o (wlkA (gS o) p q) by simp [n_walk, g_walk, hN, hM, hc, ix_nI (show p < 100000 by omega), ix_nI (show q < 100000 by omega)]]
        refine d_run 2 rfl ?_
        refine d_callT 2 k93_2 (by omega) (Nat.le_of_ble_eq_true rfl) rfl (Nat.le_of_ble_eq_true rfl) (Nat.le_of_ble_eq_true rfl) (recv_ok rfl (by first | assumption | exact Nat.le_of_ble_eq_true rfl | omega)) rfl (a_isP hL) rfl ?_
        rw [hN]
        refine d_if_eq k93_5 (fun h5 => ?_) (fun h5 => ?_)
        · exact absurd h5 (by decide)
        · refine d_run 2 rfl ?_
          refine d_callT 2 k93_10 (by omega) (Nat.le_of_ble_eq_true rfl) rfl (Nat.le_of_ble_eq_true rfl) (Nat.le_of_ble_eq_true rfl) (recv_ok rfl (by first | assumption | exact Nat.le_of_ble_eq_true rfl | omega)) rfl (a_isS hL) rfl ?_
          rw [hM]
          refine d_if_eq k93_13 (fun h13 => ?_) (fun h13 => ?_)
          · exact absurd h13 (by decide)
          · refine d_run 1 rfl ?_
            refine d_gR k93_17 (by first | assumption | exact Nat.le_of_ble_eq_true rfl | omega) ⟨rfl, rfl, rfl⟩ rfl ?_
            refine d_gR k93_20 (by first | assumption | exact Nat.le_of_ble_eq_true rfl | omega | exact Nat.lt_of_lt_of_le (m := 5) (by omega) (Nat.le_of_ble_eq_true rfl)) ⟨rfl, rfl, rfl⟩ rfl ?_
            refine d_run 1 rfl ?_
            refine d_gR k93_24 (by first | assumption | exact Nat.le_of_ble_eq_true rfl | omega) ⟨rfl, rfl, rfl⟩ (Rs_land _) ?_
            refine d_run 2 rfl ?_
            refine d_callT 4 k93_29 (by omega) (Nat.le_of_ble_eq_true rfl) rfl (Nat.le_of_ble_eq_true rfl) (Nat.le_of_ble_eq_true rfl) (recv_ok rfl (by first | assumption | exact Nat.le_of_ble_eq_true rfl | omega | exact Nat.lt_of_lt_of_le (m := 27) (by omega) (Nat.le_of_ble_eq_true rfl))) rfl (a_canWalk (by omega) (lx2 b) hL hA hS hwS hp (by omega)) rfl ?_
            rw [hc]
            refine d_if_ne k93_32 (fun h32 => ?_) (fun h32 => ?_)
            · refine d_run 1 rfl ?_
              refine d_gR k93_38 (by first | assumption | exact Nat.le_of_ble_eq_true rfl | omega) ⟨rfl, rfl, rfl⟩ rfl ?_
              refine d_run 1 rfl ?_
              refine d_gR k93_42 (by first | assumption | exact Nat.le_of_ble_eq_true rfl | omega) ⟨rfl, rfl, rfl⟩ rfl ?_
              refine d_gR k93_45 (by first | assumption | exact Nat.le_of_ble_eq_true rfl | omega | exact Nat.lt_of_lt_of_le (m := 5) (by omega) (Nat.le_of_ble_eq_true rfl)) ⟨rfl, rfl, rfl⟩ rfl ?_
              refine d_call 2 k93_48 (by omega) (Nat.le_of_ble_eq_true rfl) rfl (Nat.le_of_ble_eq_true rfl) (Nat.le_of_ble_eq_true rfl) (recv_ok rfl (by first | assumption | exact Nat.le_of_ble_eq_true rfl | omega)) rfl (a_keep (n := 0) (by omega) hP6 hS h.2.2.2.2.2 (by omega)) rfl ?_
              rintro F1 G1 ⟨rfl, k1, f1⟩
              have hS1 : CS F1 0 (lP (gA o)) (gS o) := hS.fr (fun k a b => f1 k _ (by simp only [dPa, Bool.or_eq_false_iff, Bool.and_eq_false_iff, decide_eq_false_iff_not]; omega))
              have k2 := a_wlk (p := p) (q := q) hS1
              refine d_run 1 rfl ?_
              refine d_gR k93_52 (by first | assumption | exact Nat.le_of_ble_eq_true rfl | omega) ⟨rfl, rfl, rfl⟩ rfl ?_
              refine d_gR k93_55 (by first | assumption | exact Nat.le_of_ble_eq_true rfl | omega | exact Nat.lt_of_lt_of_le (m := 5) (by omega) (Nat.le_of_ble_eq_true rfl)) ⟨rfl, rfl, rfl⟩ rfl ?_
              refine d_gR k93_58 (by first | assumption | exact Nat.le_of_ble_eq_true rfl | omega | exact Nat.lt_of_lt_of_le (m := 27) (by omega) (Nat.le_of_ble_eq_true rfl)) ⟨rfl, rfl, rfl⟩ rfl ?_
              refine d_run 2 rfl ?_
              refine d_is (N := 6) k93_63 (by first | assumption | exact Nat.le_of_ble_eq_true rfl | omega | exact Nat.lt_of_lt_of_le (m := 27) (by omega) (Nat.le_of_ble_eq_true rfl)) ⟨rfl, rfl⟩ (by first | assumption | omega) rfl ?_
              refine d_run 1 rfl ?_
              refine d_ib k93_65 (by rfl) ?_
              exact CPost.ks h ((dPa_KS f1).tr (dSt_KS k2.2)) k2.1 (k1.fr (fun k m a b c d => by rw [uF_n (by omega)]) (by rw [uF_k (by omega)]))
            · exact absurd h32 (by decide)
      · have hc : cwkA (gA o) (gS o) p q = false := by simpa using hc
        rw [show n_walk o (nI p) (nI q) = o by simp [n_walk, g_walk, hN, hM, hc, ix_nI (show p < 100000 by omega), ix_nI (show q < 100000 by omega)]]
        refine d_run 2 rfl ?_
        refine d_callT 2 k93_2 (by omega) (Nat.le_of_ble_eq_true rfl) rfl (Nat.le_of_ble_eq_true rfl) (Nat.le_of_ble_eq_true rfl) (recv_ok rfl (by first | assumption | exact Nat.le_of_ble_eq_true rfl | omega)) rfl (a_isP hL) rfl ?_
        rw [hN]
        refine d_if_eq k93_5 (fun h5 => ?_) (fun h5 => ?_)
        · exact absurd h5 (by decide)
        · refine d_run 2 rfl ?_
          refine d_callT 2 k93_10 (by omega) (Nat.le_of_ble_eq_true rfl) rfl (Nat.le_of_ble_eq_true rfl) (Nat.le_of_ble_eq_true rfl) (recv_ok rfl (by first | assumption | exact Nat.le_of_ble_eq_true rfl | omega)) rfl (a_isS hL) rfl ?_
          rw [hM]
          refine d_if_eq k93_13 (fun h13 => ?_) (fun h13 => ?_)
          · exact absurd h13 (by decide)
          · refine d_run 1 rfl ?_
            refine d_gR k93_17 (by first | assumption | exact Nat.le_of_ble_eq_true rfl | omega) ⟨rfl, rfl, rfl⟩ rfl ?_
            refine d_gR k93_20 (by first | assumption | exact Nat.le_of_ble_eq_true rfl | omega | exact Nat.lt_of_lt_of_le (m := 5) (by omega) (Nat.le_of_ble_eq_true rfl)) ⟨rfl, rfl, rfl⟩ rfl ?_
            refine d_run 1 rfl ?_
            refine d_gR k93_24 (by first | assumption | exact Nat.le_of_ble_eq_true rfl | omega) ⟨rfl, rfl, rfl⟩ (Rs_land _) ?_
            refine d_run 2 rfl ?_
            refine d_callT 4 k93_29 (by omega) (Nat.le_of_ble_eq_true rfl) rfl (Nat.le_of_ble_eq_true rfl) (Nat.le_of_ble_eq_true rfl) (recv_ok rfl (by first | assumption | exact Nat.le_of_ble_eq_true rfl | omega | exact Nat.lt_of_lt_of_le (m := 27) (by omega) (Nat.le_of_ble_eq_true rfl))) rfl (a_canWalk (by omega) (lx2 b) hL hA hS hwS hp (by omega)) rfl ?_
            rw [hc]
            refine d_if_ne k93_32 (fun h32 => ?_) (fun h32 => ?_)
            · exact absurd h32 (by decide)
            · refine d_run 1 rfl ?_
              refine d_ib k93_36 (by rfl) ?_
              exact CPost.q h FrD.rf
    · have hM : isN v (lS (gA o)) = false := by simpa using hM
      rw [show n_walk o (nI p) v = o by simp [n_walk, g_walk, hM], show g_walk o (nI p) v = false by simp [g_walk, hM]]
      refine d_run 2 rfl ?_
      refine d_callT 2 k93_2 (by omega) (Nat.le_of_ble_eq_true rfl) rfl (Nat.le_of_ble_eq_true rfl) (Nat.le_of_ble_eq_true rfl) (recv_ok rfl (by first | assumption | exact Nat.le_of_ble_eq_true rfl | omega)) rfl (a_isP hL) rfl ?_
      rw [hN]
      refine d_if_eq k93_5 (fun h5 => ?_) (fun h5 => ?_)
      · exact absurd h5 (by decide)
      · refine d_run 2 rfl ?_
        refine d_callT 2 k93_10 (by omega) (Nat.le_of_ble_eq_true rfl) rfl (Nat.le_of_ble_eq_true rfl) (Nat.le_of_ble_eq_true rfl) (recv_ok rfl (by first | assumption | exact Nat.le_of_ble_eq_true rfl | omega)) rfl (a_isS hL) rfl ?_
        rw [hM]
        refine d_if_eq k93_13 (fun h13 => ?_) (fun h13 => ?_)
        · refine d_run 1 rfl ?_
          refine d_ib k93_36 (by rfl) ?_
          exact CPost.q h FrD.rf
        · exact absurd h13 (by decide)
  · have hN : isN u (lP (gA o)) = false := by simpa using hN
    rw [show n_walk o u v = o by simp [n_walk, g_walk, hN], show g_walk o u v = false by simp [g_walk, hN]]
    refine d_run 2 rfl ?_
    refine d_callT 2 k93_2 (by omega) (Nat.le_of_ble_eq_true rfl) rfl (Nat.le_of_ble_eq_true rfl) (Nat.le_of_ble_eq_true rfl) (recv_ok rfl (by first | assumption | exact Nat.le_of_ble_eq_true rfl | omega)) rfl (a_isP hL) rfl ?_
    rw [hN]
    refine d_if_eq k93_5 (fun h5 => ?_) (fun h5 => ?_)
    · refine d_run 1 rfl ?_
      refine d_ib k93_36 (by rfl) ?_
      exact CPost.q h FrD.rf
    · exact absurd h5 (by decide)
theorem a_wind (h : CInv F G b o) (hw : WF o) (hd : 100 ≤ d) : Td E d 94 0 [some (vr 1 0), some (vi u), some (vi v)] [] x F G b (some (vi (q_wind o u v))) (CPost b (n_wind o u v) F G) := by
  have hL := h.2.1
  have hA := hw.1
  have hS := h.2.2.2.1.1
  have hwS := hw.2.1.1
  have hP6 := hA.2.1
  have hS5 := hA.1
  by_cases hN : isTwo u v (lP (gA o)) = true
  · obtain ⟨p, q, hp, hq, hpq, rfl, rfl⟩ := isTwo_ex hN (by omega)
    by_cases hc : cwdA (gA o) (gS o) p q = true
    · rw [show n_wind o (nI p) (nI q) = keepS o (turnA (gA o) (gS o) p q) by simp [n_wind, g_wind, hN, hc, ix_nI (show p < 100000 by omega), ix_nI (show q < 100000 by omega)], show q_wind o (nI p) (nI q) = sLf (turnA (gA o) (gS o) p q) q by simp [q_wind, g_wind, hN, hc, ix_nI (show p < 100000 by omega), ix_nI (show q < 100000 by omega)]]
      refine d_run 3 rfl ?_
      refine d_callT 3 k94_3 (by omega) (Nat.le_of_ble_eq_true rfl) rfl (Nat.le_of_ble_eq_true rfl) (Nat.le_of_ble_eq_true rfl) (recv_ok rfl (by first | assumption | exact Nat.le_of_ble_eq_true rfl | omega)) rfl (a_isTwo hL (by omega)) rfl ?_
      rw [hN]
      refine d_if_eq k94_6 (fun h6 => ?_) (fun h6 => ?_)
      · exact absurd h6 (by decide)
      · refine d_run 1 rfl ?_
        refine d_gR k94_10 (by first | assumption | exact Nat.le_of_ble_eq_true rfl | omega) ⟨rfl, rfl, rfl⟩ rfl ?_
        refine d_gR k94_13 (by first | assumption | exact Nat.le_of_ble_eq_true rfl | omega | exact Nat.lt_of_lt_of_le (m := 5) (by omega) (Nat.le_of_ble_eq_true rfl)) ⟨rfl, rfl, rfl⟩ rfl ?_
        refine d_run 1 rfl ?_
        refine d_gR k94_17 (by first | assumption | exact Nat.le_of_ble_eq_true rfl | omega) ⟨rfl, rfl, rfl⟩ (Rs_land _) ?_
        refine d_run 2 rfl ?_
        refine d_callT 4 k94_22 (by omega) (Nat.le_of_ble_eq_true rfl) rfl (Nat.le_of_ble_eq_true rfl) (Nat.le_of_ble_eq_true rfl) (recv_ok rfl (by first | assumption | exact Nat.le_of_ble_eq_true rfl | omega | exact Nat.lt_of_lt_of_le (m := 27) (by omega) (Nat.le_of_ble_eq_true rfl))) rfl (a_canWind (by omega) (lx2 b) hL hA hS hp hq (by omega)) rfl ?_
        rw [hc]
        refine d_if_ne k94_25 (fun h25 => ?_) (fun h25 => ?_)
        · refine d_run 1 rfl ?_
          refine d_gR k94_31 (by first | assumption | exact Nat.le_of_ble_eq_true rfl | omega) ⟨rfl, rfl, rfl⟩ rfl ?_
          refine d_run 1 rfl ?_
          refine d_gR k94_35 (by first | assumption | exact Nat.le_of_ble_eq_true rfl | omega) ⟨rfl, rfl, rfl⟩ rfl ?_
          refine d_gR k94_38 (by first | assumption | exact Nat.le_of_ble_eq_true rfl | omega | exact Nat.lt_of_lt_of_le (m := 5) (by omega) (Nat.le_of_ble_eq_true rfl)) ⟨rfl, rfl, rfl⟩ rfl ?_
          refine d_call 2 k94_41 (by omega) (Nat.le_of_ble_eq_true rfl) rfl (Nat.le_of_ble_eq_true rfl) (Nat.le_of_ble_eq_true rfl) (recv_ok rfl (by first | assumption | exact Nat.le_of_ble_eq_true rfl | omega)) rfl (a_keep (n := 0) (by omega) hP6 hS h.2.2.2.2.2 (by omega)) rfl ?_
          rintro F1 G1 ⟨rfl, k1, f1⟩
          have hS1 : CS F1 0 (lP (gA o)) (gS o) := hS.fr (fun k a b => f1 k _ (by simp only [dPa, Bool.or_eq_false_iff, Bool.and_eq_false_iff, decide_eq_false_iff_not]; omega))
          have hL1 : CL F1 (lx b) (gA o) := hL.fr (fun k a b => f1 k _ (by simp only [dPa, Bool.or_eq_false_iff, Bool.and_eq_false_iff, decide_eq_false_iff_not]; omega))
          refine d_run 1 rfl ?_
          refine d_gR k94_45 (by first | assumption | exact Nat.le_of_ble_eq_true rfl | omega) ⟨rfl, rfl, rfl⟩ rfl ?_
          refine d_gR k94_48 (by first | assumption | exact Nat.le_of_ble_eq_true rfl | omega | exact Nat.lt_of_lt_of_le (m := 5) (by omega) (Nat.le_of_ble_eq_true rfl)) ⟨rfl, rfl, rfl⟩ rfl ?_
          refine d_run 1 rfl ?_
          refine d_gR k94_52 (by first | assumption | exact Nat.le_of_ble_eq_true rfl | omega) ⟨rfl, rfl, rfl⟩ (Rs_land _) ?_
          refine d_run 2 rfl ?_
          refine d_call 4 k94_57 (by omega) (Nat.le_of_ble_eq_true rfl) rfl (Nat.le_of_ble_eq_true rfl) (Nat.le_of_ble_eq_true rfl) (recv_ok rfl (by first | assumption | exact Nat.le_of_ble_eq_true rfl | omega | exact Nat.lt_of_lt_of_le (m := 27) (by omega) (Nat.le_of_ble_eq_true rfl))) rfl (a_turn (by omega) (lx2 b) hL1 hA hS1 hp hq (by omega)) rfl ?_
          rintro F2 G2 ⟨rfl, k2, f2⟩
          refine d_run 1 rfl ?_
          refine d_gR k94_61 (by first | assumption | exact Nat.le_of_ble_eq_true rfl | omega) ⟨rfl, rfl, rfl⟩ rfl ?_
          refine d_gR k94_64 (by first | assumption | exact Nat.le_of_ble_eq_true rfl | omega | exact Nat.lt_of_lt_of_le (m := 5) (by omega) (Nat.le_of_ble_eq_true rfl)) ⟨rfl, rfl, rfl⟩ rfl ?_
          refine d_gR k94_67 (by first | assumption | exact Nat.le_of_ble_eq_true rfl | omega | exact Nat.lt_of_lt_of_le (m := 27) (by omega) (Nat.le_of_ble_eq_true rfl)) ⟨rfl, rfl, rfl⟩ rfl ?_
          refine d_run 1 rfl ?_
          refine d_ia (N := 6) k94_71 (by decide) (by first | assumption | exact Nat.le_of_ble_eq_true rfl | omega | exact Nat.lt_of_lt_of_le (m := 27) (by omega) (Nat.le_of_ble_eq_true rfl)) ⟨⟨rfl, rfl⟩, rfl, rfl⟩ (by first | assumption | omega) rfl ?_
          refine d_ir k94_72 rfl (by exact k2.2.2.1 q hq) ?_
          exact CPost.ks h ((dPa_KS f1).tr (dSt_KS f2)) k2 (k1.fr (fun k m a b c d => f2 k m (dSt_no (by omega) (by omega))) (f2 29 0 (dSt_no (by omega) (by omega))))
        · exact absurd h25 (by decide)
    · have hc : cwdA (gA o) (gS o) p q = false := by simpa using hc
      rw [show n_wind o (nI p) (nI q) = o by simp [n_wind, g_wind, hN, hc, ix_nI (show p < 100000 by omega), ix_nI (show q < 100000 by omega)], show q_wind o (nI p) (nI q) = -1 by simp [q_wind, g_wind, hN, hc, ix_nI (show p < 100000 by omega), ix_nI (show q < 100000 by omega)]]
      refine d_run 3 rfl ?_
      refine d_callT 3 k94_3 (by omega) (Nat.le_of_ble_eq_true rfl) rfl (Nat.le_of_ble_eq_true rfl) (Nat.le_of_ble_eq_true rfl) (recv_ok rfl (by first | assumption | exact Nat.le_of_ble_eq_true rfl | omega)) rfl (a_isTwo hL (by omega)) rfl ?_
      rw [hN]
      refine d_if_eq k94_6 (fun h6 => ?_) (fun h6 => ?_)
      · exact absurd h6 (by decide)
      · refine d_run 1 rfl ?_
        refine d_gR k94_10 (by first | assumption | exact Nat.le_of_ble_eq_true rfl | omega) ⟨rfl, rfl, rfl⟩ rfl ?_
        refine d_gR k94_13 (by first | assumption | exact Nat.le_of_ble_eq_true rfl | omega | exact Nat.lt_of_lt_of_le (m := 5) (by omega) (Nat.le_of_ble_eq_true rfl)) ⟨rfl, rfl, rfl⟩ rfl ?_
        refine d_run 1 rfl ?_
        refine d_gR k94_17 (by first | assumption | exact Nat.le_of_ble_eq_true rfl | omega) ⟨rfl, rfl, rfl⟩ (Rs_land _) ?_
        refine d_run 2 rfl ?_
        refine d_callT 4 k94_22 (by omega) (Nat.le_of_ble_eq_true rfl) rfl (Nat.le_of_ble_eq_true rfl) (Nat.le_of_ble_eq_true rfl) (recv_ok rfl (by first | assumption | exact Nat.le_of_ble_eq_true rfl | omega | exact Nat.lt_of_lt_of_le (m := 27) (by omega) (Nat.le_of_ble_eq_true rfl))) rfl (a_canWind (by omega) (lx2 b) hL hA hS hp hq (by omega)) rfl ?_
        rw [hc]
        refine d_if_ne k94_25 (fun h25 => ?_) (fun h25 => ?_)
        · exact absurd h25 (by decide)
        · refine d_run 1 rfl ?_
          refine d_ir k94_29 rfl (by rfl) ?_
          exact CPost.q h FrD.rf
  · have hN : isTwo u v (lP (gA o)) = false := by simpa using hN
    rw [show n_wind o u v = o by simp [n_wind, g_wind, hN], show q_wind o u v = -1 by simp [q_wind, g_wind, hN]]
    refine d_run 3 rfl ?_
    refine d_callT 3 k94_3 (by omega) (Nat.le_of_ble_eq_true rfl) rfl (Nat.le_of_ble_eq_true rfl) (Nat.le_of_ble_eq_true rfl) (recv_ok rfl (by first | assumption | exact Nat.le_of_ble_eq_true rfl | omega)) rfl (a_isTwo hL (by omega)) rfl ?_
    rw [hN]
    refine d_if_eq k94_6 (fun h6 => ?_) (fun h6 => ?_)
    · refine d_run 1 rfl ?_
      refine d_ir k94_29 rfl (by rfl) ?_
      exact CPost.q h FrD.rf
    · exact absurd h6 (by decide)
theorem a_mend (h : CInv F G b o) (hw : WF o) (hd : 100 ≤ d) : Td E d 95 0 [some (vr 1 0), some (vi u)] [] x F G b (some (vi (b2i (g_mend o u)))) (CPost b (n_mend o u) F G) := by
  have hL := h.2.1
  have hA := hw.1
  have hS := h.2.2.2.1.1
  have hwS := hw.2.1.1
  have hP6 := hA.2.1
  have hS5 := hA.1
  by_cases hN : isN u (lP (gA o)) = true
  · obtain ⟨p, hp, rfl⟩ := isN_ex hN (by omega)
    by_cases hc : bit (sSn (gS o)) p = true
    · rw [show n_mend o (nI p) = keepS o (repA (gS o) p) by simp [n_mend, g_mend, hN, hc, ix_nI (show p < 100000 by omega)], show g_mend o (nI p) = true by simp [g_mend, hN, hc, ix_nI (show p < 100000 by omega)]]
      refine d_run 2 rfl ?_
      refine d_callT 2 k95_2 (by omega) (Nat.le_of_ble_eq_true rfl) rfl (Nat.le_of_ble_eq_true rfl) (Nat.le_of_ble_eq_true rfl) (recv_ok rfl (by first | assumption | exact Nat.le_of_ble_eq_true rfl | omega)) rfl (a_isP hL) rfl ?_
      rw [hN]
      refine d_if_eq k95_5 (fun h5 => ?_) (fun h5 => ?_)
      · exact absurd h5 (by decide)
      · refine d_run 1 rfl ?_
        refine d_gR k95_9 (by first | assumption | exact Nat.le_of_ble_eq_true rfl | omega) ⟨rfl, rfl, rfl⟩ rfl ?_
        refine d_gR k95_12 (by first | assumption | exact Nat.le_of_ble_eq_true rfl | omega | exact Nat.lt_of_lt_of_le (m := 5) (by omega) (Nat.le_of_ble_eq_true rfl)) ⟨rfl, rfl, rfl⟩ rfl ?_
        refine d_run 1 rfl ?_
        refine d_callT 2 k95_16 (by omega) (Nat.le_of_ble_eq_true rfl) rfl (Nat.le_of_ble_eq_true rfl) (Nat.le_of_ble_eq_true rfl) (recv_ok rfl (by first | assumption | exact Nat.le_of_ble_eq_true rfl | omega | exact Nat.lt_of_lt_of_le (m := 27) (by omega) (Nat.le_of_ble_eq_true rfl))) rfl (a_snapped (by omega) hS) rfl ?_
        rw [hc]
        refine d_if_ne k95_19 (fun h19 => ?_) (fun h19 => ?_)
        · refine d_run 1 rfl ?_
          refine d_gR k95_25 (by first | assumption | exact Nat.le_of_ble_eq_true rfl | omega) ⟨rfl, rfl, rfl⟩ rfl ?_
          refine d_run 1 rfl ?_
          refine d_gR k95_29 (by first | assumption | exact Nat.le_of_ble_eq_true rfl | omega) ⟨rfl, rfl, rfl⟩ rfl ?_
          refine d_gR k95_32 (by first | assumption | exact Nat.le_of_ble_eq_true rfl | omega | exact Nat.lt_of_lt_of_le (m := 5) (by omega) (Nat.le_of_ble_eq_true rfl)) ⟨rfl, rfl, rfl⟩ rfl ?_
          refine d_call 2 k95_35 (by omega) (Nat.le_of_ble_eq_true rfl) rfl (Nat.le_of_ble_eq_true rfl) (Nat.le_of_ble_eq_true rfl) (recv_ok rfl (by first | assumption | exact Nat.le_of_ble_eq_true rfl | omega)) rfl (a_keep (n := 0) (by omega) hP6 hS h.2.2.2.2.2 (by omega)) rfl ?_
          rintro F1 G1 ⟨rfl, k1, f1⟩
          have hS1 : CS F1 0 (lP (gA o)) (gS o) := hS.fr (fun k a b => f1 k _ (by simp only [dPa, Bool.or_eq_false_iff, Bool.and_eq_false_iff, decide_eq_false_iff_not]; omega))
          have hL1 : CL F1 (lx b) (gA o) := hL.fr (fun k a b => f1 k _ (by simp only [dPa, Bool.or_eq_false_iff, Bool.and_eq_false_iff, decide_eq_false_iff_not]; omega))
          refine d_run 1 rfl ?_
          refine d_gR k95_39 (by first | assumption | exact Nat.le_of_ble_eq_true rfl | omega) ⟨rfl, rfl, rfl⟩ rfl ?_
          refine d_gR k95_42 (by first | assumption | exact Nat.le_of_ble_eq_true rfl | omega | exact Nat.lt_of_lt_of_le (m := 5) (by omega) (Nat.le_of_ble_eq_true rfl)) ⟨rfl, rfl, rfl⟩ rfl ?_
          refine d_run 1 rfl ?_
          refine d_call 2 k95_46 (by omega) (Nat.le_of_ble_eq_true rfl) rfl (Nat.le_of_ble_eq_true rfl) (Nat.le_of_ble_eq_true rfl) (recv_ok rfl (by first | assumption | exact Nat.le_of_ble_eq_true rfl | omega | exact Nat.lt_of_lt_of_le (m := 27) (by omega) (Nat.le_of_ble_eq_true rfl))) rfl (a_repair (by omega) hS1 hP6 hp) rfl ?_
          rintro F2 G2 ⟨rfl, k2, f2⟩
          refine d_run 1 rfl ?_
          refine d_ib k95_50 (by rfl) ?_
          exact CPost.ks h ((dPa_KS f1).tr (dSt_KS f2)) k2 (k1.fr (fun k m a b c d => f2 k m (dSt_no (by omega) (by omega))) (f2 29 0 (dSt_no (by omega) (by omega))))
        · exact absurd h19 (by decide)
    · have hc : bit (sSn (gS o)) p = false := by simpa using hc
      rw [show n_mend o (nI p) = o by simp [n_mend, g_mend, hN, hc, ix_nI (show p < 100000 by omega)], show g_mend o (nI p) = false by simp [g_mend, hN, hc, ix_nI (show p < 100000 by omega)]]
      refine d_run 2 rfl ?_
      refine d_callT 2 k95_2 (by omega) (Nat.le_of_ble_eq_true rfl) rfl (Nat.le_of_ble_eq_true rfl) (Nat.le_of_ble_eq_true rfl) (recv_ok rfl (by first | assumption | exact Nat.le_of_ble_eq_true rfl | omega)) rfl (a_isP hL) rfl ?_
      rw [hN]
      refine d_if_eq k95_5 (fun h5 => ?_) (fun h5 => ?_)
      · exact absurd h5 (by decide)
      · refine d_run 1 rfl ?_
        refine d_gR k95_9 (by first | assumption | exact Nat.le_of_ble_eq_true rfl | omega) ⟨rfl, rfl, rfl⟩ rfl ?_
        refine d_gR k95_12 (by first | assumption | exact Nat.le_of_ble_eq_true rfl | omega | exact Nat.lt_of_lt_of_le (m := 5) (by omega) (Nat.le_of_ble_eq_true rfl)) ⟨rfl, rfl, rfl⟩ rfl ?_
        refine d_run 1 rfl ?_
        refine d_callT 2 k95_16 (by omega) (Nat.le_of_ble_eq_true rfl) rfl (Nat.le_of_ble_eq_true rfl) (Nat.le_of_ble_eq_true rfl) (recv_ok rfl (by first | assumption | exact Nat.le_of_ble_eq_true rfl | omega | exact Nat.lt_of_lt_of_le (m := 27) (by omega) (Nat.le_of_ble_eq_true rfl))) rfl (a_snapped (by omega) hS) rfl ?_
        rw [hc]
        refine d_if_ne k95_19 (fun h19 => ?_) (fun h19 => ?_)
        · exact absurd h19 (by decide)
        · refine d_run 1 rfl ?_
          refine d_ib k95_23 (by rfl) ?_
          exact CPost.q h FrD.rf
  · have hN : isN u (lP (gA o)) = false := by simpa using hN
    rw [show n_mend o u = o by simp [n_mend, g_mend, hN], show g_mend o u = false by simp [g_mend, hN]]
    refine d_run 2 rfl ?_
    refine d_callT 2 k95_2 (by omega) (Nat.le_of_ble_eq_true rfl) rfl (Nat.le_of_ble_eq_true rfl) (Nat.le_of_ble_eq_true rfl) (recv_ok rfl (by first | assumption | exact Nat.le_of_ble_eq_true rfl | omega)) rfl (a_isP hL) rfl ?_
    rw [hN]
    refine d_if_eq k95_5 (fun h5 => ?_) (fun h5 => ?_)
    · refine d_run 1 rfl ?_
      refine d_ib k95_23 (by rfl) ?_
      exact CPost.q h FrD.rf
    · exact absurd h5 (by decide)
theorem a_hourP (h : CInv F G b o) (hw : WF o) (hd : 100 ≤ d) : Td E d 96 0 [some (vr 1 0)] [] x F G b (some (vi (q_hour o))) (CPost b (n_hour o) F G) := by
  have hL := h.2.1
  have hA := hw.1
  have hS := h.2.2.2.1.1
  have hwS := hw.2.1.1
  have hP6 := hA.2.1
  have hS5 := hA.1
  refine d_run 1 rfl ?_
  refine d_gR k96_1 (by first | assumption | exact Nat.le_of_ble_eq_true rfl | omega) ⟨rfl, rfl, rfl⟩ rfl ?_
  refine d_run 1 rfl ?_
  refine d_gR k96_5 (by first | assumption | exact Nat.le_of_ble_eq_true rfl | omega) ⟨rfl, rfl, rfl⟩ rfl ?_
  refine d_gR k96_8 (by first | assumption | exact Nat.le_of_ble_eq_true rfl | omega | exact Nat.lt_of_lt_of_le (m := 5) (by omega) (Nat.le_of_ble_eq_true rfl)) ⟨rfl, rfl, rfl⟩ rfl ?_
  refine d_call 2 k96_11 (by omega) (Nat.le_of_ble_eq_true rfl) rfl (Nat.le_of_ble_eq_true rfl) (Nat.le_of_ble_eq_true rfl) (recv_ok rfl (by first | assumption | exact Nat.le_of_ble_eq_true rfl | omega)) rfl (a_keep (n := 0) (by omega) hP6 hS h.2.2.2.2.2 (by omega)) rfl ?_
  rintro F1 G1 ⟨rfl, k1, f1⟩
  have hS1 : CS F1 0 (lP (gA o)) (gS o) := hS.fr (fun k a b => f1 k _ (by simp only [dPa, Bool.or_eq_false_iff, Bool.and_eq_false_iff, decide_eq_false_iff_not]; omega))
  have hL1 : CL F1 (lx b) (gA o) := hL.fr (fun k a b => f1 k _ (by simp only [dPa, Bool.or_eq_false_iff, Bool.and_eq_false_iff, decide_eq_false_iff_not]; omega))
  refine d_run 1 rfl ?_
  refine d_gR k96_15 (by first | assumption | exact Nat.le_of_ble_eq_true rfl | omega) ⟨rfl, rfl, rfl⟩ rfl ?_
  refine d_gR k96_18 (by first | assumption | exact Nat.le_of_ble_eq_true rfl | omega | exact Nat.lt_of_lt_of_le (m := 5) (by omega) (Nat.le_of_ble_eq_true rfl)) ⟨rfl, rfl, rfl⟩ rfl ?_
  refine d_run 1 rfl ?_
  refine d_gR k96_22 (by first | assumption | exact Nat.le_of_ble_eq_true rfl | omega) ⟨rfl, rfl, rfl⟩ (Rs_land _) ?_
  refine d_call 2 k96_25 (by omega) (Nat.le_of_ble_eq_true rfl) rfl (Nat.le_of_ble_eq_true rfl) (Nat.le_of_ble_eq_true rfl) (recv_ok rfl (by first | assumption | exact Nat.le_of_ble_eq_true rfl | omega | exact Nat.lt_of_lt_of_le (m := 27) (by omega) (Nat.le_of_ble_eq_true rfl))) rfl (a_hour (by omega) (lx2 b) hL1 hA hS1 (by omega)) rfl ?_
  rintro F2 G2 ⟨rfl, k2, f2⟩
  refine d_ir k96_28 rfl (by rfl) ?_
  exact CPost.ks h ((dPa_KS f1).tr (dSt_KS f2)) k2 (k1.fr (fun k m a b c d => f2 k m (dSt_no (by omega) (by omega))) (f2 29 0 (dSt_no (by omega) (by omega))))
theorem a_undo (h : CInv F G b o) (hw : WF o) (hd : 100 ≤ d) : Td E d 97 0 [some (vr 1 0)] [] x F G b (some (vi (b2i (q_undo o)))) (CPost b (n_undo o) F G) := by
  have hL := h.2.1
  have hA := hw.1
  have hS := h.2.2.2.1.1
  have hwS := hw.2.1.1
  have hP6 := hA.2.1
  have hS5 := hA.1
  have hPa := h.2.2.2.2.2
  cases hps : gP o with
  | nil =>
    rw [show q_undo o = false by simp only [q_undo]; rw [hps]; rfl, show n_undo o = o by simp only [n_undo]; rw [hps]]
    rw [hps] at hPa
    refine d_run 1 rfl ?_
    refine d_gR k97_1 (by first | assumption | exact Nat.le_of_ble_eq_true rfl | omega) ⟨rfl, rfl, rfl⟩ rfl ?_
    refine d_run 1 rfl ?_
    refine d_gR k97_5 (by first | assumption | exact Nat.le_of_ble_eq_true rfl | omega) ⟨rfl, rfl, rfl⟩ rfl ?_
    refine d_gR k97_8 (by first | assumption | exact Nat.le_of_ble_eq_true rfl | omega | exact Nat.lt_of_lt_of_le (m := 5) (by omega) (Nat.le_of_ble_eq_true rfl)) ⟨rfl, rfl, rfl⟩ rfl ?_
    refine d_callT 2 k97_11 (by omega) (Nat.le_of_ble_eq_true rfl) rfl (Nat.le_of_ble_eq_true rfl) (Nat.le_of_ble_eq_true rfl) (recv_ok rfl (by first | assumption | exact Nat.le_of_ble_eq_true rfl | omega)) rfl (a_restore0 hPa) rfl ?_
    refine d_ib k97_14 (by rfl) ?_
    exact CPost.q h FrD.rf
  | cons s ps =>
    rw [show q_undo o = true by simp only [q_undo]; rw [hps]; rfl, show n_undo o = setS o s ps by simp only [n_undo]; rw [hps]]
    rw [hps] at hPa
    refine d_run 1 rfl ?_
    refine d_gR k97_1 (by first | assumption | exact Nat.le_of_ble_eq_true rfl | omega) ⟨rfl, rfl, rfl⟩ rfl ?_
    refine d_run 1 rfl ?_
    refine d_gR k97_5 (by first | assumption | exact Nat.le_of_ble_eq_true rfl | omega) ⟨rfl, rfl, rfl⟩ rfl ?_
    refine d_gR k97_8 (by first | assumption | exact Nat.le_of_ble_eq_true rfl | omega | exact Nat.lt_of_lt_of_le (m := 5) (by omega) (Nat.le_of_ble_eq_true rfl)) ⟨rfl, rfl, rfl⟩ rfl ?_
    refine d_call 2 k97_11 (by omega) (Nat.le_of_ble_eq_true rfl) rfl (Nat.le_of_ble_eq_true rfl) (Nat.le_of_ble_eq_true rfl) (recv_ok rfl (by first | assumption | exact Nat.le_of_ble_eq_true rfl | omega)) rfl (a_restore (n := 0) (by omega) hP6 hPa (by omega)) rfl ?_
    rintro F2 G2 ⟨rfl, k2, k3, f2⟩
    refine d_ib k97_14 (by rfl) ?_
    refine CPost.ks h (f2.mo (fun k m e => ?_)) k2 k3
    simp only [dKS, Bool.or_eq_false_iff, Bool.and_eq_false_iff, decide_eq_false_iff_not] at e
    simp only [dRe, Bool.or_eq_false_iff, decide_eq_false_iff_not]
    exact ⟨dSt_no (by omega) (by omega), by omega⟩
theorem a_tale (h : CInv F G b o) (hw : WF o) (hd : 100 ≤ d) : Td E d 104 0 [some (vr 1 0), some (vi u), some (vi v)] [] x F G b (some (vi (b2i (g_tale o u v)))) (CPost b (n_tale o u v) F G) := by
  have hL := h.2.1
  have hA := hw.1
  have hS := h.2.2.2.1.1
  have hwS := hw.2.1.1
  have hP6 := hA.2.1
  have hS5 := hA.1
  by_cases hN : isN u (lP (gA o)) = true
  · obtain ⟨p, hp, rfl⟩ := isN_ex hN (by omega)
    by_cases hM : isW2 v 0 99 = true
    · rw [show n_tale o (nI p) v = (gT o, gN o, gA o, (gS o, gW o, upd (gTl o) p v), gM o, gP o) by simp [n_tale, g_tale, hN, hM, ix_nI (show p < 100000 by omega)], show g_tale o (nI p) v = true by simp [g_tale, hN, hM]]
      refine d_run 2 rfl ?_
      refine d_callT 2 k104_2 (by omega) (Nat.le_of_ble_eq_true rfl) rfl (Nat.le_of_ble_eq_true rfl) (Nat.le_of_ble_eq_true rfl) (recv_ok rfl (by first | assumption | exact Nat.le_of_ble_eq_true rfl | omega)) rfl (a_isP hL) rfl ?_
      rw [hN]
      refine d_if_eq k104_5 (fun h5 => ?_) (fun h5 => ?_)
      · exact absurd h5 (by decide)
      · refine d_run 3 rfl ?_
        refine d_callT 3 k104_12 (by omega) (Nat.le_of_ble_eq_true rfl) rfl (Nat.le_of_ble_eq_true rfl) (Nat.le_of_ble_eq_true rfl) recv_st rfl c_within rfl ?_
        rw [hM]
        refine d_if_ne k104_15 (fun h15 => ?_) (fun h15 => ?_)
        · refine d_run 1 rfl ?_
          refine d_gR k104_21 (by first | assumption | exact Nat.le_of_ble_eq_true rfl | omega) ⟨rfl, rfl, rfl⟩ rfl ?_
          refine d_gR k104_24 (by first | assumption | exact Nat.le_of_ble_eq_true rfl | omega | exact Nat.lt_of_lt_of_le (m := 5) (by omega) (Nat.le_of_ble_eq_true rfl)) ⟨rfl, rfl, rfl⟩ rfl ?_
          refine d_run 2 rfl ?_
          refine d_is (N := 6) k104_29 (by first | assumption | exact Nat.le_of_ble_eq_true rfl | omega | exact Nat.lt_of_lt_of_le (m := 5) (by omega) (Nat.le_of_ble_eq_true rfl)) ⟨rfl, rfl⟩ (by first | assumption | omega) rfl ?_
          refine d_run 1 rfl ?_
          refine d_ib k104_31 (by rfl) ?_
          obtain ⟨h1, h2, h3, h4, h5, h6⟩ := h
          refine ⟨⟨h1.fr (by rw [uF_k (by decide)]) (by rw [uF_k (by decide)]), h2.fr (fun k a b => by rw [uF_k (by omega)]), h3, ⟨h4.1.fr (fun k a b => by rw [uF_k (by omega)]), h4.2.1.fr (fun k a b => by rw [uF_k (by omega)]), ?_⟩, h5.fr (fun m _ => by rw [uF_k (by omega)]) (fun k m a b c d => by rw [uF_n (by omega)]) (fun k m a b c => by rw [uF_n (by omega)]), h6.fr (fun k m a b c d => by rw [uF_n (by omega)]) (by rw [uF_k (by decide)])⟩, FrD.rf.u (by simp), fun _ _ => rfl⟩
          intro j hj
          have := h4.2.2 j hj
          rw [uF_r]
          simp only [upd]
          split
          · rfl
          · exact this
        · exact absurd h15 (by decide)
    · have hM : isW2 v 0 99 = false := by simpa using hM
      rw [show n_tale o (nI p) v = o by simp [n_tale, g_tale, hM], show g_tale o (nI p) v = false by simp [g_tale, hM]]
      refine d_run 2 rfl ?_
      refine d_callT 2 k104_2 (by omega) (Nat.le_of_ble_eq_true rfl) rfl (Nat.le_of_ble_eq_true rfl) (Nat.le_of_ble_eq_true rfl) (recv_ok rfl (by first | assumption | exact Nat.le_of_ble_eq_true rfl | omega)) rfl (a_isP hL) rfl ?_
      rw [hN]
      refine d_if_eq k104_5 (fun h5 => ?_) (fun h5 => ?_)
      · exact absurd h5 (by decide)
      · refine d_run 3 rfl ?_
        refine d_callT 3 k104_12 (by omega) (Nat.le_of_ble_eq_true rfl) rfl (Nat.le_of_ble_eq_true rfl) (Nat.le_of_ble_eq_true rfl) recv_st rfl c_within rfl ?_
        rw [hM]
        refine d_if_ne k104_15 (fun h15 => ?_) (fun h15 => ?_)
        · exact absurd h15 (by decide)
        · refine d_run 1 rfl ?_
          refine d_ib k104_19 (by rfl) ?_
          exact CPost.q h FrD.rf
  · have hN : isN u (lP (gA o)) = false := by simpa using hN
    rw [show n_tale o u v = o by simp [n_tale, g_tale, hN], show g_tale o u v = false by simp [g_tale, hN]]
    refine d_run 2 rfl ?_
    refine d_callT 2 k104_2 (by omega) (Nat.le_of_ble_eq_true rfl) rfl (Nat.le_of_ble_eq_true rfl) (Nat.le_of_ble_eq_true rfl) (recv_ok rfl (by first | assumption | exact Nat.le_of_ble_eq_true rfl | omega)) rfl (a_isP hL) rfl ?_
    rw [hN]
    refine d_if_eq k104_5 (fun h5 => ?_) (fun h5 => ?_)
    · refine d_run 1 rfl ?_
      refine d_ib k104_19 (by rfl) ?_
      exact CPost.q h FrD.rf
    · exact absurd h5 (by decide)
end P1
