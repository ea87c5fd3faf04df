/-! STATEMENTS OF A LAND, READ BY THE REFERENCE -/
theorem MLb.aS {F : FT} {G : GT} {B : LB} {w : List Nat} (h : MLb F G B) : MLb (uF (uF F 45 0 (5 + bS B) 0) 42 0 4 (nI (bS B + 1))) (uG G 43 0 (5 + bS B) (w27 w)) (addS B w) := by
  obtain ⟨⟨a1, a2, a3, a4, a5, a6, a7, a8, a9, a10, a11, a12⟩, c⟩ := h
  refine ⟨⟨uF_e, ?_, ?_, ?_, fun i hi => ?_, fun i hi => ?_, fun i hi => ?_, fun i hi => ?_, fun i hi => ?_, fun i hi => ?_, fun i hi => ?_, ?_⟩, c.fr (by rw [uF_q (by omega), uF_q (by omega)]) (fun k x y => by rw [uF_k (by omega), uF_k (by omega)])⟩
  · rw [uF_q (by omega), uF_q (by omega)]; exact a2
  · rw [uF_q (by omega), uF_q (by omega)]; exact a3
  · rw [uF_q (by omega), uF_q (by omega)]; exact a4
  · have hi : i < bS B + 1 := hi
    rw [uF_q (by omega)]
    by_cases e : i = bS B
    · subst e
      rw [uF_e]
      show (0 : Int32) = updR (bR B) 0 (bS B) 0 0 (bS B)
      simp [updR]
    · rw [uF_q (by omega), a5 i (by omega)]
      show _ = updR (bR B) 0 (bS B) 0 0 i
      simp [updR, e]
  · rw [uF_q (by omega), uF_q (by omega), a6 i hi]; show _ = updR (bR B) 0 (bS B) 0 1 i; simp [updR]
  · rw [uF_q (by omega), uF_q (by omega), a7 i hi]; show _ = updR (bR B) 0 (bS B) 0 2 i; simp [updR]
  · rw [uF_q (by omega), uF_q (by omega), a8 i hi]; show _ = updR (bR B) 0 (bS B) 0 3 i; simp [updR]
  · rw [uF_q (by omega), uF_q (by omega), a9 i hi]; show _ = updR (bR B) 0 (bS B) 0 4 i; simp [updR]
  · have hi : i < bS B + 1 := hi
    by_cases e : i = bS B
    · subst e
      rw [uG_q]
      show _ = w27 (updW (bN B).1 (bS B) w (bS B))
      simp [updW]
    · rw [uG_m (by omega), a10 i (by omega)]
      show _ = w27 (updW (bN B).1 (bS B) w i)
      simp [updW, e]
  · rw [uG_m (by omega)]; exact a11 i hi
  · rw [uF_q (by omega), uF_q (by omega)]; exact a12
section TC
variable {E : EV} {d x p n : Nat} {F : FT} {G : GT} {b : Bool} {t : TP} {B : LB} {u v w : Int32}
theorem m_street (hd : 10 ≤ d) (hB : MLb F G B) (hw : wfB B) (h : MRd F G t p) : Td E d 157 0 [some (vr 40 0), none] [] x F G b (some (vi (b2i (okB (oS t (sStreet t p B)))))) (MSo t F G (oS t (sStreet t p B))) := by
  have hS := hw.1
  refine d_run 2 rfl ?_
  refine d_gR k157_2 (by first | assumption | exact Nat.le_of_ble_eq_true rfl | omega) ⟨rfl, rfl, rfl⟩ rfl ?_
  refine d_run 1 rfl ?_
  refine d_ia (N := 8) (j := 4) k157_6 (by decide) (by first | assumption | exact Nat.le_of_ble_eq_true rfl | omega) ⟨⟨rfl, rfl⟩, rfl, rfl⟩ (by decide) rfl ?_
  rw [hB.1.1]
  refine d_run 4 rfl ?_
  rw [show ibop 0 5 (nI (bS B)) = nI (5 + bS B) from nI_add 5 _]
  refine d_ic_ne k157_12 (fun h12 => ?_) (fun h12 => ?_)
  · have e12 : ¬ 5 ≤ bS B := fun e => h12 (by rw [show bS B = 5 by omega]; rfl)
    have eR : sStreet t p B = bnd (newN t (tN t p) B) (fun p1 => .inr (tN t p1, addS B (tW t p1))) := by unfold sStreet; rw [if_neg e12]
    rw [eR]
    refine d_run 1 rfl ?_
    refine d_call 1 k157_22 (by omega) (Nat.le_of_ble_eq_true rfl) rfl (Nat.le_of_ble_eq_true rfl) (Nat.le_of_ble_eq_true rfl) (recv_ok rfl (by first | assumption | exact Nat.le_of_ble_eq_true rfl | omega)) rfl (m_nx (by omega) h) rfl ?_
    rintro F1 G1 ⟨h1, n1⟩
    have hB1 := hB.q n1.q
    refine d_run 1 rfl ?_
    refine d_call 1 k157_26 (by omega) (Nat.le_of_ble_eq_true rfl) rfl (Nat.le_of_ble_eq_true rfl) (Nat.le_of_ble_eq_true rfl) (recv_ok rfl (by first | assumption | exact Nat.le_of_ble_eq_true rfl | omega)) rfl (m_needNew (by omega) hB1 hw h1) rfl ?_
    rintro F2 G2 ⟨q2, z2⟩
    have hB2 := hB1.q q2
    have f2 := n1.q.fr.tr q2.fr
    refine d_if_ne k157_29 (fun h29 => ?_) (fun h29 => ?_)
    · rw [b2i0, Bool.not_eq_false] at h29
      obtain ⟨p1, e1⟩ := okB_t h29
      rw [e1] at z2 ⊢
      obtain ⟨r2, g2⟩ := z2
      simp only [bnd]
      refine d_run 1 rfl ?_
      refine d_gR k157_35 (by first | assumption | exact Nat.le_of_ble_eq_true rfl | omega) ⟨rfl, rfl, rfl⟩ rfl ?_
      refine d_run 2 rfl ?_
      refine d_is (N := 10) (j := 5 + bS B) k157_40 (by first | assumption | exact Nat.le_of_ble_eq_true rfl | omega) ⟨rfl, rfl⟩ (show 5 + bS B < 10 by omega) rfl ?_
      refine d_run 1 rfl ?_
      refine d_gR k157_42 (by first | assumption | exact Nat.le_of_ble_eq_true rfl | omega) ⟨rfl, rfl, rfl⟩ rfl ?_
      refine d_run 2 rfl ?_
      refine d_gL k157_47 (by first | assumption | exact Nat.le_of_ble_eq_true rfl | omega) ⟨rfl, rfl, rfl⟩ ?_
      rw [g2]
      refine d_ls (N := 10) (j := 5 + bS B) k157_50 (by first | assumption | exact Nat.le_of_ble_eq_true rfl | omega) ⟨rfl, rfl⟩ (show 5 + bS B < 10 by omega) rfl ?_
      refine d_run 1 rfl ?_
      refine d_gR k157_52 (by first | assumption | exact Nat.le_of_ble_eq_true rfl | omega) ⟨rfl, rfl, rfl⟩ rfl ?_
      refine d_run 2 rfl ?_
      refine d_ia (N := 8) (j := 4) k157_57 (by decide) (by first | assumption | exact Nat.le_of_ble_eq_true rfl | omega) ⟨⟨rfl, rfl⟩, rfl, rfl⟩ (by decide) rfl ?_
      rw [uF_k (by decide), hB2.1.1]
      refine d_run 2 rfl ?_
      rw [show ibop 0 (nI (bS B)) 1 = nI (bS B + 1) from nI_1 _]
      refine d_is (N := 8) (j := 4) k157_60 (by first | assumption | exact Nat.le_of_ble_eq_true rfl | omega) ⟨rfl, rfl⟩ (by decide) rfl ?_
      refine d_run 1 rfl ?_
      refine d_call 1 k157_62 (by omega) (Nat.le_of_ble_eq_true rfl) rfl (Nat.le_of_ble_eq_true rfl) (Nat.le_of_ble_eq_true rfl) (recv_ok rfl (by first | assumption | exact Nat.le_of_ble_eq_true rfl | omega)) rfl (m_closes (by omega) (((r2.k (by decide) (by decide)).k (by decide) (by decide)).ug (by omega))) rfl ?_
      rintro F3 G3 o3
      refine d_ib k157_65 (by rw [oS_ok]) ?_
      exact MSo.cl (((f2.u rfl (by unfold kpF; omega)).u rfl (by unfold kpF; omega)).g (by omega) (by unfold kpG; omega)) hB2.aS o3
    · rw [b2i0] at h29
      obtain ⟨f, ef⟩ := okB_f h29
      rw [ef] at z2 ⊢
      refine d_run 1 rfl ?_
      refine d_ib k157_33 (by rfl) ?_
      exact ⟨f2, z2⟩
  · have e12 : 5 + bS B = 10 := nI_inj (b := 10) h12 (by omega) (by omega)
    rw [show sStreet t p B = .inl (5 + 16 * p) by unfold sStreet; rw [if_pos (by omega)]]
    refine d_run 2 rfl ?_
    refine d_callT 2 k157_17 (by omega) (Nat.le_of_ble_eq_true rfl) rfl (Nat.le_of_ble_eq_true rfl) (Nat.le_of_ble_eq_true rfl) (recv_ok rfl (by first | assumption | exact Nat.le_of_ble_eq_true rfl | omega)) rfl (m_fails (c := 5) h) rfl ?_
    refine d_ib k157_20 (by rfl) ?_
    exact MSo.f MFr.rf
theorem tw_pair {ss : Bool} {S : Nat} {nm : Nat → List Nat} (h : ∀ w, fdX B ss w = findN nm w 0 S) : sPair t p B ss = bnd (tw t (tN t p) S nm) (fun q => if bit (bR B (prR2 ss) q.1) q.2 = true then .inl (3 + 16 * tN t (tN t p)) else .inr (tN t (tN t (tN t p)), addP2 B ss q.1 q.2)) := by
  unfold sPair tw
  rw [h, h]
  cases numH t (tN t p) (findN nm (tW t (tN t p)) 0 S) with
  | inl f => rfl
  | inr a =>
    simp only [bnd]
    cases numH t (tN t (tN t p)) (findN nm (tW t (tN t (tN t p))) 0 S) with
    | inl f => rfl
    | inr c =>
      simp only []
      by_cases e : a = c
      · simp [e]
      · simp [e]
theorem tw_r {S a c : Nat} {nm : Nat → List Nat} (h : tw t p S nm = .inr (a, c)) : a < S ∧ c < S ∧ a ≠ c := by
  unfold tw at h
  obtain ⟨a2, e1, h⟩ := bnd_r h
  obtain ⟨c2, e2, h⟩ := bnd_r h
  split at h
  · cases h
  · cases h
    exact ⟨numH_lt e1, numH_lt e2, by assumption⟩
theorem MLb.aP1 {F : FT} {G : GT} {B : LB} {a c : Nat} (h : MLb F G B) : MLb (uF (uF F 45 0 (5 + a) (orB (bR B (prR2 true) a) c)) 45 0 (5 + c) (orB (bR B (prR2 true) c) a)) G (addP2 B true a c) := by
  obtain ⟨⟨a1, a2, a3, a4, a5, a6, a7, a8, a9, a10, a11, a12⟩, c0⟩ := h
  refine ⟨⟨?_, ?_, ?_, ?_, fun i hi => ?_, fun i hi => ?_, fun i hi => ?_, fun i hi => ?_, fun i hi => ?_, fun i hi => ?_, fun i hi => ?_, ?_⟩, c0.fr (by rw [uF_q (by omega), uF_q (by omega)]) (fun k x y => by rw [uF_k (by omega), uF_k (by omega)])⟩
  · rw [uF_q (by omega), uF_q (by omega)]; exact a1
  · rw [uF_q (by omega), uF_q (by omega)]; exact a2
  · rw [uF_q (by omega), uF_q (by omega), a3]; show _ = updR (updR (bR B) (prR2 true) a (orB (bR B (prR2 true) a) c)) (prR2 true) c (orB (bR B (prR2 true) c) a) 5 0; simp [updR, prR2]
  · rw [uF_q (by omega), uF_q (by omega), a4]; show _ = updR (updR (bR B) (prR2 true) a (orB (bR B (prR2 true) a) c)) (prR2 true) c (orB (bR B (prR2 true) c) a) 5 1; simp [updR, prR2]
  · have hi : i < bS B := hi
    by_cases e1 : i = c
    · rw [e1, uF_e]
      show _ = updR (updR (bR B) (prR2 true) a (orB (bR B (prR2 true) a) c)) (prR2 true) c (orB (bR B (prR2 true) c) a) 0 c
      simp [updR, prR2]
    · rw [uF_q (by omega)]
      by_cases e2 : i = a
      · rw [e2] at e1 ⊢
        rw [uF_e]
        show _ = updR (updR (bR B) (prR2 true) a (orB (bR B (prR2 true) a) c)) (prR2 true) c (orB (bR B (prR2 true) c) a) 0 a
        simp [updR, prR2, e1]
      · rw [uF_q (by omega), a5 i hi]
        show _ = updR (updR (bR B) (prR2 true) a (orB (bR B (prR2 true) a) c)) (prR2 true) c (orB (bR B (prR2 true) c) a) 0 i
        simp [updR, prR2, e1, e2]
  · rw [uF_q (by omega), uF_q (by omega), a6 i hi]; show _ = updR (updR (bR B) (prR2 true) a (orB (bR B (prR2 true) a) c)) (prR2 true) c (orB (bR B (prR2 true) c) a) 1 i; simp [updR, prR2]
  · rw [uF_q (by omega), uF_q (by omega), a7 i hi]; show _ = updR (updR (bR B) (prR2 true) a (orB (bR B (prR2 true) a) c)) (prR2 true) c (orB (bR B (prR2 true) c) a) 2 i; simp [updR, prR2]
  · rw [uF_q (by omega), uF_q (by omega), a8 i hi]; show _ = updR (updR (bR B) (prR2 true) a (orB (bR B (prR2 true) a) c)) (prR2 true) c (orB (bR B (prR2 true) c) a) 3 i; simp [updR, prR2]
  · rw [uF_q (by omega), uF_q (by omega), a9 i hi]; show _ = updR (updR (bR B) (prR2 true) a (orB (bR B (prR2 true) a) c)) (prR2 true) c (orB (bR B (prR2 true) c) a) 4 i; simp [updR, prR2]
  · exact a10 i hi
  · exact a11 i hi
  · rw [uF_q (by omega), uF_q (by omega)]; exact a12
theorem m_lane (hd : 10 ≤ d) (hB : MLb F G B) (hw : wfB B) (h : MRd F G t p) : Td E d 158 0 [some (vr 40 0)] [] x F G b (some (vi (b2i (okB (oS t (sPair t p B true)))))) (MSo t F G (oS t (sPair t p B true))) := by
  have hS : bS B ≤ 5 := hw.1
  rw [tw_pair (S := bS B) (nm := (bN B).1) (fun _ => rfl)]
  refine d_run 1 rfl ?_
  refine d_call 1 k158_1 (by omega) (Nat.le_of_ble_eq_true rfl) rfl (Nat.le_of_ble_eq_true rfl) (Nat.le_of_ble_eq_true rfl) (recv_ok rfl (by first | assumption | exact Nat.le_of_ble_eq_true rfl | omega)) rfl (m_nx (by omega) h) rfl ?_
  rintro F1 G1 ⟨h1, n1⟩
  have hB1 := hB.q n1.q
  refine d_run 3 rfl ?_
  refine d_call 3 k158_7 (by omega) (Nat.le_of_ble_eq_true rfl) rfl (Nat.le_of_ble_eq_true rfl) (Nat.le_of_ble_eq_true rfl) (recv_ok rfl (by first | assumption | exact Nat.le_of_ble_eq_true rfl | omega)) rfl (m_twoS (S := bS B) (r := 1) (nm := (bN B).1) (by omega) (by decide) hB1.1.1 hS hB1.1.2.2.2.2.2.2.2.2.2.1 hw.2.2.1 h1) rfl ?_
  rintro F2 G2 ⟨q2, z2⟩
  have hB2 := hB1.q q2
  have f2 := n1.q.fr.tr q2.fr
  refine d_if_ne k158_10 (fun h10 => ?_) (fun h10 => ?_)
  · rw [b2i0, Bool.not_eq_false] at h10
    obtain ⟨⟨a, c⟩, e1⟩ := okB_t h10
    rw [e1] at z2 ⊢
    obtain ⟨r2, z37, z35⟩ := z2
    obtain ⟨la, lc, lne⟩ := tw_r e1
    have z37 : F2 40 0 37 = nI a := z37
    have z35 : F2 40 0 35 = nI c := z35
    simp only [bnd]
    have ia : ibop 0 5 (nI a) = nI (5 + a) := nI_add 5 a
    have ic : ibop 0 5 (nI c) = nI (5 + c) := nI_add 5 c
    refine d_run 1 rfl ?_
    refine d_gR k158_16 (by first | assumption | exact Nat.le_of_ble_eq_true rfl | omega) ⟨rfl, rfl, rfl⟩ rfl ?_
    refine d_run 2 rfl ?_
    refine d_gI k158_21 (by first | assumption | exact Nat.le_of_ble_eq_true rfl | omega) ⟨rfl, rfl, Or.inl rfl⟩ ?_
    rw [z37]
    refine d_run 1 rfl ?_
    refine d_ia (N := 10) (j := 5 + a) k158_25 (by decide) (by first | assumption | exact Nat.le_of_ble_eq_true rfl | omega) ⟨⟨rfl, rfl⟩, rfl, rfl⟩ (show 5 + a < 10 by omega) ia ?_
    rw [hB2.1.2.2.2.2.1 a la]
    refine d_run 1 rfl ?_
    refine d_gI k158_27 (by first | assumption | exact Nat.le_of_ble_eq_true rfl | omega) ⟨rfl, rfl, Or.inl rfl⟩ ?_
    rw [z35]
    refine d_run 4 rfl ?_
    refine d_ic_ne k158_34 (fun h34 => ?_) (fun h34 => ?_)
    · have eb : ¬ bit (bR B (prR2 true) a) c = true := fun e => h34 ((bit1 _ _).mpr e)
      rw [if_neg eb]
      refine d_run 1 rfl ?_
      refine d_gR k158_44 (by first | assumption | exact Nat.le_of_ble_eq_true rfl | omega) ⟨rfl, rfl, rfl⟩ rfl ?_
      refine d_run 2 rfl ?_
      refine d_gI k158_49 (by first | assumption | exact Nat.le_of_ble_eq_true rfl | omega) ⟨rfl, rfl, Or.inl rfl⟩ ?_
      rw [z37]
      refine d_run 2 rfl ?_
      refine d_ia (N := 10) (j := 5 + a) k158_54 (by decide) (by first | assumption | exact Nat.le_of_ble_eq_true rfl | omega) ⟨⟨rfl, rfl⟩, rfl, rfl⟩ (show 5 + a < 10 by omega) ia ?_
      rw [hB2.1.2.2.2.2.1 a la]
      refine d_run 2 rfl ?_
      refine d_gI k158_57 (by first | assumption | exact Nat.le_of_ble_eq_true rfl | omega) ⟨rfl, rfl, Or.inl rfl⟩ ?_
      rw [z35]
      refine d_run 2 rfl ?_
      refine d_is (N := 10) (j := 5 + a) k158_62 (by first | assumption | exact Nat.le_of_ble_eq_true rfl | omega) ⟨rfl, rfl⟩ (show 5 + a < 10 by omega) ia ?_
      rw [show ibop 4 (bR B 0 a) (ibop 6 1 (nI c)) = orB (bR B (prR2 true) a) c from rfl]
      refine d_run 1 rfl ?_
      refine d_gR k158_64 (by first | assumption | exact Nat.le_of_ble_eq_true rfl | omega) ⟨rfl, rfl, rfl⟩ rfl ?_
      refine d_run 2 rfl ?_
      refine d_gI k158_69 (by first | assumption | exact Nat.le_of_ble_eq_true rfl | omega) ⟨rfl, rfl, Or.inl rfl⟩ ?_
      rw [uF_k (by decide), z35]
      refine d_run 2 rfl ?_
      refine d_ia (N := 10) (j := 5 + c) k158_74 (by decide) (by first | assumption | exact Nat.le_of_ble_eq_true rfl | omega) ⟨⟨rfl, rfl⟩, rfl, rfl⟩ (show 5 + c < 10 by omega) ic ?_
      rw [uF_q (by omega), hB2.1.2.2.2.2.1 c lc]
      refine d_run 2 rfl ?_
      refine d_gI k158_77 (by first | assumption | exact Nat.le_of_ble_eq_true rfl | omega) ⟨rfl, rfl, Or.inl rfl⟩ ?_
      rw [uF_k (by decide), z37]
      refine d_run 2 rfl ?_
      refine d_is (N := 10) (j := 5 + c) k158_82 (by first | assumption | exact Nat.le_of_ble_eq_true rfl | omega) ⟨rfl, rfl⟩ (show 5 + c < 10 by omega) ic ?_
      rw [show ibop 4 (bR B 0 c) (ibop 6 1 (nI a)) = orB (bR B (prR2 true) c) a from rfl]
      refine d_run 1 rfl ?_
      refine d_call 1 k158_84 (by omega) (Nat.le_of_ble_eq_true rfl) rfl (Nat.le_of_ble_eq_true rfl) (Nat.le_of_ble_eq_true rfl) (recv_ok rfl (by first | assumption | exact Nat.le_of_ble_eq_true rfl | omega)) rfl (m_nx (by omega) ((r2.k (by decide) (by decide)).k (by decide) (by decide))) rfl ?_
      rintro F3 G3 ⟨h3, n3⟩
      have hB3 := (hB2.aP1 (a := a) (c := c)).q n3.q
      have f3 := ((f2.u (k := 45) (i := 5 + a) rfl (by unfold kpF; omega)).u (k := 45) (i := 5 + c) rfl (by unfold kpF; omega)).tr n3.q.fr
      refine d_run 1 rfl ?_
      refine d_call 1 k158_88 (by omega) (Nat.le_of_ble_eq_true rfl) rfl (Nat.le_of_ble_eq_true rfl) (Nat.le_of_ble_eq_true rfl) (recv_ok rfl (by first | assumption | exact Nat.le_of_ble_eq_true rfl | omega)) rfl (m_closes (by omega) h3) rfl ?_
      rintro F4 G4 o4
      refine d_ib k158_91 (by rw [oS_ok]) ?_
      exact MSo.cl f3 hB3 o4
    · have eb : bit (bR B (prR2 true) a) c = true := (bit1 _ _).mp h34
      rw [if_pos eb]
      refine d_run 2 rfl ?_
      refine d_callT 2 k158_39 (by omega) (Nat.le_of_ble_eq_true rfl) rfl (Nat.le_of_ble_eq_true rfl) (Nat.le_of_ble_eq_true rfl) (recv_ok rfl (by first | assumption | exact Nat.le_of_ble_eq_true rfl | omega)) rfl (m_fails (c := 3) r2) rfl ?_
      refine d_ib k158_42 (by rfl) ?_
      exact MSo.f f2
  · rw [b2i0] at h10
    obtain ⟨f, ef⟩ := okB_f h10
    rw [ef] at z2 ⊢
    refine d_run 1 rfl ?_
    refine d_ib k158_14 (by rfl) ?_
    exact ⟨f2, z2⟩
theorem MLb.aP0 {F : FT} {G : GT} {B : LB} {a c : Nat} (h : MLb F G B) : MLb (uF (uF F 49 0 (6 + a) (orB (bR B (prR2 false) a) c)) 49 0 (6 + c) (orB (bR B (prR2 false) c) a)) G (addP2 B false a c) := by
  obtain ⟨⟨a1, a2, a3, a4, a5, a6, a7, a8, a9, a10, a11, a12⟩, c0⟩ := h
  refine ⟨⟨?_, ?_, ?_, ?_, fun i hi => ?_, fun i hi => ?_, fun i hi => ?_, fun i hi => ?_, fun i hi => ?_, fun i hi => ?_, fun i hi => ?_, ?_⟩, c0.fr (by rw [uF_q (by omega), uF_q (by omega)]) (fun k x y => by rw [uF_k (by omega), uF_k (by omega)])⟩
  · rw [uF_q (by omega), uF_q (by omega)]; exact a1
  · rw [uF_q (by omega), uF_q (by omega)]; exact a2
  · rw [uF_q (by omega), uF_q (by omega), a3]; show _ = updR (updR (bR B) (prR2 false) a (orB (bR B (prR2 false) a) c)) (prR2 false) c (orB (bR B (prR2 false) c) a) 5 0; simp [updR, prR2]
  · rw [uF_q (by omega), uF_q (by omega), a4]; show _ = updR (updR (bR B) (prR2 false) a (orB (bR B (prR2 false) a) c)) (prR2 false) c (orB (bR B (prR2 false) c) a) 5 1; simp [updR, prR2]
  · rw [uF_q (by omega), uF_q (by omega), a5 i hi]; show _ = updR (updR (bR B) (prR2 false) a (orB (bR B (prR2 false) a) c)) (prR2 false) c (orB (bR B (prR2 false) c) a) 0 i; simp [updR, prR2]
  · rw [uF_q (by omega), uF_q (by omega), a6 i hi]; show _ = updR (updR (bR B) (prR2 false) a (orB (bR B (prR2 false) a) c)) (prR2 false) c (orB (bR B (prR2 false) c) a) 1 i; simp [updR, prR2]
  · rw [uF_q (by omega), uF_q (by omega), a7 i hi]; show _ = updR (updR (bR B) (prR2 false) a (orB (bR B (prR2 false) a) c)) (prR2 false) c (orB (bR B (prR2 false) c) a) 2 i; simp [updR, prR2]
  · rw [uF_q (by omega), uF_q (by omega), a8 i hi]; show _ = updR (updR (bR B) (prR2 false) a (orB (bR B (prR2 false) a) c)) (prR2 false) c (orB (bR B (prR2 false) c) a) 3 i; simp [updR, prR2]
  · have hi : i < bP B := hi
    by_cases e1 : i = c
    · rw [e1, uF_e]
      show _ = updR (updR (bR B) (prR2 false) a (orB (bR B (prR2 false) a) c)) (prR2 false) c (orB (bR B (prR2 false) c) a) 4 c
      simp [updR, prR2]
    · rw [uF_q (by omega)]
      by_cases e2 : i = a
      · rw [e2] at e1 ⊢
        rw [uF_e]
        show _ = updR (updR (bR B) (prR2 false) a (orB (bR B (prR2 false) a) c)) (prR2 false) c (orB (bR B (prR2 false) c) a) 4 a
        simp [updR, prR2, e1]
      · rw [uF_q (by omega), a9 i hi]
        show _ = updR (updR (bR B) (prR2 false) a (orB (bR B (prR2 false) a) c)) (prR2 false) c (orB (bR B (prR2 false) c) a) 4 i
        simp [updR, prR2, e1, e2]
  · exact a10 i hi
  · exact a11 i hi
  · rw [uF_q (by omega), uF_q (by omega)]; exact a12
theorem m_knows (hd : 10 ≤ d) (hB : MLb F G B) (hw : wfB B) (h : MRd F G t p) : Td E d 160 0 [some (vr 40 0)] [] x F G b (some (vi (b2i (okB (oS t (sPair t p B false)))))) (MSo t F G (oS t (sPair t p B false))) := by
  have hS : bP B ≤ 6 := hw.2.1
  rw [tw_pair (S := bP B) (nm := (bN B).2) (fun _ => rfl)]
  refine d_run 1 rfl ?_
  refine d_call 1 k160_1 (by omega) (Nat.le_of_ble_eq_true rfl) rfl (Nat.le_of_ble_eq_true rfl) (Nat.le_of_ble_eq_true rfl) (recv_ok rfl (by first | assumption | exact Nat.le_of_ble_eq_true rfl | omega)) rfl (m_nx (by omega) h) rfl ?_
  rintro F1 G1 ⟨h1, n1⟩
  have hB1 := hB.q n1.q
  refine d_run 3 rfl ?_
  refine d_call 3 k160_7 (by omega) (Nat.le_of_ble_eq_true rfl) rfl (Nat.le_of_ble_eq_true rfl) (Nat.le_of_ble_eq_true rfl) (recv_ok rfl (by first | assumption | exact Nat.le_of_ble_eq_true rfl | omega)) rfl (m_twoP (S := bP B) (r := 1) (nm := (bN B).2) (by omega) (by decide) hB1.1.2.1 hS hB1.1.2.2.2.2.2.2.2.2.2.2.1 hw.2.2.2.1 h1) rfl ?_
  rintro F2 G2 ⟨q2, z2⟩
  have hB2 := hB1.q q2
  have f2 := n1.q.fr.tr q2.fr
  refine d_if_ne k160_10 (fun h10 => ?_) (fun h10 => ?_)
  · rw [b2i0, Bool.not_eq_false] at h10
    obtain ⟨⟨a, c⟩, e1⟩ := okB_t h10
    rw [e1] at z2 ⊢
    obtain ⟨r2, z37, z35⟩ := z2
    obtain ⟨la, lc, lne⟩ := tw_r e1
    have z37 : F2 40 0 37 = nI a := z37
    have z35 : F2 40 0 35 = nI c := z35
    simp only [bnd]
    have ia : ibop 0 6 (nI a) = nI (6 + a) := nI_add 6 a
    have ic : ibop 0 6 (nI c) = nI (6 + c) := nI_add 6 c
    refine d_run 1 rfl ?_
    refine d_gR k160_16 (by first | assumption | exact Nat.le_of_ble_eq_true rfl | omega) ⟨rfl, rfl, rfl⟩ rfl ?_
    refine d_run 2 rfl ?_
    refine d_gI k160_22 (by first | assumption | exact Nat.le_of_ble_eq_true rfl | omega) ⟨rfl, rfl, Or.inl rfl⟩ ?_
    rw [z37]
    refine d_run 1 rfl ?_
    refine d_ia (N := 12) (j := 6 + a) k160_26 (by decide) (by first | assumption | exact Nat.le_of_ble_eq_true rfl | omega) ⟨⟨rfl, rfl⟩, rfl, rfl⟩ (show 6 + a < 12 by omega) ia ?_
    rw [hB2.1.2.2.2.2.2.2.2.2.1 a la]
    refine d_run 1 rfl ?_
    refine d_gI k160_28 (by first | assumption | exact Nat.le_of_ble_eq_true rfl | omega) ⟨rfl, rfl, Or.inl rfl⟩ ?_
    rw [z35]
    refine d_run 4 rfl ?_
    refine d_ic_ne k160_35 (fun h35 => ?_) (fun h35 => ?_)
    · have eb : ¬ bit (bR B (prR2 false) a) c = true := fun e => h35 ((bit1 _ _).mpr e)
      rw [if_neg eb]
      refine d_run 1 rfl ?_
      refine d_gR k160_45 (by first | assumption | exact Nat.le_of_ble_eq_true rfl | omega) ⟨rfl, rfl, rfl⟩ rfl ?_
      refine d_run 2 rfl ?_
      refine d_gI k160_51 (by first | assumption | exact Nat.le_of_ble_eq_true rfl | omega) ⟨rfl, rfl, Or.inl rfl⟩ ?_
      rw [z37]
      refine d_run 2 rfl ?_
      refine d_ia (N := 12) (j := 6 + a) k160_56 (by decide) (by first | assumption | exact Nat.le_of_ble_eq_true rfl | omega) ⟨⟨rfl, rfl⟩, rfl, rfl⟩ (show 6 + a < 12 by omega) ia ?_
      rw [hB2.1.2.2.2.2.2.2.2.2.1 a la]
      refine d_run 2 rfl ?_
      refine d_gI k160_59 (by first | assumption | exact Nat.le_of_ble_eq_true rfl | omega) ⟨rfl, rfl, Or.inl rfl⟩ ?_
      rw [z35]
      refine d_run 2 rfl ?_
      refine d_is (N := 12) (j := 6 + a) k160_64 (by first | assumption | exact Nat.le_of_ble_eq_true rfl | omega) ⟨rfl, rfl⟩ (show 6 + a < 12 by omega) ia ?_
      rw [show ibop 4 (bR B 4 a) (ibop 6 1 (nI c)) = orB (bR B (prR2 false) a) c from rfl]
      refine d_run 1 rfl ?_
      refine d_gR k160_66 (by first | assumption | exact Nat.le_of_ble_eq_true rfl | omega) ⟨rfl, rfl, rfl⟩ rfl ?_
      refine d_run 2 rfl ?_
      refine d_gI k160_72 (by first | assumption | exact Nat.le_of_ble_eq_true rfl | omega) ⟨rfl, rfl, Or.inl rfl⟩ ?_
      rw [uF_k (by decide), z35]
      refine d_run 2 rfl ?_
      refine d_ia (N := 12) (j := 6 + c) k160_77 (by decide) (by first | assumption | exact Nat.le_of_ble_eq_true rfl | omega) ⟨⟨rfl, rfl⟩, rfl, rfl⟩ (show 6 + c < 12 by omega) ic ?_
      rw [uF_q (by omega), hB2.1.2.2.2.2.2.2.2.2.1 c lc]
      refine d_run 2 rfl ?_
      refine d_gI k160_80 (by first | assumption | exact Nat.le_of_ble_eq_true rfl | omega) ⟨rfl, rfl, Or.inl rfl⟩ ?_
      rw [uF_k (by decide), z37]
      refine d_run 2 rfl ?_
      refine d_is (N := 12) (j := 6 + c) k160_85 (by first | assumption | exact Nat.le_of_ble_eq_true rfl | omega) ⟨rfl, rfl⟩ (show 6 + c < 12 by omega) ic ?_
      rw [show ibop 4 (bR B 4 c) (ibop 6 1 (nI a)) = orB (bR B (prR2 false) c) a from rfl]
      refine d_run 1 rfl ?_
      refine d_call 1 k160_87 (by omega) (Nat.le_of_ble_eq_true rfl) rfl (Nat.le_of_ble_eq_true rfl) (Nat.le_of_ble_eq_true rfl) (recv_ok rfl (by first | assumption | exact Nat.le_of_ble_eq_true rfl | omega)) rfl (m_nx (by omega) ((r2.k (by decide) (by decide)).k (by decide) (by decide))) rfl ?_
      rintro F3 G3 ⟨h3, n3⟩
      have hB3 := (hB2.aP0 (a := a) (c := c)).q n3.q
      have f3 := ((f2.u (k := 49) (i := 6 + a) rfl (by unfold kpF; omega)).u (k := 49) (i := 6 + c) rfl (by unfold kpF; omega)).tr n3.q.fr
      refine d_run 1 rfl ?_
      refine d_call 1 k160_91 (by omega) (Nat.le_of_ble_eq_true rfl) rfl (Nat.le_of_ble_eq_true rfl) (Nat.le_of_ble_eq_true rfl) (recv_ok rfl (by first | assumption | exact Nat.le_of_ble_eq_true rfl | omega)) rfl (m_closes (by omega) h3) rfl ?_
      rintro F4 G4 o4
      refine d_ib k160_94 (by rw [oS_ok]) ?_
      exact MSo.cl f3 hB3 o4
    · have eb : bit (bR B (prR2 false) a) c = true := (bit1 _ _).mp h35
      rw [if_pos eb]
      refine d_run 2 rfl ?_
      refine d_callT 2 k160_40 (by omega) (Nat.le_of_ble_eq_true rfl) rfl (Nat.le_of_ble_eq_true rfl) (Nat.le_of_ble_eq_true rfl) (recv_ok rfl (by first | assumption | exact Nat.le_of_ble_eq_true rfl | omega)) rfl (m_fails (c := 3) r2) rfl ?_
      refine d_ib k160_43 (by rfl) ?_
      exact MSo.f f2
  · rw [b2i0] at h10
    obtain ⟨f, ef⟩ := okB_f h10
    rw [ef] at z2 ⊢
    refine d_run 1 rfl ?_
    refine d_ib k160_14 (by rfl) ?_
    exact ⟨f2, z2⟩
theorem MLb.aN {F : FT} {G : GT} {B : LB} {w : List Nat} {kd : Int32} {a v : Nat} (h : MLb F G B) (h46 : F 46 0 (6 + bP B) = kd) (h47 : F 47 0 (6 + bP B) = nI a) : MLb (uF (uF (uF F 48 0 (6 + bP B) (nI v)) 49 0 (6 + bP B) 0) 42 0 5 (nI (bP B + 1))) (uG G 44 0 (6 + bP B) (w27 w)) (addPn B w kd a v) := by
  obtain ⟨⟨a1, a2, a3, a4, a5, a6, a7, a8, a9, a10, a11, a12⟩, c⟩ := h
  have RW : ∀ r i, bR (addPn B w kd a v) r i = updR (updR (updR (updR (bR B) 4 (bP B) 0) 1 (bP B) kd) 2 (bP B) (nI a)) 3 (bP B) (nI v) r i := fun _ _ => rfl
  refine ⟨⟨?_, uF_e, ?_, ?_, fun i hi => ?_, fun i hi => ?_, fun i hi => ?_, fun i hi => ?_, fun i hi => ?_, fun i hi => ?_, fun i hi => ?_, ?_⟩, c.fr (by rw [uF_q (by omega), uF_q (by omega), uF_q (by omega)]) (fun k x y => by rw [uF_k (by omega), uF_k (by omega), uF_k (by omega)])⟩
  · rw [uF_q (by omega), uF_q (by omega), uF_q (by omega)]; exact a1
  · rw [uF_q (by omega), uF_q (by omega), uF_q (by omega), a3, RW]; simp [updR]
  · rw [uF_q (by omega), uF_q (by omega), uF_q (by omega), a4, RW]; simp [updR]
  · rw [uF_q (by omega), uF_q (by omega), uF_q (by omega), a5 i hi, RW]; simp [updR]
  · have hi : i < bP B + 1 := hi
    rw [uF_q (by omega), uF_q (by omega), uF_q (by omega), RW]
    by_cases e : i = bP B
    · rw [e, h46]; simp [updR]
    · rw [a6 i (by omega)]; simp [updR, e]
  · have hi : i < bP B + 1 := hi
    rw [uF_q (by omega), uF_q (by omega), uF_q (by omega), RW]
    by_cases e : i = bP B
    · rw [e, h47]; simp [updR]
    · rw [a7 i (by omega)]; simp [updR, e]
  · have hi : i < bP B + 1 := hi
    rw [uF_q (by omega), uF_q (by omega), RW]
    by_cases e : i = bP B
    · rw [e, uF_e]; simp [updR]
    · rw [uF_q (by omega), a8 i (by omega)]; simp [updR, e]
  · have hi : i < bP B + 1 := hi
    rw [uF_q (by omega), RW]
    by_cases e : i = bP B
    · rw [e, uF_e]; simp [updR]
    · rw [uF_q (by omega), uF_q (by omega), a9 i (by omega)]; simp [updR, e]
  · rw [uG_m (by omega)]; exact a10 i hi
  · have hi : i < bP B + 1 := hi
    by_cases e : i = bP B
    · rw [e, uG_q]
      show _ = w27 (updW (bN B).2 (bP B) w (bP B))
      simp [updW]
    · rw [uG_m (by omega), a11 i (by omega)]
      show _ = w27 (updW (bN B).2 (bP B) w i)
      simp [updW, e]
  · rw [uF_q (by omega), uF_q (by omega), uF_q (by omega)]; exact a12
end TC
