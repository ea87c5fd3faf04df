/-! PEOPLE READ BY THE CLASS -/
section T4
variable {E : EV} {d x p l : Nat} {F : FT} {G : GT} {b : Bool} {t : TP} {B : LB} {u v w : Int32}
theorem CLb.addPn {w : List Nat} {k : Int32} {a v : Nat} (h : CLb F G l B) : CLb (uF (uF (uF (uF (uF F 16 l (bP B) 0) 9 l 10 (nI (bP B + 1))) 13 l (bP B) k) 14 l (bP B) (nI a)) 15 l (bP B) (nI v)) (uG G 12 l (bP B) (w32 w)) l (addPn B w k a v) := by
  obtain ⟨c1, c2, c3, c4, c5, c6, c7, c8, c9, c10, c11, c12⟩ := h
  have e9 : ∀ i, i ≠ 10 → uF (uF (uF (uF (uF F 16 l (bP B) 0) 9 l 10 (nI (bP B + 1))) 13 l (bP B) k) 14 l (bP B) (nI a)) 15 l (bP B) (nI v) 9 l i = F 9 l i := fun i hi => by
    rw [uF_k (by decide), uF_k (by decide), uF_k (by decide), uF_r, pk_un hi, uF_k (by decide)]
  refine ⟨(e9 9 (by decide)).trans c1, ?_, (e9 11 (by decide)).trans c3, (e9 12 (by decide)).trans c4, (e9 13 (by decide)).trans c5, fun i hi => ?_, fun i hi => ?_, fun i hi => ?_, fun i hi => ?_, fun i hi => ?_, ?_, ?_⟩
  · rw [uF_k (by decide), uF_k (by decide), uF_k (by decide), uF_r, pk_us]; rfl
  · rw [uF_k (by decide), uF_k (by decide), uF_k (by decide), uF_k (by decide), uF_k (by decide)]
    exact c6 i hi
  · have hi : i < bP B + 1 := hi
    show _ = updR (updR (updR (updR (bR B) 4 (bP B) 0) 1 (bP B) k) 2 (bP B) (nI a)) 3 (bP B) (nI v) 1 i ∧ _ = updR (updR (updR (updR (bR B) 4 (bP B) 0) 1 (bP B) k) 2 (bP B) (nI a)) 3 (bP B) (nI v) 2 i ∧ _ = updR (updR (updR (updR (bR B) 4 (bP B) 0) 1 (bP B) k) 2 (bP B) (nI a)) 3 (bP B) (nI v) 3 i ∧ _ = updR (updR (updR (updR (bR B) 4 (bP B) 0) 1 (bP B) k) 2 (bP B) (nI a)) 3 (bP B) (nI v) 4 i
    rw [uF_k (k2 := 13) (by decide), uF_k (k2 := 13) (by decide), uF_r (k := 13), uF_k (k2 := 13) (by decide), uF_k (k2 := 13) (by decide), uF_k (k2 := 14) (by decide), uF_r (k := 14), uF_k (k2 := 14) (by decide), uF_k (k2 := 14) (by decide), uF_k (k2 := 14) (by decide), uF_r (k := 15), uF_k (k2 := 15) (by decide), uF_k (k2 := 15) (by decide), uF_k (k2 := 15) (by decide), uF_k (k2 := 15) (by decide), uF_k (k2 := 16) (by decide), uF_k (k2 := 16) (by decide), uF_k (k2 := 16) (by decide), uF_k (k2 := 16) (by decide), uF_r (k := 16)]
    by_cases e : i = bP B
    · subst e
      rw [pk_us, pk_us, pk_us, pk_us]
      refine ⟨?_, ?_, ?_, ?_⟩
      · rw [updR_n (by omega), updR_n (by omega), updR_s]
      · rw [updR_n (by omega), updR_s]
      · rw [updR_s]
      · rw [updR_n (by omega), updR_n (by omega), updR_n (by omega), updR_s]
    · rw [pk_un e, pk_un e, pk_un e, pk_un e]
      obtain ⟨a1, a2, a3, a4⟩ := c7 i (by omega)
      refine ⟨?_, ?_, ?_, ?_⟩
      · rw [updR_n (by omega), updR_n (by omega), updR_n (by omega), updR_n (by omega)]; exact a1
      · rw [updR_n (by omega), updR_n (by omega), updR_n (by omega), updR_n (by omega)]; exact a2
      · rw [updR_n (by omega), updR_n (by omega), updR_n (by omega), updR_n (by omega)]; exact a3
      · rw [updR_n (by omega), updR_n (by omega), updR_n (by omega), updR_n (by omega)]; exact a4
  · rw [uG_k (by decide)]; exact c8 i hi
  · have hi : i < bP B + 1 := hi
    show _ = w32 (updW (bN B).2 (bP B) w i)
    simp only [uG, updW]
    by_cases e : i = bP B
    · simp [e]
    · simp [e]; exact c9 i (by omega)
  · rw [uF_k (by decide), uF_k (by decide), uF_k (by decide), uF_k (by decide), uF_k (by decide)]; exact c10 i hi
  · rw [uF_k (by decide), uF_k (by decide), uF_k (by decide), uF_k (by decide), uF_k (by decide)]; exact c11
  · rw [uF_k (by decide), uF_k (by decide), uF_k (by decide), uF_k (by decide), uF_k (by decide)]; exact c12
theorem c_person (hl : l < 2) (hd : 20 ≤ d) (h : CRd F G t p) (hB : CLb F G l B) (hw : wfB B) : Td E d 31 0 [some (vr 7 0), some (vr 9 l), none] [] x F G b (some (vi (b2i (okB (sPerson t p B))))) (COb t l F G (sPerson t p B)) := by
  obtain ⟨w1, w2, w3, w4, _⟩ := id hw
  obtain ⟨c1, c2, c3, c4, c5, c6, c7, c8, c9, c10, c11, c12⟩ := id hB
  refine d_run 1 rfl ?_
  refine d_gI k31_1 (by first | assumption | exact lx2 _ | exact Nat.lt_of_lt_of_le (m := 2) hl (Nat.le_of_ble_eq_true rfl) | omega) ⟨rfl, rfl, Or.inl rfl⟩ ?_
  rw [c2]
  refine d_run 3 rfl ?_
  refine d_ic_lt k31_8 (fun h8 => ?_) (fun h8 => ?_)
  · have h8 := gt_nI (a := 6) (b := bP B) h8 rfl (by omega) (by omega)
    refine d_run 1 rfl ?_
    refine d_gR k31_21 (by first | assumption | exact Nat.le_of_ble_eq_true rfl | omega) ⟨rfl, rfl, rfl⟩ rfl ?_
    refine d_call 1 k31_24 (by omega) (Nat.le_of_ble_eq_true rfl) rfl (Nat.le_of_ble_eq_true rfl) (Nat.le_of_ble_eq_true rfl) (recv_ok rfl (by first | assumption | exact Nat.le_of_ble_eq_true rfl | omega)) rfl (c_nx (by omega) h) rfl ?_
    rintro F1 G1 ⟨h1a, n1a⟩
    refine d_run 2 rfl ?_
    refine d_call 2 k31_29 (by omega) (Nat.le_of_ble_eq_true rfl) rfl (Nat.le_of_ble_eq_true rfl) (Nat.le_of_ble_eq_true rfl) (recv_ok rfl (by first | assumption | exact Nat.le_of_ble_eq_true rfl | omega)) rfl (c_newN hl (by omega) h1a (hB.d5 (D5.rf.nx n1a)) hw) rfl ?_
    rintro F2 G2 q2
    refine d_if_ne k31_32 (fun h32 => ?_) (fun h32 => ?_)
    · rw [b2i0, Bool.not_eq_false] at h32
      obtain ⟨p1, ef1⟩ := okB_t h32
      obtain ⟨rfl, hnm⟩ := newN_r ef1
      rw [ef1] at q2
      obtain ⟨h2, n2⟩ := q2
      have d2 := (D5.rf.nx n1a).nx n2
      have hB2 := hB.d5 d2
      refine d_run 2 rfl ?_
      refine d_gR k31_39 (by first | assumption | exact Nat.le_of_ble_eq_true rfl | omega) ⟨rfl, rfl, rfl⟩ rfl ?_
      refine d_gL k31_42 (by first | assumption | exact Nat.le_of_ble_eq_true rfl | omega) ⟨rfl, rfl, rfl⟩ ?_
      rw [h2.2.2.2.2.2.1 (isNm_K hnm)]
      refine d_call 2 k31_45 (by omega) (Nat.le_of_ble_eq_true rfl) rfl (Nat.le_of_ble_eq_true rfl) (Nat.le_of_ble_eq_true rfl) (recv_ok rfl (by first | assumption | exact lx2 _ | exact Nat.lt_of_lt_of_le (m := 2) hl (Nat.le_of_ble_eq_true rfl) | omega)) rfl (c_addP hl hB2.2.1 h8) rfl ?_
      rintro F3 G3 ⟨rfl, rfl⟩
      have h3 : CRd (uF (uF F2 16 l (bP B) 0) 9 l 10 (nI (bP B + 1))) (uG G2 12 l (bP B) (w32 (tW t (tN t p)))) t (tN t p) := ((h2.u (by decide) (by decide)).u (by decide) (by decide)).ug (by decide)
      have d3 : D5 (uF (uF F 16 l (bP B) 0) 9 l 10 (nI (bP B + 1))) (uG G 12 l (bP B) (w32 (tW t (tN t p)))) _ _ := d2.u.u.ug
      have f3 := (((CFr.rf (l := l) (F := F) (G := G)).u (k := 16) (i := bP B) (v := 0) (by decide)).u (k := 9) (i := 10) (v := nI (bP B + 1)) (by decide)).ug (k := 12) (i := bP B) (v := w32 (tW t (tN t p))) (Or.inr rfl)
      refine d_run 1 rfl ?_
      refine d_gR k31_49 (by first | assumption | exact Nat.le_of_ble_eq_true rfl | omega) ⟨rfl, rfl, rfl⟩ rfl ?_
      refine d_call 1 k31_52 (by omega) (Nat.le_of_ble_eq_true rfl) rfl (Nat.le_of_ble_eq_true rfl) (Nat.le_of_ble_eq_true rfl) (recv_ok rfl (by first | assumption | exact Nat.le_of_ble_eq_true rfl | omega)) rfl (c_nx (by omega) h3) rfl ?_
      rintro F4 G4 ⟨h4a, n4a⟩
      refine d_run 1 rfl ?_
      refine d_gR k31_56 (by first | assumption | exact lx2 _ | exact Nat.lt_of_lt_of_le (m := 2) hl (Nat.le_of_ble_eq_true rfl) | omega) ⟨rfl, rfl, rfl⟩ rfl ?_
      refine d_run 2 rfl ?_
      refine d_gR k31_61 (by first | assumption | exact Nat.le_of_ble_eq_true rfl | omega) ⟨rfl, rfl, rfl⟩ rfl ?_
      refine d_callT 1 k31_64 (by omega) (Nat.le_of_ble_eq_true rfl) rfl (Nat.le_of_ble_eq_true rfl) (Nat.le_of_ble_eq_true rfl) (recv_ok rfl (by first | assumption | exact Nat.le_of_ble_eq_true rfl | omega)) rfl (c_kdN (by omega) h4a) rfl ?_
      refine d_is (N := 6) (j := bP B) k31_67 (by first | assumption | exact lx2 _ | exact Nat.lt_of_lt_of_le (m := 2) hl (Nat.le_of_ble_eq_true rfl) | omega) ⟨rfl, rfl⟩ (show bP B < 6 by omega) rfl ?_
      have h5 : CRd (uF F4 13 l (bP B) (kdN t (tN t (tN t p)))) G4 t (tN t (tN t p)) := h4a.u (by decide) (by decide)
      have d5 : D5 (uF (uF (uF F 16 l (bP B) 0) 9 l 10 (nI (bP B + 1))) 13 l (bP B) (kdN t (tN t (tN t p)))) (uG G 12 l (bP B) (w32 (tW t (tN t p)))) (uF F4 13 l (bP B) (kdN t (tN t (tN t p)))) G4 := (d3.nx n4a).u
      have f5 := f3.u (k := 13) (i := bP B) (v := kdN t (tN t (tN t p))) (by decide)
      refine d_run 1 rfl ?_
      refine d_gR k31_69 (by first | assumption | exact lx2 _ | exact Nat.lt_of_lt_of_le (m := 2) hl (Nat.le_of_ble_eq_true rfl) | omega) ⟨rfl, rfl, rfl⟩ rfl ?_
      refine d_run 1 rfl ?_
      refine d_ia (N := 6) (j := bP B) k31_73 (by decide) (by first | assumption | exact lx2 _ | exact Nat.lt_of_lt_of_le (m := 2) hl (Nat.le_of_ble_eq_true rfl) | omega) ⟨⟨rfl, rfl⟩, rfl, rfl⟩ (show bP B < 6 by omega) rfl ?_
      rw [uF_r, pk_us]
      refine d_run 1 rfl ?_
      refine d_ic_ne k31_75 (fun h75 => ?_) (fun h75 => ?_)
      · refine d_run 1 rfl ?_
        refine d_gR k31_88 (by first | assumption | exact Nat.le_of_ble_eq_true rfl | omega) ⟨rfl, rfl, rfl⟩ rfl ?_
        refine d_call 1 k31_91 (by omega) (Nat.le_of_ble_eq_true rfl) rfl (Nat.le_of_ble_eq_true rfl) (Nat.le_of_ble_eq_true rfl) (recv_ok rfl (by first | assumption | exact Nat.le_of_ble_eq_true rfl | omega)) rfl (c_nx (by omega) h5) rfl ?_
        rintro F6 G6 ⟨h6a, n6a⟩
        refine d_run 1 rfl ?_
        refine d_gR k31_95 (by first | assumption | exact Nat.le_of_ble_eq_true rfl | omega) ⟨rfl, rfl, rfl⟩ rfl ?_
        refine d_run 1 rfl ?_
        refine d_call 2 k31_100 (by omega) (Nat.le_of_ble_eq_true rfl) rfl (Nat.le_of_ble_eq_true rfl) (Nat.le_of_ble_eq_true rfl) (recv_ok rfl (by first | assumption | exact Nat.le_of_ble_eq_true rfl | omega)) rfl (c_passW (n := 9) (by decide) (by decide) (by decide) (by omega) h6a) rfl ?_
        rintro F7 G7 q7
        refine d_if_ne k31_103 (fun h103 => ?_) (fun h103 => ?_)
        · rw [b2i0, Bool.not_eq_false] at h103
          obtain ⟨p4, ef4⟩ := okB_t h103
          rw [ef4] at q7
          obtain ⟨h7, n7⟩ := q7
          have d7 := (d5.nx n6a).nx n7
          have s7 : F7 9 l 9 = nI (bS B) := by
            rw [d7.at (k := 9) (by decide), uF_k (by decide), uF_r, pk_un (by decide), uF_k (by decide)]
            exact c1
          have g7 : ∀ i, i < bS B → G7 10 l i = w32 ((bN B).1 i) := fun i hi => by
            rw [d7.2 10 (by decide), uG_k (by decide)]
            exact c8 i hi
          refine d_run 1 rfl ?_
          refine d_gR k31_109 (by first | assumption | exact lx2 _ | exact Nat.lt_of_lt_of_le (m := 2) hl (Nat.le_of_ble_eq_true rfl) | omega) ⟨rfl, rfl, rfl⟩ rfl ?_
          refine d_run 4 rfl ?_
          refine d_call 3 k31_116 (by omega) (Nat.le_of_ble_eq_true rfl) rfl (Nat.le_of_ble_eq_true rfl) (Nat.le_of_ble_eq_true rfl) (recv_ok rfl (by first | assumption | exact Nat.le_of_ble_eq_true rfl | omega)) rfl (c_numS hl (by omega) h7 s7 w1 g7 w3) rfl ?_
          rintro F8 G8 q8
          refine d_is (N := 6) (j := bP B) k31_119 (by first | assumption | exact lx2 _ | exact Nat.lt_of_lt_of_le (m := 2) hl (Nat.le_of_ble_eq_true rfl) | omega) ⟨rfl, rfl⟩ (show bP B < 6 by omega) rfl ?_
          refine d_run 1 rfl ?_
          refine d_gR k31_121 (by first | assumption | exact lx2 _ | exact Nat.lt_of_lt_of_le (m := 2) hl (Nat.le_of_ble_eq_true rfl) | omega) ⟨rfl, rfl, rfl⟩ rfl ?_
          refine d_run 1 rfl ?_
          refine d_ia (N := 6) (j := bP B) k31_125 (by decide) (by first | assumption | exact lx2 _ | exact Nat.lt_of_lt_of_le (m := 2) hl (Nat.le_of_ble_eq_true rfl) | omega) ⟨⟨rfl, rfl⟩, rfl, rfl⟩ (show bP B < 6 by omega) rfl ?_
          rw [uF_r, pk_us]
          refine d_run 1 rfl ?_
          refine d_ic_ne k31_127 (fun h127 => ?_) (fun h127 => ?_)
          · obtain ⟨a, ea⟩ : ∃ a, numH t p4 (fdS B (tW t p4)) = .inr a := by
              cases e : numH t p4 (fdS B (tW t p4)) with
              | inl f => rw [e] at h127; exact absurd rfl h127
              | inr a => exact ⟨a, rfl⟩
            rw [ea] at q8
            obtain ⟨rfl, rfl⟩ := q8
            rw [ea, show nmV (.inr a) = nI a from rfl]
            have h8b : CRd (uF F8 14 l (bP B) (nI a)) G8 t p4 := h7.u (by decide) (by decide)
            have d8 : D5 (uF (uF (uF (uF F 16 l (bP B) 0) 9 l 10 (nI (bP B + 1))) 13 l (bP B) (kdN t (tN t (tN t p)))) 14 l (bP B) (nI a)) (uG G 12 l (bP B) (w32 (tW t (tN t p)))) (uF F8 14 l (bP B) (nI a)) G8 := d7.u
            have f8 := f5.u (k := 14) (i := bP B) (v := nI a) (by decide)
            refine d_run 1 rfl ?_
            refine d_gR k31_133 (by first | assumption | exact Nat.le_of_ble_eq_true rfl | omega) ⟨rfl, rfl, rfl⟩ rfl ?_
            refine d_call 1 k31_136 (by omega) (Nat.le_of_ble_eq_true rfl) rfl (Nat.le_of_ble_eq_true rfl) (Nat.le_of_ble_eq_true rfl) (recv_ok rfl (by first | assumption | exact Nat.le_of_ble_eq_true rfl | omega)) rfl (c_nx (by omega) h8b) rfl ?_
            rintro F9 G9 ⟨h9a, n9a⟩
            refine d_run 1 rfl ?_
            refine d_gR k31_140 (by first | assumption | exact Nat.le_of_ble_eq_true rfl | omega) ⟨rfl, rfl, rfl⟩ rfl ?_
            refine d_run 1 rfl ?_
            refine d_call 2 k31_145 (by omega) (Nat.le_of_ble_eq_true rfl) rfl (Nat.le_of_ble_eq_true rfl) (Nat.le_of_ble_eq_true rfl) (recv_ok rfl (by first | assumption | exact Nat.le_of_ble_eq_true rfl | omega)) rfl (c_passW (n := 10) (by decide) (by decide) (by decide) (by omega) h9a) rfl ?_
            rintro F10 G10 q10
            refine d_if_eq k31_148 (fun h148 => ?_) (fun h148 => ?_)
            · rw [b2i0] at h148
              obtain ⟨f, ef⟩ := okB_f h148
              rw [ef] at q10
              rw [show sPerson t p B = .inl f by simp only [sPerson]; rw [if_neg (by omega), ef1]; simp only [bnd]; rw [if_neg h75, ef4]; simp only [bnd]; rw [ea]; simp only []; rw [ef]]
              refine d_run 1 rfl ?_
              refine d_ib k31_165 (by rfl) ?_
              first | exact ⟨q11.1, f8.tr (D5.fr (d10.ft q11))⟩ | exact ⟨q10.1, f8.tr (D5.fr ((d8.nx n9a).ft q10))⟩
            · rw [b2i0, Bool.not_eq_false] at h148
              obtain ⟨p6, ef6⟩ := okB_t h148
              rw [ef6] at q10
              obtain ⟨h10, n10⟩ := q10
              have d10 := (d8.nx n9a).nx n10
              refine d_run 1 rfl ?_
              refine d_gR k31_152 (by first | assumption | exact Nat.le_of_ble_eq_true rfl | omega) ⟨rfl, rfl, rfl⟩ rfl ?_
              refine d_run 2 rfl ?_
              refine d_call 3 k31_158 (by omega) (Nat.le_of_ble_eq_true rfl) rfl (Nat.le_of_ble_eq_true rfl) (Nat.le_of_ble_eq_true rfl) (recv_ok rfl (by first | assumption | exact Nat.le_of_ble_eq_true rfl | omega)) rfl (c_num (lo := 0) (hi := 99) (by decide) (by decide) (by omega) h10 (fun e => tV_le e)) rfl ?_
              rintro F11 G11 q11
              refine d_if_ne k31_161 (fun h161 => ?_) (fun h161 => ?_)
              · rw [b2i0, Bool.not_eq_false] at h161
                obtain ⟨p7, ef7⟩ := okB_t h161
                obtain ⟨rfl, hK, _⟩ := pNum_r ef7
                rw [ef7] at q11
                obtain ⟨h11, n11⟩ := q11
                have d11 := d10.nx n11
                rw [show sPerson t p B = .inr (tN t p7, addPn B (tW t (tN t p)) (kdN t (tN t (tN t p))) a (tV t p7)) by simp only [sPerson]; rw [if_neg (by omega), ef1]; simp only [bnd]; rw [if_neg h75, ef4]; simp only [bnd]; rw [ea]; simp only []; rw [ef6]; simp only []; rw [ef7]]
                refine d_run 1 rfl ?_
                refine d_gR k31_167 (by first | assumption | exact lx2 _ | exact Nat.lt_of_lt_of_le (m := 2) hl (Nat.le_of_ble_eq_true rfl) | omega) ⟨rfl, rfl, rfl⟩ rfl ?_
                refine d_run 2 rfl ?_
                refine d_gR k31_172 (by first | assumption | exact Nat.le_of_ble_eq_true rfl | omega) ⟨rfl, rfl, rfl⟩ rfl ?_
                refine d_gI k31_175 (by first | assumption | exact Nat.le_of_ble_eq_true rfl | omega) ⟨rfl, rfl, Or.inl rfl⟩ ?_
                rw [h11.2.2.2.2.2.2.1 hK]
                refine d_is (N := 6) (j := bP B) k31_178 (by first | assumption | exact lx2 _ | exact Nat.lt_of_lt_of_le (m := 2) hl (Nat.le_of_ble_eq_true rfl) | omega) ⟨rfl, rfl⟩ (show bP B < 6 by omega) rfl ?_
                have h12 : CRd (uF F11 15 l (bP B) (nI (tV t p7))) G11 t p7 := h11.u (by decide) (by decide)
                refine d_run 1 rfl ?_
                refine d_gR k31_180 (by first | assumption | exact Nat.le_of_ble_eq_true rfl | omega) ⟨rfl, rfl, rfl⟩ rfl ?_
                refine d_call 1 k31_183 (by omega) (Nat.le_of_ble_eq_true rfl) rfl (Nat.le_of_ble_eq_true rfl) (Nat.le_of_ble_eq_true rfl) (recv_ok rfl (by first | assumption | exact Nat.le_of_ble_eq_true rfl | omega)) rfl (c_nx (by omega) h12) rfl ?_
                rintro F13 G13 ⟨h13a, n13a⟩
                refine d_run 1 rfl ?_
                refine d_ib k31_187 (by rfl) ?_
                exact ⟨h13a, hB.addPn.d5 (d11.u.nx n13a), (f8.u (k := 15) (i := bP B) (v := nI (tV t p7)) (by decide)).tr (D5.fr (d11.u.nx n13a))⟩
              · rw [b2i0] at h161
                obtain ⟨f, ef⟩ := okB_f h161
                rw [ef] at q11
                rw [show sPerson t p B = .inl f by simp only [sPerson]; rw [if_neg (by omega), ef1]; simp only [bnd]; rw [if_neg h75, ef4]; simp only [bnd]; rw [ea]; simp only []; rw [ef6]; simp only []; rw [ef]]
                refine d_run 1 rfl ?_
                refine d_ib k31_165 (by rfl) ?_
                first | exact ⟨q11.1, f8.tr (D5.fr (d10.ft q11))⟩ | exact ⟨q10.1, f8.tr (D5.fr ((d8.nx n9a).ft q10))⟩
          · obtain ⟨f, ef⟩ : ∃ f, numH t p4 (fdS B (tW t p4)) = .inl f := by
              cases e : numH t p4 (fdS B (tW t p4)) with
              | inl f => exact ⟨f, rfl⟩
              | inr i =>
                rw [e] at h127
                have := fdS_lt hw (numH_r e).2
                exact absurd (show nI i < 0 by rw [show nI i = -1 from h127]; decide) (nn_nI (by omega))
            rw [ef] at q8
            rw [show sPerson t p B = .inl f by simp only [sPerson]; rw [if_neg (by omega), ef1]; simp only [bnd]; rw [if_neg h75, ef4]; simp only [bnd]; rw [ef]]
            refine d_run 1 rfl ?_
            refine d_ib k31_131 (by rfl) ?_
            exact ⟨by rw [uF_k (by decide)]; exact q8.1, (f5.tr (D5.fr (d7.ft q8))).u (by decide)⟩
        · rw [b2i0] at h103
          obtain ⟨f, ef⟩ := okB_f h103
          rw [ef] at q7
          rw [show sPerson t p B = .inl f by simp only [sPerson]; rw [if_neg (by omega), ef1]; simp only [bnd]; rw [if_neg h75, ef]]
          refine d_run 1 rfl ?_
          refine d_ib k31_107 (by rfl) ?_
          exact ⟨q7.1, f5.tr (D5.fr ((d5.nx n6a).ft q7))⟩
      · rw [show sPerson t p B = .inl (1 + 16 * tN t (tN t p)) by simp only [sPerson]; rw [if_neg (by omega), ef1]; simp only [bnd]; rw [if_pos h75]]
        refine d_run 1 rfl ?_
        refine d_gR k31_79 (by first | assumption | exact Nat.le_of_ble_eq_true rfl | omega) ⟨rfl, rfl, rfl⟩ rfl ?_
        refine d_run 1 rfl ?_
        refine d_callT 2 k31_83 (by omega) (Nat.le_of_ble_eq_true rfl) rfl (Nat.le_of_ble_eq_true rfl) (Nat.le_of_ble_eq_true rfl) (recv_ok rfl (by first | assumption | exact Nat.le_of_ble_eq_true rfl | omega)) rfl (c_refuse (c := 1) h5) rfl ?_
        refine d_ib k31_86 (by rfl) ?_
        exact ⟨by rw [uF_r, pk_us], f5.tr (D5.fr (d5.ft (CFt.of (f := 1 + 16 * tN t (tN t p)) CNx.rf)))⟩
    · rw [b2i0] at h32
      obtain ⟨f, ef⟩ := okB_f h32
      rw [ef] at q2
      rw [show sPerson t p B = .inl f by simp only [sPerson]; rw [if_neg (by omega), ef]; rfl]
      refine d_run 1 rfl ?_
      refine d_ib k31_36 (by rfl) ?_
      exact ⟨q2.1, D5.fr ((D5.rf.nx n1a).ft q2)⟩
  · have h8 := le_nI (a := 6) (b := bP B) h8 rfl (by omega) (by omega)
    rw [show sPerson t p B = .inl (5 + 16 * p) by simp only [sPerson]; rw [if_pos h8]]
    refine d_run 1 rfl ?_
    refine d_gR k31_12 (by first | assumption | exact Nat.le_of_ble_eq_true rfl | omega) ⟨rfl, rfl, rfl⟩ rfl ?_
    refine d_run 1 rfl ?_
    refine d_callT 2 k31_16 (by omega) (Nat.le_of_ble_eq_true rfl) rfl (Nat.le_of_ble_eq_true rfl) (Nat.le_of_ble_eq_true rfl) (recv_ok rfl (by first | assumption | exact Nat.le_of_ble_eq_true rfl | omega)) rfl (c_refuse (c := 5) h) rfl ?_
    refine d_ib k31_19 (by rfl) ?_
    exact ⟨by rw [uF_r, pk_us], D5.fr (D5.rf.ft (CFt.of (f := 5 + 16 * p) CNx.rf))⟩
end T4
