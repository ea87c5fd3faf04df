/-! THE REFERENCE READS A WEEK -/
def d65 (k : Nat) : Bool := decide (k = 40) || (decide (65 ≤ k) && decide (k ≤ 68))
def MFq (F : FT) (G : GT) (F2 : FT) (G2 : GT) : Prop := (∀ i, (i ≠ 4 ∧ i ≠ 5 ∧ i ≠ 6 ∧ i ≠ 8 ∧ i ≠ 9 ∧ i ≠ 35 ∧ i ≠ 37) → F2 40 0 i = F 40 0 i) ∧ FrK d65 F F2 ∧ (∀ i, i ≠ 5 → F2 65 0 i = F 65 0 i) ∧ (∀ k i, 66 ≤ k → k ≤ 68 → i < 200 → F2 k 0 i = F k 0 i) ∧ (∀ k, k ≠ 40 → G2 k = G k) ∧ ∀ j, j ≠ 7 → j ≠ 36 → G2 40 0 j = G 40 0 j
theorem MFq.rf {F : FT} {G : GT} : MFq F G F G := ⟨fun _ _ => rfl, FrK.rf, fun _ _ => rfl, fun _ _ _ _ _ => rfl, fun _ _ => rfl, fun _ _ _ => rfl⟩
theorem MFq.tr {F F1 F2 : FT} {G G1 G2 : GT} (h : MFq F G F1 G1) (h2 : MFq F1 G1 F2 G2) : MFq F G F2 G2 := ⟨fun i a => (h2.1 i a).trans (h.1 i a), h.2.1.tr h2.2.1, fun i a => (h2.2.2.1 i a).trans (h.2.2.1 i a), fun k i a c e => (h2.2.2.2.1 k i a c e).trans (h.2.2.2.1 k i a c e), fun k a => (h2.2.2.2.2.1 k a).trans (h.2.2.2.2.1 k a), fun k a c => (h2.2.2.2.2.2 k a c).trans (h.2.2.2.2.2 k a c)⟩
theorem MFq.u {F F1 : FT} {G G1 : GT} {k i : Nat} {v : Int32} (h : MFq F G F1 G1) (hi : (k = 40 ∧ (i = 9 ∨ i = 35 ∨ i = 37)) ∨ (k = 65 ∧ i = 5) ∨ (66 ≤ k ∧ k ≤ 68 ∧ 200 ≤ i)) : MFq F G (uF F1 k 0 i v) G1 := h.tr ⟨fun j a => uF_q (by omega), FrK.rf.u (by simp only [d65, Bool.or_eq_true, Bool.and_eq_true, decide_eq_true_eq]; omega), fun j a => uF_q (by omega), fun j a _ _ _ => uF_q (by omega), fun _ _ => rfl, fun _ _ _ => rfl⟩
theorem MQf.wk {F F2 : FT} {G G2 : GT} (h : MQf F G F2 G2) : MFq F G F2 G2 := ⟨h.1, h.2.1.mo (fun k e => by
  simp only [d65, Bool.or_eq_false_iff] at e
  exact e.1), fun i _ => by rw [h.2.1 65 rfl], fun k i a c _ => by rw [h.2.1 k (d40_f (by omega))], h.2.2.1, h.2.2.2⟩
theorem MW.q {F F2 : FT} {G G2 : GT} {n : Nat} {w : WK} (h : MW F n w) (q : MQf F G F2 G2) : MW F2 n w := h.fr (fun k a c => q.2.1 k (d40_f (by omega)))
theorem MW.ex {F : FT} {w : WK} {v : Int32} (h : MW F 5 w) : MW (uF F 66 0 (200 + w.1) v) 5 w := by
  obtain ⟨a1, a2, a3⟩ := h
  refine ⟨by rw [uF_q (by omega)]; exact a1, a2, fun i hi => ?_⟩
  rw [uF_q (by omega), uF_q (by omega), uF_q (by omega)]
  exact a3 i hi
theorem MW.ad {F : FT} {w : WK} {v a c a2 c2 : Int32} (h : MW F 5 w) (h40 : w.1 < 40) (hv : F 66 0 (200 + w.1) = v) (ha : (v = 0 ∨ v = 1 ∨ v = 2) → a = a2) (hc : (v = 0 ∨ v = 1) → c = c2) : MW (uF (uF (uF F 67 0 (200 + w.1) a) 68 0 (200 + w.1) c) 65 0 5 (nI (w.1 + 1))) 5 (addW w v a2 c2) := by
  obtain ⟨a1, _, a3⟩ := h
  refine ⟨uF_e, by show w.1 + 1 ≤ 40; omega, fun i hi => ?_⟩
  have hi : i < w.1 + 1 := hi
  rw [uF_q (by omega), uF_q (by omega), uF_q (by omega), uF_q (by omega), uF_q (k2 := 68) (by omega)]
  by_cases e : i = w.1
  · subst e
    rw [uF_q (i2 := 40 * 5 + w.1) (k2 := 67) (by omega)]
    rw [show 40 * 5 + w.1 = 200 + w.1 by omega, uF_e, uF_e, hv]
    simp only [addW, if_true]
    exact ⟨trivial, ha, hc⟩
  · rw [uF_q (k2 := 67) (by omega), uF_q (k2 := 67) (by omega), uF_q (k2 := 68) (by omega)]
    simp only [addW, if_neg e]
    exact a3 i (by omega)
def MHN (F : FT) (G : GT) (A : LA) (nm : NMs) : Prop := F 42 0 0 = nI (lS A) ∧ F 42 0 1 = nI (lP A) ∧ (∀ i, i < lS A → G 43 0 (5 * 0 + i) = w27 (nm.1 i)) ∧ ∀ i, i < lP A → G 44 0 (6 * 0 + i) = w27 (nm.2 i)
theorem MHN.fr {F F2 : FT} {G G2 : GT} {A : LA} {nm : NMs} (h : MHN F G A nm) (h42 : F2 42 = F 42) (hG : ∀ k, k ≠ 40 → G2 k = G k) : MHN F2 G2 A nm := by
  unfold MHN
  rw [h42, hG 43 (by decide), hG 44 (by decide)]
  exact h
theorem MHN.q {F F2 : FT} {G G2 : GT} {A : LA} {nm : NMs} (h : MHN F G A nm) (q : MQf F G F2 G2) : MHN F2 G2 A nm := h.fr (q.2.1 42 rfl) q.2.2.1
def oW (t : TP) (r : Nat ⊕ (Nat × WK)) : Nat ⊕ (Nat × WK) := bnd r (fun q => bnd (pSign t q.1 59) (fun p2 => .inr (p2, q.2)))
def MWo (t : TP) (F : FT) (G : GT) (r : Nat ⊕ (Nat × WK)) (F2 : FT) (G2 : GT) : Prop := MFq F G F2 G2 ∧ match r with
  | .inl f => F2 40 0 9 = nI f
  | .inr q => MRd F2 G2 t q.1 ∧ MW F2 5 q.2
theorem oW_ok {t : TP} {q : Nat} {w : WK} : okB (oW t (.inr (q, w))) = okB (pSign t q 59) := by
  show okB (bnd (pSign t q 59) _) = _
  cases pSign t q 59 <;> rfl
theorem MWo.f {t : TP} {F F1 : FT} {G G1 : GT} {f : Nat} (fr : MFq F G F1 G1) : MWo t F G (.inl f) (uF F1 40 0 9 (nI f)) G1 := ⟨fr.u (by omega), uF_e⟩
theorem MWo.cl {t : TP} {F F1 F2 : FT} {G G1 G2 : GT} {q : Nat} {w : WK} (fr : MFq F G F1 G1) (hB : MW F1 5 w) (ho : MOut t F1 G1 (pSign t q 59) F2 G2) : MWo t F G (oW t (.inr (q, w))) F2 G2 := by
  have h1 := fr.tr ho.q.wk
  have h2 := hB.q ho.q
  obtain ⟨_, ho⟩ := ho
  show MWo t F G (bnd (pSign t q 59) _) F2 G2
  cases e : pSign t q 59 with
  | inl f => rw [e] at ho; exact ⟨h1, ho⟩
  | inr p2 => rw [e] at ho; exact ⟨h1, ho.1, h2⟩
section TJ
variable {E : EV} {d x p n : Nat} {F F0 : FT} {G G0 : GT} {b : Bool} {t : TP} {o : SG} {u v : Int32} {A : LA} {nm : NMs} {w : WK}
theorem m_line_no (hd : 10 ≤ d) (hH : MHN F G A nm) (hS : lS A ≤ 5) (hP : lP A ≤ 6) (hn : wfN A nm) (hW : MW F 5 w) (h : MRd F G t p) (hv : verbN t p = -1) : Td E d 169 57 [some (vr 40 0), none, none] [vi (-1)] x F G b (some (vi (b2i (okB (oW t (stW t p A nm w)))))) (MWo t F G (oW t (stW t p A nm w))) := by
  rw [show stW t p A nm w = .inl (1 + 16 * p) by unfold stW; rw [if_pos hv]]
  refine d_run 2 rfl ?_
  refine d_if_ge k169_59 (fun h59 => ?_) (fun h59 => ?_)
  · exact absurd h59 (by decide)
  · refine d_run 2 rfl ?_
    refine d_callT 2 k169_64 (by omega) (Nat.le_of_ble_eq_true rfl) rfl (Nat.le_of_ble_eq_true rfl) (Nat.le_of_ble_eq_true rfl) (recv_ok rfl (by first | assumption | exact Nat.le_of_ble_eq_true rfl | omega)) rfl (m_fails (c := 1) h) rfl ?_
    refine d_ib k169_67 (by rfl) ?_
    exact MWo.f MFq.rf
theorem m_line0 (hd : 10 ≤ d) (hH : MHN F G A nm) (hS : lS A ≤ 5) (hP : lP A ≤ 6) (hn : wfN A nm) (hW : MW F 5 w) (h : MRd F G t p) (hv : verbN t p = 0) : Td E d 169 57 [some (vr 40 0), none, none] [vi 0] x F G b (some (vi (b2i (okB (oW t (stW t p A nm w)))))) (MWo t F G (oW t (stW t p A nm w))) := by
  have h40 := hW.2.1
  have hvn : ¬ verbN t p = -1 := by rw [hv]; decide
  refine d_run 2 rfl ?_
  refine d_if_ge k169_59 (fun h59 => ?_) (fun h59 => ?_)
  · refine d_run 1 rfl ?_
    refine d_gR k169_69 (by first | assumption | exact Nat.le_of_ble_eq_true rfl | omega) ⟨rfl, rfl, rfl⟩ rfl ?_
    refine d_run 1 rfl ?_
    refine d_ia (N := 6) (j := 5) k169_73 (by decide) (by first | assumption | exact Nat.le_of_ble_eq_true rfl | omega) ⟨⟨rfl, rfl⟩, rfl, rfl⟩ (by decide) rfl ?_
    rw [hW.1]
    refine d_run 1 rfl ?_
    refine d_ic_ne k169_76 (fun h76 => ?_) (fun h76 => ?_)
    · have e76 : ¬ 40 ≤ w.1 := fun e => h76 (by rw [show w.1 = 40 by omega]; rfl)
      rw [show stW t p A nm w = bnd (numH t (tN t p) (fwP A nm (tW t (tN t p)))) (fun a => bnd (numH t (tN t (tN t p)) (fwS A nm (tW t (tN t (tN t p))))) (fun c => .inr (tN t (tN t (tN t p)), addW w 0 (nI a) (nI c)))) by unfold stW; rw [if_neg hvn, if_neg e76, if_neg (by rw [hv]; decide)]; congr 1; funext a; rw [if_neg (by rw [hv]; decide), if_pos hv]]
      refine d_run 1 rfl ?_
      refine d_call 1 k169_86 (by omega) (Nat.le_of_ble_eq_true rfl) rfl (Nat.le_of_ble_eq_true rfl) (Nat.le_of_ble_eq_true rfl) (recv_ok rfl (by first | assumption | exact Nat.le_of_ble_eq_true rfl | omega)) rfl (m_nx (by omega) h) rfl ?_
      rintro F1 G1 ⟨r1, n1⟩
      have w1 := hW.q n1.q
      have hH1 := hH.q n1.q
      refine d_run 2 rfl ?_
      refine d_gR k169_93 (by first | assumption | exact Nat.le_of_ble_eq_true rfl | omega) ⟨rfl, rfl, rfl⟩ rfl ?_
      refine d_run 1 rfl ?_
      refine d_ia (N := 6) (j := 5) k169_97 (by decide) (by first | assumption | exact Nat.le_of_ble_eq_true rfl | omega) ⟨⟨rfl, rfl⟩, rfl, rfl⟩ (by decide) rfl ?_
      rw [w1.1]
      refine d_run 3 rfl ?_
      refine d_gR k169_101 (by first | assumption | exact Nat.le_of_ble_eq_true rfl | omega) ⟨rfl, rfl, rfl⟩ rfl ?_
      refine d_run 2 rfl ?_
      refine d_is (N := 240) (j := 200 + w.1) k169_106 (by first | assumption | exact Nat.le_of_ble_eq_true rfl | omega) ⟨rfl, rfl⟩ (show 200 + w.1 < 240 by omega) (nI_add 200 _) ?_
      have w2 := w1.ex (v := 0)
      have r2 : MRd (uF F1 66 0 (200 + w.1) 0) G1 t (tN t p) := r1.k (by decide) (by decide)
      have f2 : MFq F G (uF F1 66 0 (200 + w.1) 0) G1 := n1.q.wk.u (by omega)
      have hH2 : MHN (uF F1 66 0 (200 + w.1) 0) G1 A nm := hH1.fr (uF_k (by decide)) (fun _ _ => rfl)
      have e66 : uF F1 66 0 (200 + w.1) 0 66 0 (200 + w.1) = 0 := uF_e
      refine d_run 1 rfl ?_
      refine d_if_ne k169_108 (fun h108 => ?_) (fun h108 => ?_)
      · first | exact absurd h108 (by decide) | exact absurd rfl h108
      · refine d_run 2 rfl ?_
        refine d_call 2 k169_113 (by omega) (Nat.le_of_ble_eq_true rfl) rfl (Nat.le_of_ble_eq_true rfl) (Nat.le_of_ble_eq_true rfl) (recv_ok rfl (by first | assumption | exact Nat.le_of_ble_eq_true rfl | omega)) rfl (m_needP (S := lP A) (r := 0) (nm := nm.2) (by omega) (by decide) hH2.2.1 hP hH2.2.2.2 hn.2 r2) rfl ?_
        rintro F3 G3 n3
        have k3 := n3.q
        have r3 := n3.1
        have z3 := n3.2.2.2.2
        refine d_if_ne k169_116 (fun h116 => ?_) (fun h116 => ?_)
        · unfold fwP
          rw [b2i0, Bool.not_eq_false] at h116
          obtain ⟨a, ea⟩ := okB_t h116
          rw [ea] at z3 ⊢
          rw [bnd_i]
          have z3 : F3 40 0 35 = nI a := z3
          refine d_run 2 rfl ?_
          refine d_gI k169_123 (by first | assumption | exact Nat.le_of_ble_eq_true rfl | omega) ⟨rfl, rfl, Or.inl rfl⟩ ?_
          rw [z3]
          refine d_pI k169_126 (by first | assumption | exact Nat.le_of_ble_eq_true rfl | omega) ⟨rfl, rfl⟩ ?_
          refine d_run 1 rfl ?_
          refine d_call 1 k169_130 (by omega) (Nat.le_of_ble_eq_true rfl) rfl (Nat.le_of_ble_eq_true rfl) (Nat.le_of_ble_eq_true rfl) (recv_ok rfl (by first | assumption | exact Nat.le_of_ble_eq_true rfl | omega)) rfl (m_nx (by omega) (r3.u (by omega))) rfl ?_
          rintro F4 G4 ⟨r4, n4⟩
          have k4 := (k3.tr (MQf.u (i := 37) (v := nI a) (by omega))).tr n4.q
          have s37 : F4 40 0 37 = nI a := by rw [n4.1 37 (by decide) (by decide) (by decide) (by decide), uF_e]
          have hH4 := hH2.q k4
          refine d_run 2 rfl ?_
          refine d_call 2 k169_135 (by omega) (Nat.le_of_ble_eq_true rfl) rfl (Nat.le_of_ble_eq_true rfl) (Nat.le_of_ble_eq_true rfl) (recv_ok rfl (by first | assumption | exact Nat.le_of_ble_eq_true rfl | omega)) rfl (m_needS (S := lS A) (r := 0) (nm := nm.1) (by omega) (by decide) hH4.1 hS hH4.2.2.1 hn.1 r4) rfl ?_
          rintro F5 G5 n5
          have k5 := k4.tr n5.q
          have r5 := n5.1
          have z5 := n5.2.2.2.2
          refine d_if_ne k169_138 (fun h138 => ?_) (fun h138 => ?_)
          · unfold fwS
            rw [b2i0, Bool.not_eq_false] at h138
            obtain ⟨c, ec⟩ := okB_t h138
            rw [ec] at z5 ⊢
            rw [bnd_i]
            have z5 : F5 40 0 35 = nI c := z5
            have t37 : F5 40 0 37 = nI a := by rw [n5.2.1 37 (by decide) (by decide)]; exact s37
            refine d_run 1 rfl ?_
            refine d_call 1 k169_144 (by omega) (Nat.le_of_ble_eq_true rfl) rfl (Nat.le_of_ble_eq_true rfl) (Nat.le_of_ble_eq_true rfl) (recv_ok rfl (by first | assumption | exact Nat.le_of_ble_eq_true rfl | omega)) rfl (m_nx (by omega) r5) rfl ?_
            rintro F6 G6 ⟨r6, n6⟩
            have k6 := k5.tr n6.q
            have x37 : F6 40 0 37 = nI a := by rw [n6.1 37 (by decide) (by decide) (by decide) (by decide)]; exact t37
            have x35 : F6 40 0 35 = nI c := by rw [n6.1 35 (by decide) (by decide) (by decide) (by decide)]; exact z5
            refine d_run 2 rfl ?_
            refine d_gR k169_201 (by first | assumption | exact Nat.le_of_ble_eq_true rfl | omega) ⟨rfl, rfl, rfl⟩ rfl ?_
            refine d_run 2 rfl ?_
            refine d_gI k169_206 (by first | assumption | exact Nat.le_of_ble_eq_true rfl | omega) ⟨rfl, rfl, Or.inl rfl⟩ ?_
            rw [x37]
            refine d_is (N := 240) (j := 200 + w.1) k169_209 (by first | assumption | exact Nat.le_of_ble_eq_true rfl | omega) ⟨rfl, rfl⟩ (show 200 + w.1 < 240 by omega) (nI_add 200 _) ?_
            refine d_run 1 rfl ?_
            refine d_gR k169_211 (by first | assumption | exact Nat.le_of_ble_eq_true rfl | omega) ⟨rfl, rfl, rfl⟩ rfl ?_
            refine d_run 2 rfl ?_
            refine d_gI k169_216 (by first | assumption | exact Nat.le_of_ble_eq_true rfl | omega) ⟨rfl, rfl, Or.inl rfl⟩ ?_
            rw [uF_k (by decide), x35]
            refine d_is (N := 240) (j := 200 + w.1) k169_219 (by first | assumption | exact Nat.le_of_ble_eq_true rfl | omega) ⟨rfl, rfl⟩ (show 200 + w.1 < 240 by omega) (nI_add 200 _) ?_
            refine d_run 1 rfl ?_
            refine d_gR k169_221 (by first | assumption | exact Nat.le_of_ble_eq_true rfl | omega) ⟨rfl, rfl, rfl⟩ rfl ?_
            refine d_run 2 rfl ?_
            refine d_ia (N := 6) (j := 5) k169_226 (by decide) (by first | assumption | exact Nat.le_of_ble_eq_true rfl | omega) ⟨⟨rfl, rfl⟩, rfl, rfl⟩ (by decide) rfl ?_
            rw [uF_k (by decide), uF_k (by decide), ((w2.q k6)).1]
            refine d_run 2 rfl ?_
            rw [show ibop 0 (nI w.1) 1 = nI (w.1 + 1) from nI_1 _]
            refine d_is (N := 6) (j := 5) k169_229 (by first | assumption | exact Nat.le_of_ble_eq_true rfl | omega) ⟨rfl, rfl⟩ (by decide) rfl ?_
            refine d_run 1 rfl ?_
            refine d_call 1 k169_231 (by omega) (Nat.le_of_ble_eq_true rfl) rfl (Nat.le_of_ble_eq_true rfl) (Nat.le_of_ble_eq_true rfl) (recv_ok rfl (by first | assumption | exact Nat.le_of_ble_eq_true rfl | omega)) rfl (m_closes (by omega) (((r6.k (by decide) (by decide)).k (by decide) (by decide)).k (by decide) (by decide))) rfl ?_
            rintro F8 G8 o8
            refine d_ib k169_234 (by rw [oW_ok]) ?_
            exact MWo.cl ((((f2.tr k6.wk).u (by omega)).u (by omega)).u (by omega)) (((w2.q k6)).ad (by omega) (show F6 66 0 (200 + w.1) = 0 by rw [k6.2.1 66 rfl]; exact e66) (fun _ => rfl) (fun _ => rfl)) o8
          · unfold fwS
            rw [b2i0] at h138
            obtain ⟨f, ef⟩ := okB_f h138
            rw [ef] at z5 ⊢
            rw [bnd_e]
            refine d_run 1 rfl ?_
            refine d_ib k169_142 (by rfl) ?_
            exact ⟨f2.tr k5.wk, z5⟩
        · have z3 := z3
          unfold fwP
          rw [b2i0] at h116
          obtain ⟨f, ef⟩ := okB_f h116
          rw [ef] at z3 ⊢
          rw [bnd_e]
          refine d_run 1 rfl ?_
          refine d_ib k169_120 (by rfl) ?_
          exact ⟨f2.tr k3.wk, z3⟩
    · have e76 : w.1 = 40 := nI_inj (b := 40) h76 (by omega) (by omega)
      rw [show stW t p A nm w = .inl (5 + 16 * p) by unfold stW; rw [if_neg hvn, if_pos (by omega)]]
      refine d_run 2 rfl ?_
      refine d_callT 2 k169_81 (by omega) (Nat.le_of_ble_eq_true rfl) rfl (Nat.le_of_ble_eq_true rfl) (Nat.le_of_ble_eq_true rfl) (recv_ok rfl (by first | assumption | exact Nat.le_of_ble_eq_true rfl | omega)) rfl (m_fails (c := 5) h) rfl ?_
      refine d_ib k169_84 (by rfl) ?_
      exact MWo.f MFq.rf
  · exact absurd (by decide) h59
theorem m_line1 (hd : 10 ≤ d) (hH : MHN F G A nm) (hS : lS A ≤ 5) (hP : lP A ≤ 6) (hn : wfN A nm) (hW : MW F 5 w) (h : MRd F G t p) (hv : verbN t p = 1) : Td E d 169 57 [some (vr 40 0), none, none] [vi 1] x F G b (some (vi (b2i (okB (oW t (stW t p A nm w)))))) (MWo t F G (oW t (stW t p A nm w))) := by
  have h40 := hW.2.1
  have hvn : ¬ verbN t p = -1 := by rw [hv]; decide
  refine d_run 2 rfl ?_
  refine d_if_ge k169_59 (fun h59 => ?_) (fun h59 => ?_)
  · refine d_run 1 rfl ?_
    refine d_gR k169_69 (by first | assumption | exact Nat.le_of_ble_eq_true rfl | omega) ⟨rfl, rfl, rfl⟩ rfl ?_
    refine d_run 1 rfl ?_
    refine d_ia (N := 6) (j := 5) k169_73 (by decide) (by first | assumption | exact Nat.le_of_ble_eq_true rfl | omega) ⟨⟨rfl, rfl⟩, rfl, rfl⟩ (by decide) rfl ?_
    rw [hW.1]
    refine d_run 1 rfl ?_
    refine d_ic_ne k169_76 (fun h76 => ?_) (fun h76 => ?_)
    · have e76 : ¬ 40 ≤ w.1 := fun e => h76 (by rw [show w.1 = 40 by omega]; rfl)
      have eT : stW t p A nm w = bnd (tw t (tN t p) (lP A) nm.2) (fun q => .inr (tN t (tN t (tN t p)), addW w 1 (nI q.1) (nI q.2))) := by
        unfold stW tw
        rw [if_neg hvn, if_neg e76, if_neg (by rw [hv]; decide)]
        simp only [fwP]
        cases numH t (tN t p) (findN nm.2 (tW t (tN t p)) 0 (lP A)) with
        | inl f => rfl
        | inr a =>
          simp only [bnd]
          rw [if_neg (by rw [hv]; decide), if_neg (by rw [hv]; decide)]
          cases numH t (tN t (tN t p)) (findN nm.2 (tW t (tN t (tN t p))) 0 (lP A)) with
          | inl f => rfl
          | inr c =>
            simp only []
            by_cases e : a = c
            · simp [e]
            · simp [e]
      rw [eT]
      refine d_run 1 rfl ?_
      refine d_call 1 k169_86 (by omega) (Nat.le_of_ble_eq_true rfl) rfl (Nat.le_of_ble_eq_true rfl) (Nat.le_of_ble_eq_true rfl) (recv_ok rfl (by first | assumption | exact Nat.le_of_ble_eq_true rfl | omega)) rfl (m_nx (by omega) h) rfl ?_
      rintro F1 G1 ⟨r1, n1⟩
      have w1 := hW.q n1.q
      have hH1 := hH.q n1.q
      refine d_run 2 rfl ?_
      refine d_gR k169_93 (by first | assumption | exact Nat.le_of_ble_eq_true rfl | omega) ⟨rfl, rfl, rfl⟩ rfl ?_
      refine d_run 1 rfl ?_
      refine d_ia (N := 6) (j := 5) k169_97 (by decide) (by first | assumption | exact Nat.le_of_ble_eq_true rfl | omega) ⟨⟨rfl, rfl⟩, rfl, rfl⟩ (by decide) rfl ?_
      rw [w1.1]
      refine d_run 3 rfl ?_
      refine d_gR k169_101 (by first | assumption | exact Nat.le_of_ble_eq_true rfl | omega) ⟨rfl, rfl, rfl⟩ rfl ?_
      refine d_run 2 rfl ?_
      refine d_is (N := 240) (j := 200 + w.1) k169_106 (by first | assumption | exact Nat.le_of_ble_eq_true rfl | omega) ⟨rfl, rfl⟩ (show 200 + w.1 < 240 by omega) (nI_add 200 _) ?_
      have w2 := w1.ex (v := 1)
      have r2 : MRd (uF F1 66 0 (200 + w.1) 1) G1 t (tN t p) := r1.k (by decide) (by decide)
      have f2 : MFq F G (uF F1 66 0 (200 + w.1) 1) G1 := n1.q.wk.u (by omega)
      have hH2 : MHN (uF F1 66 0 (200 + w.1) 1) G1 A nm := hH1.fr (uF_k (by decide)) (fun _ _ => rfl)
      have e66 : uF F1 66 0 (200 + w.1) 1 66 0 (200 + w.1) = 1 := uF_e
      refine d_run 1 rfl ?_
      refine d_if_ne k169_108 (fun h108 => ?_) (fun h108 => ?_)
      · refine d_run 2 rfl ?_
        refine d_ic_ne k169_152 (fun h152 => ?_) (fun h152 => ?_)
        · first | exact absurd h152 (by decide) | exact absurd rfl h152
        · refine d_run 3 rfl ?_
          refine d_call 3 k169_158 (by omega) (Nat.le_of_ble_eq_true rfl) rfl (Nat.le_of_ble_eq_true rfl) (Nat.le_of_ble_eq_true rfl) (recv_ok rfl (by first | assumption | exact Nat.le_of_ble_eq_true rfl | omega)) rfl (m_twoP (S := lP A) (r := 0) (nm := nm.2) (by omega) (by decide) hH2.2.1 hP hH2.2.2.2 hn.2 r2) rfl ?_
          rintro F3 G3 ⟨k3, z3⟩
          refine d_if_ne k169_161 (fun h161 => ?_) (fun h161 => ?_)
          · rw [b2i0, Bool.not_eq_false] at h161
            obtain ⟨⟨a, c⟩, ea⟩ := okB_t h161
            rw [ea] at z3 ⊢
            rw [bnd_i]
            obtain ⟨r3, t37, t35⟩ := z3
            have t37 : F3 40 0 37 = nI a := t37
            have t35 : F3 40 0 35 = nI c := t35
            refine d_run 1 rfl ?_
            refine d_call 1 k169_167 (by omega) (Nat.le_of_ble_eq_true rfl) rfl (Nat.le_of_ble_eq_true rfl) (Nat.le_of_ble_eq_true rfl) (recv_ok rfl (by first | assumption | exact Nat.le_of_ble_eq_true rfl | omega)) rfl (m_nx (by omega) r3) rfl ?_
            rintro F6 G6 ⟨r6, n6⟩
            have k6 := k3.tr n6.q
            have x37 : F6 40 0 37 = nI a := by rw [n6.1 37 (by decide) (by decide) (by decide) (by decide)]; exact t37
            have x35 : F6 40 0 35 = nI c := by rw [n6.1 35 (by decide) (by decide) (by decide) (by decide)]; exact t35
            refine d_run 2 rfl ?_
            refine d_gR k169_201 (by first | assumption | exact Nat.le_of_ble_eq_true rfl | omega) ⟨rfl, rfl, rfl⟩ rfl ?_
            refine d_run 2 rfl ?_
            refine d_gI k169_206 (by first | assumption | exact Nat.le_of_ble_eq_true rfl | omega) ⟨rfl, rfl, Or.inl rfl⟩ ?_
            rw [x37]
            refine d_is (N := 240) (j := 200 + w.1) k169_209 (by first | assumption | exact Nat.le_of_ble_eq_true rfl | omega) ⟨rfl, rfl⟩ (show 200 + w.1 < 240 by omega) (nI_add 200 _) ?_
            refine d_run 1 rfl ?_
            refine d_gR k169_211 (by first | assumption | exact Nat.le_of_ble_eq_true rfl | omega) ⟨rfl, rfl, rfl⟩ rfl ?_
            refine d_run 2 rfl ?_
            refine d_gI k169_216 (by first | assumption | exact Nat.le_of_ble_eq_true rfl | omega) ⟨rfl, rfl, Or.inl rfl⟩ ?_
            rw [uF_k (by decide), x35]
            refine d_is (N := 240) (j := 200 + w.1) k169_219 (by first | assumption | exact Nat.le_of_ble_eq_true rfl | omega) ⟨rfl, rfl⟩ (show 200 + w.1 < 240 by omega) (nI_add 200 _) ?_
            refine d_run 1 rfl ?_
            refine d_gR k169_221 (by first | assumption | exact Nat.le_of_ble_eq_true rfl | omega) ⟨rfl, rfl, rfl⟩ rfl ?_
            refine d_run 2 rfl ?_
            refine d_ia (N := 6) (j := 5) k169_226 (by decide) (by first | assumption | exact Nat.le_of_ble_eq_true rfl | omega) ⟨⟨rfl, rfl⟩, rfl, rfl⟩ (by decide) rfl ?_
            rw [uF_k (by decide), uF_k (by decide), ((w2.q k6)).1]
            refine d_run 2 rfl ?_
            rw [show ibop 0 (nI w.1) 1 = nI (w.1 + 1) from nI_1 _]
            refine d_is (N := 6) (j := 5) k169_229 (by first | assumption | exact Nat.le_of_ble_eq_true rfl | omega) ⟨rfl, rfl⟩ (by decide) rfl ?_
            refine d_run 1 rfl ?_
            refine d_call 1 k169_231 (by omega) (Nat.le_of_ble_eq_true rfl) rfl (Nat.le_of_ble_eq_true rfl) (Nat.le_of_ble_eq_true rfl) (recv_ok rfl (by first | assumption | exact Nat.le_of_ble_eq_true rfl | omega)) rfl (m_closes (by omega) (((r6.k (by decide) (by decide)).k (by decide) (by decide)).k (by decide) (by decide))) rfl ?_
            rintro F8 G8 o8
            refine d_ib k169_234 (by rw [oW_ok]) ?_
            exact MWo.cl ((((f2.tr k6.wk).u (by omega)).u (by omega)).u (by omega)) (((w2.q k6)).ad (by omega) (show F6 66 0 (200 + w.1) = 1 by rw [k6.2.1 66 rfl]; exact e66) (fun _ => rfl) (fun _ => rfl)) o8
          · rw [b2i0] at h161
            obtain ⟨f, ef⟩ := okB_f h161
            rw [ef] at z3 ⊢
            rw [bnd_e]
            refine d_run 1 rfl ?_
            refine d_ib k169_165 (by rfl) ?_
            exact ⟨f2.tr k3.wk, z3⟩
      · first | exact absurd h108 (by decide) | exact absurd rfl h108
    · have e76 : w.1 = 40 := nI_inj (b := 40) h76 (by omega) (by omega)
      rw [show stW t p A nm w = .inl (5 + 16 * p) by unfold stW; rw [if_neg hvn, if_pos (by omega)]]
      refine d_run 2 rfl ?_
      refine d_callT 2 k169_81 (by omega) (Nat.le_of_ble_eq_true rfl) rfl (Nat.le_of_ble_eq_true rfl) (Nat.le_of_ble_eq_true rfl) (recv_ok rfl (by first | assumption | exact Nat.le_of_ble_eq_true rfl | omega)) rfl (m_fails (c := 5) h) rfl ?_
      refine d_ib k169_84 (by rfl) ?_
      exact MWo.f MFq.rf
  · exact absurd (by decide) h59
theorem m_line2 (hd : 10 ≤ d) (hH : MHN F G A nm) (hS : lS A ≤ 5) (hP : lP A ≤ 6) (hn : wfN A nm) (hW : MW F 5 w) (h : MRd F G t p) (hv : verbN t p = 2) : Td E d 169 57 [some (vr 40 0), none, none] [vi 2] x F G b (some (vi (b2i (okB (oW t (stW t p A nm w)))))) (MWo t F G (oW t (stW t p A nm w))) := by
  have h40 := hW.2.1
  have hvn : ¬ verbN t p = -1 := by rw [hv]; decide
  refine d_run 2 rfl ?_
  refine d_if_ge k169_59 (fun h59 => ?_) (fun h59 => ?_)
  · refine d_run 1 rfl ?_
    refine d_gR k169_69 (by first | assumption | exact Nat.le_of_ble_eq_true rfl | omega) ⟨rfl, rfl, rfl⟩ rfl ?_
    refine d_run 1 rfl ?_
    refine d_ia (N := 6) (j := 5) k169_73 (by decide) (by first | assumption | exact Nat.le_of_ble_eq_true rfl | omega) ⟨⟨rfl, rfl⟩, rfl, rfl⟩ (by decide) rfl ?_
    rw [hW.1]
    refine d_run 1 rfl ?_
    refine d_ic_ne k169_76 (fun h76 => ?_) (fun h76 => ?_)
    · have e76 : ¬ 40 ≤ w.1 := fun e => h76 (by rw [show w.1 = 40 by omega]; rfl)
      rw [show stW t p A nm w = bnd (numH t (tN t p) (fwP A nm (tW t (tN t p)))) (fun a => .inr (tN t (tN t p), addW w 2 (nI a) 0)) by unfold stW; rw [if_neg hvn, if_neg e76, if_neg (by rw [hv]; decide)]; congr 1; funext a; rw [if_pos hv]]
      refine d_run 1 rfl ?_
      refine d_call 1 k169_86 (by omega) (Nat.le_of_ble_eq_true rfl) rfl (Nat.le_of_ble_eq_true rfl) (Nat.le_of_ble_eq_true rfl) (recv_ok rfl (by first | assumption | exact Nat.le_of_ble_eq_true rfl | omega)) rfl (m_nx (by omega) h) rfl ?_
      rintro F1 G1 ⟨r1, n1⟩
      have w1 := hW.q n1.q
      have hH1 := hH.q n1.q
      refine d_run 2 rfl ?_
      refine d_gR k169_93 (by first | assumption | exact Nat.le_of_ble_eq_true rfl | omega) ⟨rfl, rfl, rfl⟩ rfl ?_
      refine d_run 1 rfl ?_
      refine d_ia (N := 6) (j := 5) k169_97 (by decide) (by first | assumption | exact Nat.le_of_ble_eq_true rfl | omega) ⟨⟨rfl, rfl⟩, rfl, rfl⟩ (by decide) rfl ?_
      rw [w1.1]
      refine d_run 3 rfl ?_
      refine d_gR k169_101 (by first | assumption | exact Nat.le_of_ble_eq_true rfl | omega) ⟨rfl, rfl, rfl⟩ rfl ?_
      refine d_run 2 rfl ?_
      refine d_is (N := 240) (j := 200 + w.1) k169_106 (by first | assumption | exact Nat.le_of_ble_eq_true rfl | omega) ⟨rfl, rfl⟩ (show 200 + w.1 < 240 by omega) (nI_add 200 _) ?_
      have w2 := w1.ex (v := 2)
      have r2 : MRd (uF F1 66 0 (200 + w.1) 2) G1 t (tN t p) := r1.k (by decide) (by decide)
      have f2 : MFq F G (uF F1 66 0 (200 + w.1) 2) G1 := n1.q.wk.u (by omega)
      have hH2 : MHN (uF F1 66 0 (200 + w.1) 2) G1 A nm := hH1.fr (uF_k (by decide)) (fun _ _ => rfl)
      have e66 : uF F1 66 0 (200 + w.1) 2 66 0 (200 + w.1) = 2 := uF_e
      refine d_run 1 rfl ?_
      refine d_if_ne k169_108 (fun h108 => ?_) (fun h108 => ?_)
      · refine d_run 2 rfl ?_
        refine d_ic_ne k169_152 (fun h152 => ?_) (fun h152 => ?_)
        · refine d_run 2 rfl ?_
          refine d_ic_ne k169_175 (fun h175 => ?_) (fun h175 => ?_)
          · first | exact absurd h175 (by decide) | exact absurd rfl h175
          · refine d_run 2 rfl ?_
            refine d_call 2 k169_180 (by omega) (Nat.le_of_ble_eq_true rfl) rfl (Nat.le_of_ble_eq_true rfl) (Nat.le_of_ble_eq_true rfl) (recv_ok rfl (by first | assumption | exact Nat.le_of_ble_eq_true rfl | omega)) rfl (m_needP (S := lP A) (r := 0) (nm := nm.2) (by omega) (by decide) hH2.2.1 hP hH2.2.2.2 hn.2 r2) rfl ?_
            rintro F3 G3 n3
            have k3 := n3.q
            have r3 := n3.1
            have z3 := n3.2.2.2.2
            refine d_if_ne k169_183 (fun h183 => ?_) (fun h183 => ?_)
            · unfold fwP
              rw [b2i0, Bool.not_eq_false] at h183
              obtain ⟨a, ea⟩ := okB_t h183
              rw [ea] at z3 ⊢
              rw [bnd_i]
              have z3 : F3 40 0 35 = nI a := z3
              refine d_run 2 rfl ?_
              refine d_gI k169_190 (by first | assumption | exact Nat.le_of_ble_eq_true rfl | omega) ⟨rfl, rfl, Or.inl rfl⟩ ?_
              rw [z3]
              refine d_pI k169_193 (by first | assumption | exact Nat.le_of_ble_eq_true rfl | omega) ⟨rfl, rfl⟩ ?_
              refine d_run 1 rfl ?_
              refine d_call 1 k169_197 (by omega) (Nat.le_of_ble_eq_true rfl) rfl (Nat.le_of_ble_eq_true rfl) (Nat.le_of_ble_eq_true rfl) (recv_ok rfl (by first | assumption | exact Nat.le_of_ble_eq_true rfl | omega)) rfl (m_nx (by omega) (r3.u (by omega))) rfl ?_
              rintro F6 G6 ⟨r6, n6⟩
              have k6 := (k3.tr (MQf.u (i := 37) (v := nI a) (by omega))).tr n6.q
              have x37 : F6 40 0 37 = nI a := by rw [n6.1 37 (by decide) (by decide) (by decide) (by decide), uF_e]
              refine d_run 1 rfl ?_
              refine d_gR k169_201 (by first | assumption | exact Nat.le_of_ble_eq_true rfl | omega) ⟨rfl, rfl, rfl⟩ rfl ?_
              refine d_run 2 rfl ?_
              refine d_gI k169_206 (by first | assumption | exact Nat.le_of_ble_eq_true rfl | omega) ⟨rfl, rfl, Or.inl rfl⟩ ?_
              rw [x37]
              refine d_is (N := 240) (j := 200 + w.1) k169_209 (by first | assumption | exact Nat.le_of_ble_eq_true rfl | omega) ⟨rfl, rfl⟩ (show 200 + w.1 < 240 by omega) (nI_add 200 _) ?_
              refine d_run 1 rfl ?_
              refine d_gR k169_211 (by first | assumption | exact Nat.le_of_ble_eq_true rfl | omega) ⟨rfl, rfl, rfl⟩ rfl ?_
              refine d_run 2 rfl ?_
              refine d_gI k169_216 (by first | assumption | exact Nat.le_of_ble_eq_true rfl | omega) ⟨rfl, rfl, Or.inl rfl⟩ ?_
              rw [uF_k (by decide)]
              refine d_is (N := 240) (j := 200 + w.1) k169_219 (by first | assumption | exact Nat.le_of_ble_eq_true rfl | omega) ⟨rfl, rfl⟩ (show 200 + w.1 < 240 by omega) (nI_add 200 _) ?_
              refine d_run 1 rfl ?_
              refine d_gR k169_221 (by first | assumption | exact Nat.le_of_ble_eq_true rfl | omega) ⟨rfl, rfl, rfl⟩ rfl ?_
              refine d_run 2 rfl ?_
              refine d_ia (N := 6) (j := 5) k169_226 (by decide) (by first | assumption | exact Nat.le_of_ble_eq_true rfl | omega) ⟨⟨rfl, rfl⟩, rfl, rfl⟩ (by decide) rfl ?_
              rw [uF_k (by decide), uF_k (by decide), ((w2.q k6)).1]
              refine d_run 2 rfl ?_
              rw [show ibop 0 (nI w.1) 1 = nI (w.1 + 1) from nI_1 _]
              refine d_is (N := 6) (j := 5) k169_229 (by first | assumption | exact Nat.le_of_ble_eq_true rfl | omega) ⟨rfl, rfl⟩ (by decide) rfl ?_
              refine d_run 1 rfl ?_
              refine d_call 1 k169_231 (by omega) (Nat.le_of_ble_eq_true rfl) rfl (Nat.le_of_ble_eq_true rfl) (Nat.le_of_ble_eq_true rfl) (recv_ok rfl (by first | assumption | exact Nat.le_of_ble_eq_true rfl | omega)) rfl (m_closes (by omega) (((r6.k (by decide) (by decide)).k (by decide) (by decide)).k (by decide) (by decide))) rfl ?_
              rintro F8 G8 o8
              refine d_ib k169_234 (by rw [oW_ok]) ?_
              exact MWo.cl ((((f2.tr k6.wk).u (by omega)).u (by omega)).u (by omega)) (((w2.q k6)).ad (by omega) (show F6 66 0 (200 + w.1) = 2 by rw [k6.2.1 66 rfl]; exact e66) (fun _ => rfl) (fun e => by rcases e with e | e <;> exact absurd e (by decide))) o8
            · unfold fwP
              rw [b2i0] at h183
              obtain ⟨f, ef⟩ := okB_f h183
              rw [ef] at z3 ⊢
              rw [bnd_e]
              refine d_run 1 rfl ?_
              refine d_ib k169_187 (by rfl) ?_
              exact ⟨f2.tr k3.wk, z3⟩
        · first | exact absurd h152 (by decide) | exact absurd rfl h152
      · first | exact absurd h108 (by decide) | exact absurd rfl h108
    · have e76 : w.1 = 40 := nI_inj (b := 40) h76 (by omega) (by omega)
      rw [show stW t p A nm w = .inl (5 + 16 * p) by unfold stW; rw [if_neg hvn, if_pos (by omega)]]
      refine d_run 2 rfl ?_
      refine d_callT 2 k169_81 (by omega) (Nat.le_of_ble_eq_true rfl) rfl (Nat.le_of_ble_eq_true rfl) (Nat.le_of_ble_eq_true rfl) (recv_ok rfl (by first | assumption | exact Nat.le_of_ble_eq_true rfl | omega)) rfl (m_fails (c := 5) h) rfl ?_
      refine d_ib k169_84 (by rfl) ?_
      exact MWo.f MFq.rf
  · exact absurd (by decide) h59
theorem m_line3 (hd : 10 ≤ d) (hH : MHN F G A nm) (hS : lS A ≤ 5) (hP : lP A ≤ 6) (hn : wfN A nm) (hW : MW F 5 w) (h : MRd F G t p) (hv : verbN t p = 3) : Td E d 169 57 [some (vr 40 0), none, none] [vi 3] x F G b (some (vi (b2i (okB (oW t (stW t p A nm w)))))) (MWo t F G (oW t (stW t p A nm w))) := by
  have h40 := hW.2.1
  have hvn : ¬ verbN t p = -1 := by rw [hv]; decide
  refine d_run 2 rfl ?_
  refine d_if_ge k169_59 (fun h59 => ?_) (fun h59 => ?_)
  · refine d_run 1 rfl ?_
    refine d_gR k169_69 (by first | assumption | exact Nat.le_of_ble_eq_true rfl | omega) ⟨rfl, rfl, rfl⟩ rfl ?_
    refine d_run 1 rfl ?_
    refine d_ia (N := 6) (j := 5) k169_73 (by decide) (by first | assumption | exact Nat.le_of_ble_eq_true rfl | omega) ⟨⟨rfl, rfl⟩, rfl, rfl⟩ (by decide) rfl ?_
    rw [hW.1]
    refine d_run 1 rfl ?_
    refine d_ic_ne k169_76 (fun h76 => ?_) (fun h76 => ?_)
    · have e76 : ¬ 40 ≤ w.1 := fun e => h76 (by rw [show w.1 = 40 by omega]; rfl)
      rw [show stW t p A nm w = .inr (tN t p, addW w 3 0 0) by unfold stW; rw [if_neg hvn, if_neg e76, if_pos hv]]
      refine d_run 1 rfl ?_
      refine d_call 1 k169_86 (by omega) (Nat.le_of_ble_eq_true rfl) rfl (Nat.le_of_ble_eq_true rfl) (Nat.le_of_ble_eq_true rfl) (recv_ok rfl (by first | assumption | exact Nat.le_of_ble_eq_true rfl | omega)) rfl (m_nx (by omega) h) rfl ?_
      rintro F1 G1 ⟨r1, n1⟩
      have w1 := hW.q n1.q
      have hH1 := hH.q n1.q
      refine d_run 2 rfl ?_
      refine d_gR k169_93 (by first | assumption | exact Nat.le_of_ble_eq_true rfl | omega) ⟨rfl, rfl, rfl⟩ rfl ?_
      refine d_run 1 rfl ?_
      refine d_ia (N := 6) (j := 5) k169_97 (by decide) (by first | assumption | exact Nat.le_of_ble_eq_true rfl | omega) ⟨⟨rfl, rfl⟩, rfl, rfl⟩ (by decide) rfl ?_
      rw [w1.1]
      refine d_run 3 rfl ?_
      refine d_gR k169_101 (by first | assumption | exact Nat.le_of_ble_eq_true rfl | omega) ⟨rfl, rfl, rfl⟩ rfl ?_
      refine d_run 2 rfl ?_
      refine d_is (N := 240) (j := 200 + w.1) k169_106 (by first | assumption | exact Nat.le_of_ble_eq_true rfl | omega) ⟨rfl, rfl⟩ (show 200 + w.1 < 240 by omega) (nI_add 200 _) ?_
      have w2 := w1.ex (v := 3)
      have r2 : MRd (uF F1 66 0 (200 + w.1) 3) G1 t (tN t p) := r1.k (by decide) (by decide)
      have f2 : MFq F G (uF F1 66 0 (200 + w.1) 3) G1 := n1.q.wk.u (by omega)
      have hH2 : MHN (uF F1 66 0 (200 + w.1) 3) G1 A nm := hH1.fr (uF_k (by decide)) (fun _ _ => rfl)
      have e66 : uF F1 66 0 (200 + w.1) 3 66 0 (200 + w.1) = 3 := uF_e
      refine d_run 1 rfl ?_
      refine d_if_ne k169_108 (fun h108 => ?_) (fun h108 => ?_)
      · refine d_run 2 rfl ?_
        refine d_ic_ne k169_152 (fun h152 => ?_) (fun h152 => ?_)
        · refine d_run 2 rfl ?_
          refine d_ic_ne k169_175 (fun h175 => ?_) (fun h175 => ?_)
          · refine d_run 1 rfl ?_
            refine d_gR k169_201 (by first | assumption | exact Nat.le_of_ble_eq_true rfl | omega) ⟨rfl, rfl, rfl⟩ rfl ?_
            refine d_run 2 rfl ?_
            refine d_gI k169_206 (by first | assumption | exact Nat.le_of_ble_eq_true rfl | omega) ⟨rfl, rfl, Or.inl rfl⟩ ?_
            rw [uF_k (by decide)]
            refine d_is (N := 240) (j := 200 + w.1) k169_209 (by first | assumption | exact Nat.le_of_ble_eq_true rfl | omega) ⟨rfl, rfl⟩ (show 200 + w.1 < 240 by omega) (nI_add 200 _) ?_
            refine d_run 1 rfl ?_
            refine d_gR k169_211 (by first | assumption | exact Nat.le_of_ble_eq_true rfl | omega) ⟨rfl, rfl, rfl⟩ rfl ?_
            refine d_run 2 rfl ?_
            refine d_gI k169_216 (by first | assumption | exact Nat.le_of_ble_eq_true rfl | omega) ⟨rfl, rfl, Or.inl rfl⟩ ?_
            rw [uF_k (by decide), uF_k (by decide)]
            refine d_is (N := 240) (j := 200 + w.1) k169_219 (by first | assumption | exact Nat.le_of_ble_eq_true rfl | omega) ⟨rfl, rfl⟩ (show 200 + w.1 < 240 by omega) (nI_add 200 _) ?_
            refine d_run 1 rfl ?_
            refine d_gR k169_221 (by first | assumption | exact Nat.le_of_ble_eq_true rfl | omega) ⟨rfl, rfl, rfl⟩ rfl ?_
            refine d_run 2 rfl ?_
            refine d_ia (N := 6) (j := 5) k169_226 (by decide) (by first | assumption | exact Nat.le_of_ble_eq_true rfl | omega) ⟨⟨rfl, rfl⟩, rfl, rfl⟩ (by decide) rfl ?_
            rw [uF_k (by decide), uF_k (by decide), (w2).1]
            refine d_run 2 rfl ?_
            rw [show ibop 0 (nI w.1) 1 = nI (w.1 + 1) from nI_1 _]
            refine d_is (N := 6) (j := 5) k169_229 (by first | assumption | exact Nat.le_of_ble_eq_true rfl | omega) ⟨rfl, rfl⟩ (by decide) rfl ?_
            refine d_run 1 rfl ?_
            refine d_call 1 k169_231 (by omega) (Nat.le_of_ble_eq_true rfl) rfl (Nat.le_of_ble_eq_true rfl) (Nat.le_of_ble_eq_true rfl) (recv_ok rfl (by first | assumption | exact Nat.le_of_ble_eq_true rfl | omega)) rfl (m_closes (by omega) (((r2.k (by decide) (by decide)).k (by decide) (by decide)).k (by decide) (by decide))) rfl ?_
            rintro F8 G8 o8
            refine d_ib k169_234 (by rw [oW_ok]) ?_
            exact MWo.cl (((f2.u (by omega)).u (by omega)).u (by omega)) ((w2).ad (by omega) e66 (fun e => by rcases e with e | e | e <;> exact absurd e (by decide)) (fun e => by rcases e with e | e <;> exact absurd e (by decide))) o8
          · first | exact absurd h175 (by decide) | exact absurd rfl h175
        · first | exact absurd h152 (by decide) | exact absurd rfl h152
      · first | exact absurd h108 (by decide) | exact absurd rfl h108
    · have e76 : w.1 = 40 := nI_inj (b := 40) h76 (by omega) (by omega)
      rw [show stW t p A nm w = .inl (5 + 16 * p) by unfold stW; rw [if_neg hvn, if_pos (by omega)]]
      refine d_run 2 rfl ?_
      refine d_callT 2 k169_81 (by omega) (Nat.le_of_ble_eq_true rfl) rfl (Nat.le_of_ble_eq_true rfl) (Nat.le_of_ble_eq_true rfl) (recv_ok rfl (by first | assumption | exact Nat.le_of_ble_eq_true rfl | omega)) rfl (m_fails (c := 5) h) rfl ?_
      refine d_ib k169_84 (by rfl) ?_
      exact MWo.f MFq.rf
  · exact absurd (by decide) h59
theorem m_line (hd : 10 ≤ d) (hH : MHN F G A nm) (hS : lS A ≤ 5) (hP : lP A ≤ 6) (hn : wfN A nm) (hW : MW F 5 w) (h : MRd F G t p) : Td E d 169 0 [some (vr 40 0), none, none] [] x F G b (some (vi (b2i (okB (oW t (stW t p A nm w)))))) (MWo t F G (oW t (stW t p A nm w))) := by
  obtain ⟨b0, b1, b2, b3, b4, b5, b6, b7, b8, b9, b10, b11, b12, b13, b14, b15, b16, b17, b18, b19, b20, b21, b22, b23⟩ := kw27
  refine d_run 2 rfl ?_
  refine d_callT 2 k169_4 (by omega) (Nat.le_of_ble_eq_true rfl) rfl (Nat.le_of_ble_eq_true rfl) (Nat.le_of_ble_eq_true rfl) (recv_ok rfl (by first | assumption | exact Nat.le_of_ble_eq_true rfl | omega)) rfl (m_isWd (n := 22) b9 (by decide) (by decide) (by decide) h) rfl ?_
  refine d_if_eq k169_7 (fun h7 => ?_) (fun h7 => ?_)
  · rw [b2i0] at h7
    refine d_run 2 rfl ?_
    refine d_callT 2 k169_18 (by omega) (Nat.le_of_ble_eq_true rfl) rfl (Nat.le_of_ble_eq_true rfl) (Nat.le_of_ble_eq_true rfl) (recv_ok rfl (by first | assumption | exact Nat.le_of_ble_eq_true rfl | omega)) rfl (m_isWd (n := 23) b10 (by decide) (by decide) (by decide) h) rfl ?_
    refine d_if_eq k169_21 (fun h21 => ?_) (fun h21 => ?_)
    · rw [b2i0] at h21
      refine d_run 2 rfl ?_
      refine d_callT 2 k169_32 (by omega) (Nat.le_of_ble_eq_true rfl) rfl (Nat.le_of_ble_eq_true rfl) (Nat.le_of_ble_eq_true rfl) (recv_ok rfl (by first | assumption | exact Nat.le_of_ble_eq_true rfl | omega)) rfl (m_isWd (n := 24) b11 (by decide) (by decide) (by decide) h) rfl ?_
      refine d_if_eq k169_35 (fun h35 => ?_) (fun h35 => ?_)
      · rw [b2i0] at h35
        refine d_run 2 rfl ?_
        refine d_callT 2 k169_46 (by omega) (Nat.le_of_ble_eq_true rfl) rfl (Nat.le_of_ble_eq_true rfl) (Nat.le_of_ble_eq_true rfl) (recv_ok rfl (by first | assumption | exact Nat.le_of_ble_eq_true rfl | omega)) rfl (m_isWd (n := 25) b12 (by decide) (by decide) (by decide) h) rfl ?_
        refine d_if_eq k169_49 (fun h49 => ?_) (fun h49 => ?_)
        · rw [b2i0] at h49
          refine d_run 1 rfl ?_
          first | exact m_line0 hd hH hS hP hn hW h (by simp [verbN, *]) | exact m_line1 hd hH hS hP hn hW h (by simp [verbN, *]) | exact m_line2 hd hH hS hP hn hW h (by simp [verbN, *]) | exact m_line3 hd hH hS hP hn hW h (by simp [verbN, *]) | exact m_line_no hd hH hS hP hn hW h (by simp [verbN, *])
        · rw [b2i0, Bool.not_eq_false] at h49
          have yes25 := h49
          refine d_run 2 rfl ?_
          first | exact m_line0 hd hH hS hP hn hW h (by simp [verbN, *]) | exact m_line1 hd hH hS hP hn hW h (by simp [verbN, *]) | exact m_line2 hd hH hS hP hn hW h (by simp [verbN, *]) | exact m_line3 hd hH hS hP hn hW h (by simp [verbN, *]) | exact m_line_no hd hH hS hP hn hW h (by simp [verbN, *])
      · rw [b2i0, Bool.not_eq_false] at h35
        have yes24 := h35
        refine d_run 2 rfl ?_
        first | exact m_line0 hd hH hS hP hn hW h (by simp [verbN, *]) | exact m_line1 hd hH hS hP hn hW h (by simp [verbN, *]) | exact m_line2 hd hH hS hP hn hW h (by simp [verbN, *]) | exact m_line3 hd hH hS hP hn hW h (by simp [verbN, *]) | exact m_line_no hd hH hS hP hn hW h (by simp [verbN, *])
    · rw [b2i0, Bool.not_eq_false] at h21
      have yes23 := h21
      refine d_run 2 rfl ?_
      first | exact m_line0 hd hH hS hP hn hW h (by simp [verbN, *]) | exact m_line1 hd hH hS hP hn hW h (by simp [verbN, *]) | exact m_line2 hd hH hS hP hn hW h (by simp [verbN, *]) | exact m_line3 hd hH hS hP hn hW h (by simp [verbN, *]) | exact m_line_no hd hH hS hP hn hW h (by simp [verbN, *])
  · rw [b2i0, Bool.not_eq_false] at h7
    have yes22 := h7
    refine d_run 2 rfl ?_
    first | exact m_line0 hd hH hS hP hn hW h (by simp [verbN, *]) | exact m_line1 hd hH hS hP hn hW h (by simp [verbN, *]) | exact m_line2 hd hH hS hP hn hW h (by simp [verbN, *]) | exact m_line3 hd hH hS hP hn hW h (by simp [verbN, *]) | exact m_line_no hd hH hS hP hn hW h (by simp [verbN, *])
end TJ
