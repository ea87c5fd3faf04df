/-! THE REFERENCE READS A LAW -/
def MRo (t : TP) (F0 : FT) (G0 : GT) (Z : Nat ⊕ (Nat × List Int32)) (F2 : FT) (G2 : GT) : Prop := MFw F0 G0 F2 G2 ∧ match Z with
  | .inl f => F2 40 0 9 = nI f
  | .inr q => MRd F2 G2 t q.1 ∧ MLp F2 q.2
def RX (E : EV) (d x : Nat) (b : Bool) (t : TP) (F0 : FT) (G0 : GT) (w : Bool) (p : Nat) (c : Bool) (st : List (Bool × Bool)) (fc : List Int32) (Z : Nat ⊕ (Nat × List Int32)) : Prop := ∀ (F : FT) (G : GT) (a3 a4 a5 : Option PV), MRd F G t p → MSk F c st → st.length ≤ 5 → MLp F fc → fc.length ≤ p → MFw F0 G0 F G → Td E d 141 11 [some (vr 40 0), some (vi (nI st.length)), some (vi (b2i w)), a3, a4, a5] [] x F G b (some (vi (b2i (okB Z)))) (MRo t F0 G0 Z)
theorem jc2_0 {t : TP} {p : Nat} (h : jc 2 t p = 0) : isSg t p 43 = false ∧ isSg t p 45 = false := by
  cases e : isSg t p 43 <;> cases e2 : isSg t p 45 <;> simp [jc, e, e2] at h ⊢
theorem jc3_0 {t : TP} {p : Nat} (h : jc 3 t p = 0) : isSg t p 42 = false := by
  cases e : isSg t p 42 <;> simp [jc, e] at h ⊢
theorem jc1_0 {t : TP} {p : Nat} (h : jc 1 t p = 0) : isSg t p 60 = false ∧ isSg t p 61 = false := by
  cases e : isSg t p 60 <;> cases e2 : isSg t p 61 <;> simp [jc, e, e2] at h ⊢
theorem jc0_0 {t : TP} {p : Nat} (h : jc 0 t p = 0) : isWd t p 20 = false ∧ isWd t p 21 = false := by
  cases e : isWd t p 20 <;> cases e2 : isWd t p 21 <;> simp [jc, e, e2] at h ⊢
theorem jc2_n {t : TP} {p : Nat} (h : ¬ jc 2 t p = 0) : isSg t p 43 = true ∨ (isSg t p 43 = false ∧ isSg t p 45 = true) := by
  cases e : isSg t p 43 <;> cases e2 : isSg t p 45 <;> simp [jc, e, e2] at h ⊢
theorem jc3_n {t : TP} {p : Nat} (h : ¬ jc 3 t p = 0) : isSg t p 42 = true := by
  cases e : isSg t p 42 <;> simp [jc, e] at h ⊢
theorem jc1_n {t : TP} {p : Nat} (h : ¬ jc 1 t p = 0) : isSg t p 60 = true ∨ (isSg t p 60 = false ∧ isSg t p 61 = true) := by
  cases e : isSg t p 60 <;> cases e2 : isSg t p 61 <;> simp [jc, e, e2] at h ⊢
theorem jc0_n {t : TP} {p : Nat} (h : ¬ jc 0 t p = 0) : isWd t p 20 = true ∨ (isWd t p 20 = false ∧ isWd t p 21 = true) := by
  cases e : isWd t p 20 <;> cases e2 : isWd t p 21 <;> simp [jc, e, e2] at h ⊢
theorem wd_sg {t : TP} {p n a : Nat} (h : isWd t p n = true) : isSg t p a = false := by
  cases e : isSg t p a with
  | false => rfl
  | true => rw [sg_wd e] at h; cases h
section TF
variable {E : EV} {d x p n : Nat} {F F0 : FT} {G G0 : GT} {b : Bool} {t : TP} {B : LB} {u v w : Int32} {c : Bool} {st : List (Bool × Bool)} {fc : List Int32} {Z : Nat ⊕ (Nat × List Int32)}
theorem rd_nx172 {a1 a2 a3 a4 a5 : Option PV} {r : Option PV} {Q : FT → GT → Prop} (hd : 5 ≤ d) (h : MRd F G t p) (kk : ∀ F1 G1, MRd F1 G1 t (tN t p) → MNx F G F1 G1 → Td E d 141 11 [some (vr 40 0), a1, a2, a3, a4, a5] [] x F1 G1 b r Q) : Td E d 141 172 [some (vr 40 0), a1, a2, a3, a4, a5] [] x F G b r Q := by
  refine d_run 1 rfl ?_
  refine d_call 1 k141_173 (by omega) (Nat.le_of_ble_eq_true rfl) rfl (Nat.le_of_ble_eq_true rfl) (Nat.le_of_ble_eq_true rfl) (recv_ok rfl (by first | assumption | exact Nat.le_of_ble_eq_true rfl | omega)) rfl (m_nx (by omega) h) rfl ?_
  rintro F1 G1 ⟨h1, n1⟩
  refine d_run 1 rfl ?_
  exact kk F1 G1 h1 n1
theorem rd_nx424 {a1 a2 a3 a4 a5 : Option PV} {r : Option PV} {Q : FT → GT → Prop} (hd : 5 ≤ d) (h : MRd F G t p) (kk : ∀ F1 G1, MRd F1 G1 t (tN t p) → MNx F G F1 G1 → Td E d 141 11 [some (vr 40 0), a1, a2, a3, a4, a5] [] x F1 G1 b r Q) : Td E d 141 424 [some (vr 40 0), a1, a2, a3, a4, a5] [] x F G b r Q := by
  refine d_run 1 rfl ?_
  refine d_call 1 k141_425 (by omega) (Nat.le_of_ble_eq_true rfl) rfl (Nat.le_of_ble_eq_true rfl) (Nat.le_of_ble_eq_true rfl) (recv_ok rfl (by first | assumption | exact Nat.le_of_ble_eq_true rfl | omega)) rfl (m_nx (by omega) h) rfl ?_
  rintro F1 G1 ⟨h1, n1⟩
  refine d_run 1 rfl ?_
  exact kk F1 G1 h1 n1
theorem x_bad (hd : 5 ≤ d) (h1 : isPt t p = false) : RX E d x b t F0 G0 true p c st fc (.inl (1 + 16 * p)) := by
  intro F G a3 a4 a5 h hsk hs hlp hfl hfw
  have hpl := h.2.2.2.2.2.2.2.1
  have ht := h.2.2.2.2.2.2.2.2.1
  obtain ⟨b0, b1, b2, b3, b4, b5, b6, b7, b8, b9, b10, b11, b12, b13, b14, b15, b16, b17, b18, b19, b20, b21, b22, b23⟩ := kw27
  show Td E d 141 11 [some (vr 40 0), some (vi (nI st.length)), some (vi 1), a3, a4, a5] [] x F G b _ _
  refine rd_pt hd h (fun e => absurd (h1.symm.trans e) (by decide)) (fun _ => ?_)
  refine d_run 2 rfl ?_
  refine d_callT 2 k141_61 (by omega) (Nat.le_of_ble_eq_true rfl) rfl (Nat.le_of_ble_eq_true rfl) (Nat.le_of_ble_eq_true rfl) (recv_ok rfl (by first | assumption | exact Nat.le_of_ble_eq_true rfl | omega)) rfl (m_fails (c := 1) h) rfl ?_
  refine d_ib k141_64 (by rfl) ?_
  exact ⟨hfw.u (by omega), uF_e⟩
theorem x_deep (hd : 5 ≤ d) (h1 : isPt t p = true) (h2 : 5 ≤ st.length) : RX E d x b t F0 G0 true p c st fc (.inl (5 + 16 * p)) := by
  intro F G a3 a4 a5 h hsk hs hlp hfl hfw
  have hpl := h.2.2.2.2.2.2.2.1
  have ht := h.2.2.2.2.2.2.2.2.1
  obtain ⟨b0, b1, b2, b3, b4, b5, b6, b7, b8, b9, b10, b11, b12, b13, b14, b15, b16, b17, b18, b19, b20, b21, b22, b23⟩ := kw27
  show Td E d 141 11 [some (vr 40 0), some (vi (nI st.length)), some (vi 1), a3, a4, a5] [] x F G b _ _
  refine rd_pt hd h (fun _ => ?_) (fun e => absurd (h1.symm.trans e) (by decide))
  refine d_run 2 rfl ?_
  refine d_ic_ne k141_67 (fun h67 => ?_) (fun h67 => ?_)
  · exact absurd (by rw [show st.length = 5 by omega]; rfl) h67
  · refine d_run 2 rfl ?_
    refine d_callT 2 k141_72 (by omega) (Nat.le_of_ble_eq_true rfl) rfl (Nat.le_of_ble_eq_true rfl) (Nat.le_of_ble_eq_true rfl) (recv_ok rfl (by first | assumption | exact Nat.le_of_ble_eq_true rfl | omega)) rfl (m_fails (c := 5) h) rfl ?_
    refine d_ib k141_75 (by rfl) ?_
    exact ⟨hfw.u (by omega), uF_e⟩
theorem x_push_true (hd : 5 ≤ d) (h1 : isPt t p = true) (h2 : st.length < 5) (hW : isWd t p 15 = true) (h3 : (isWd t p 15 || isSg t p 40) = true) (hz : RX E d x b t F0 G0 true (tN t p) false ((true, c) :: st) (fc ++ [30]) Z) : RX E d x b t F0 G0 true p c st fc Z := by
  intro F G a3 a4 a5 h hsk hs hlp hfl hfw
  have hpl := h.2.2.2.2.2.2.2.1
  have ht := h.2.2.2.2.2.2.2.2.1
  obtain ⟨b0, b1, b2, b3, b4, b5, b6, b7, b8, b9, b10, b11, b12, b13, b14, b15, b16, b17, b18, b19, b20, b21, b22, b23⟩ := kw27
  show Td E d 141 11 [some (vr 40 0), some (vi (nI st.length)), some (vi 1), a3, a4, a5] [] x F G b _ _
  have hS : isWd t p 15 = false → isSg t p 40 = true := fun e => by rw [e, Bool.false_or] at h3; exact h3
  have hlt := tN_lt (isPt_lt h1)
  have hp1 := isPt_lt h1
  refine rd_pt hd h (fun _ => ?_) (fun e => absurd (h1.symm.trans e) (by decide))
  rw [hW]
  refine d_run 2 rfl ?_
  refine d_ic_ne k141_67 (fun h67 => ?_) (fun h67 => ?_)
  · refine d_run 1 rfl ?_
    refine d_if_ne k141_78 (fun h78 => ?_) (fun h78 => ?_)
    · refine d_run 2 rfl ?_
      refine d_if_eq k141_89 (fun h89 => ?_) (fun h89 => ?_)
      · first | exact absurd h89 (by decide) | exact absurd rfl h89
      · refine d_run 2 rfl ?_
        refine d_callT 2 k141_99 (by omega) (Nat.le_of_ble_eq_true rfl) rfl (Nat.le_of_ble_eq_true rfl) (Nat.le_of_ble_eq_true rfl) (recv_ok rfl (by first | assumption | exact Nat.le_of_ble_eq_true rfl | omega)) rfl (m_puts hlp (by omega)) rfl ?_
        refine d_run 2 rfl ?_
        refine d_gR k141_106 (by first | assumption | exact Nat.le_of_ble_eq_true rfl | omega) ⟨rfl, rfl, rfl⟩ rfl ?_
        refine d_run 2 rfl ?_
        refine d_if_eq k141_112 (fun h112 => ?_) (fun h112 => ?_)
        · first | exact absurd h112 (by decide) | exact absurd rfl h112
        · refine d_run 2 rfl ?_
          refine d_is (N := 7) (j := st.length + 1) k141_120 (by first | assumption | exact Nat.le_of_ble_eq_true rfl | omega) ⟨rfl, rfl⟩ (show st.length + 1 < 7 by omega) (nI_1 _) ?_
          refine d_run 1 rfl ?_
          refine d_gR k141_122 (by first | assumption | exact Nat.le_of_ble_eq_true rfl | omega) ⟨rfl, rfl, rfl⟩ rfl ?_
          refine d_run 2 rfl ?_
          refine d_zs (N := 7) (j := st.length + 1) k141_127 (by first | assumption | exact Nat.le_of_ble_eq_true rfl | omega) ⟨rfl, rfl⟩ (show st.length + 1 < 7 by omega) (nI_1 _) (by first | exact Or.inl rfl | exact Or.inr rfl) ?_
          refine d_run 1 rfl ?_
          refine rd_nx172 hd ((((h.k (by decide) (by decide)).u (by omega)).k (by decide) (by decide)).k (by decide) (by decide)) (fun F1 G1 r1 n1 => ?_)
          rw [show nI st.length + 1 = nI ((true, c) :: st).length from nI_1 _]
          exact hz _ _ _ _ _ r1 ((((hsk.k (by decide)).k (by decide)).pu rfl).nx n1) (by show st.length + 1 ≤ 5; omega) ((hlp.ad.fr (by rw [uF_q (by omega), uF_q (by omega)]) (by rw [uF_k (by decide), uF_k (by decide)])).nx n1) (by rw [List.length_append]; show fc.length + 1 ≤ _; omega) (((((hfw.u (by omega)).u (by omega)).u (by omega)).u (by omega)).tr n1.w)
    · first | exact absurd h78 (by decide) | exact absurd rfl h78
  · exact absurd (nI_inj (b := 5) h67 (by omega) (by omega)) (by omega)
theorem x_push_false (hd : 5 ≤ d) (h1 : isPt t p = true) (h2 : st.length < 5) (hW : isWd t p 15 = false) (h3 : (isWd t p 15 || isSg t p 40) = true) (hz : RX E d x b t F0 G0 true (tN t p) false ((false, c) :: st) (fc ++ [28]) Z) : RX E d x b t F0 G0 true p c st fc Z := by
  intro F G a3 a4 a5 h hsk hs hlp hfl hfw
  have hpl := h.2.2.2.2.2.2.2.1
  have ht := h.2.2.2.2.2.2.2.2.1
  obtain ⟨b0, b1, b2, b3, b4, b5, b6, b7, b8, b9, b10, b11, b12, b13, b14, b15, b16, b17, b18, b19, b20, b21, b22, b23⟩ := kw27
  show Td E d 141 11 [some (vr 40 0), some (vi (nI st.length)), some (vi 1), a3, a4, a5] [] x F G b _ _
  have hS : isWd t p 15 = false → isSg t p 40 = true := fun e => by rw [e, Bool.false_or] at h3; exact h3
  have hlt := tN_lt (isPt_lt h1)
  have hp1 := isPt_lt h1
  refine rd_pt hd h (fun _ => ?_) (fun e => absurd (h1.symm.trans e) (by decide))
  rw [hW]
  rw [hS hW]
  refine d_run 2 rfl ?_
  refine d_ic_ne k141_67 (fun h67 => ?_) (fun h67 => ?_)
  · refine d_run 1 rfl ?_
    refine d_if_ne k141_78 (fun h78 => ?_) (fun h78 => ?_)
    · first | exact absurd h78 (by decide) | exact absurd rfl h78
    · refine d_run 1 rfl ?_
      refine d_if_eq k141_83 (fun h83 => ?_) (fun h83 => ?_)
      · first | exact absurd h83 (by decide) | exact absurd rfl h83
      · refine d_run 2 rfl ?_
        refine d_if_eq k141_89 (fun h89 => ?_) (fun h89 => ?_)
        · refine d_run 1 rfl ?_
          refine d_callT 2 k141_99 (by omega) (Nat.le_of_ble_eq_true rfl) rfl (Nat.le_of_ble_eq_true rfl) (Nat.le_of_ble_eq_true rfl) (recv_ok rfl (by first | assumption | exact Nat.le_of_ble_eq_true rfl | omega)) rfl (m_puts hlp (by omega)) rfl ?_
          refine d_run 2 rfl ?_
          refine d_gR k141_106 (by first | assumption | exact Nat.le_of_ble_eq_true rfl | omega) ⟨rfl, rfl, rfl⟩ rfl ?_
          refine d_run 2 rfl ?_
          refine d_if_eq k141_112 (fun h112 => ?_) (fun h112 => ?_)
          · refine d_run 1 rfl ?_
            refine d_is (N := 7) (j := st.length + 1) k141_120 (by first | assumption | exact Nat.le_of_ble_eq_true rfl | omega) ⟨rfl, rfl⟩ (show st.length + 1 < 7 by omega) (nI_1 _) ?_
            refine d_run 1 rfl ?_
            refine d_gR k141_122 (by first | assumption | exact Nat.le_of_ble_eq_true rfl | omega) ⟨rfl, rfl, rfl⟩ rfl ?_
            refine d_run 2 rfl ?_
            refine d_zs (N := 7) (j := st.length + 1) k141_127 (by first | assumption | exact Nat.le_of_ble_eq_true rfl | omega) ⟨rfl, rfl⟩ (show st.length + 1 < 7 by omega) (nI_1 _) (by first | exact Or.inl rfl | exact Or.inr rfl) ?_
            refine d_run 1 rfl ?_
            refine rd_nx172 hd ((((h.k (by decide) (by decide)).u (by omega)).k (by decide) (by decide)).k (by decide) (by decide)) (fun F1 G1 r1 n1 => ?_)
            rw [show nI st.length + 1 = nI ((false, c) :: st).length from nI_1 _]
            exact hz _ _ _ _ _ r1 ((((hsk.k (by decide)).k (by decide)).pu rfl).nx n1) (by show st.length + 1 ≤ 5; omega) ((hlp.ad.fr (by rw [uF_q (by omega), uF_q (by omega)]) (by rw [uF_k (by decide), uF_k (by decide)])).nx n1) (by rw [List.length_append]; show fc.length + 1 ≤ _; omega) (((((hfw.u (by omega)).u (by omega)).u (by omega)).u (by omega)).tr n1.w)
          · first | exact absurd h112 (by decide) | exact absurd rfl h112
        · first | exact absurd h89 (by decide) | exact absurd rfl h89
  · exact absurd (nI_inj (b := 5) h67 (by omega) (by omega)) (by omega)
theorem x_val (hd : 5 ≤ d) (h1 : isPt t p = true) (h2 : st.length < 5) (h3 : (isWd t p 15 || isSg t p 40) = false) (hz : RX E d x b t F0 G0 false (tN t p) (pn c st).1 (pn c st).2 (fc ++ [vflat t p]) Z) : RX E d x b t F0 G0 true p c st fc Z := by
  intro F G a3 a4 a5 h hsk hs hlp hfl hfw
  have hpl := h.2.2.2.2.2.2.2.1
  have ht := h.2.2.2.2.2.2.2.2.1
  obtain ⟨b0, b1, b2, b3, b4, b5, b6, b7, b8, b9, b10, b11, b12, b13, b14, b15, b16, b17, b18, b19, b20, b21, b22, b23⟩ := kw27
  show Td E d 141 11 [some (vr 40 0), some (vi (nI st.length)), some (vi 1), a3, a4, a5] [] x F G b _ _
  obtain ⟨ev, ek⟩ := vfl_f h1 h3
  have hlt := tN_lt (isPt_lt h1)
  have hp1 := isPt_lt h1
  rw [Bool.or_eq_false_iff] at h3
  have hpl2 := pn_le (c := c) (st := st)
  refine rd_pt hd h (fun _ => ?_) (fun e => absurd (h1.symm.trans e) (by decide))
  rw [h3.1, h3.2]
  refine d_run 2 rfl ?_
  refine d_ic_ne k141_67 (fun h67 => ?_) (fun h67 => ?_)
  · refine d_run 1 rfl ?_
    refine d_if_ne k141_78 (fun h78 => ?_) (fun h78 => ?_)
    · first | exact absurd h78 (by decide) | exact absurd rfl h78
    · refine d_run 1 rfl ?_
      refine d_if_eq k141_83 (fun h83 => ?_) (fun h83 => ?_)
      · refine d_run 2 rfl ?_
        refine d_if_le k141_133 (fun h133 => ?_) (fun h133 => ?_)
        · rw [fctI_le] at h133
          rw [if_pos h133] at ev
          have hK := ek h133
          refine d_run 2 rfl ?_
          refine d_gI k141_143 (by first | assumption | exact Nat.le_of_ble_eq_true rfl | omega) ⟨rfl, rfl, Or.inl rfl⟩ ?_
          rw [h.2.2.2.2.2.1 hK]
          refine d_run 1 rfl ?_
          first | rw [show ibop 0 100 (nI (tV t p)) = vflat t p by rw [ev]; exact nI_add 100 _] | skip
          refine d_callT 2 k141_147 (by omega) (Nat.le_of_ble_eq_true rfl) rfl (Nat.le_of_ble_eq_true rfl) (Nat.le_of_ble_eq_true rfl) (recv_ok rfl (by first | assumption | exact Nat.le_of_ble_eq_true rfl | omega)) rfl (m_puts hlp (by omega)) rfl ?_
          refine d_run 2 rfl ?_
          refine rd_pop152 st c hs ((hsk.k (by decide)).k (by decide)) ?_
          refine rd_nx172 hd ((h.k (by decide) (by decide)).u (by omega)) (fun F1 G1 r1 n1 => ?_)
          exact hz _ _ _ _ _ r1 ((((hsk.k (by decide)).k (by decide)).pn).nx n1) (by omega) (hlp.ad.nx n1) (by rw [List.length_append]; show fc.length + 1 ≤ _; omega) (((hfw.u (by omega)).u (by omega)).tr n1.w)
        · rw [fctI_le] at h133
          rw [if_neg h133] at ev
          rw [← ev]
          refine d_run 2 rfl ?_
          first | rw [show ibop 0 100 (nI (tV t p)) = vflat t p by rw [ev]; exact nI_add 100 _] | skip
          refine d_callT 2 k141_147 (by omega) (Nat.le_of_ble_eq_true rfl) rfl (Nat.le_of_ble_eq_true rfl) (Nat.le_of_ble_eq_true rfl) (recv_ok rfl (by first | assumption | exact Nat.le_of_ble_eq_true rfl | omega)) rfl (m_puts hlp (by omega)) rfl ?_
          refine d_run 2 rfl ?_
          refine rd_pop152 st c hs ((hsk.k (by decide)).k (by decide)) ?_
          refine rd_nx172 hd ((h.k (by decide) (by decide)).u (by omega)) (fun F1 G1 r1 n1 => ?_)
          exact hz _ _ _ _ _ r1 ((((hsk.k (by decide)).k (by decide)).pn).nx n1) (by omega) (hlp.ad.nx n1) (by rw [List.length_append]; show fc.length + 1 ≤ _; omega) (((hfw.u (by omega)).u (by omega)).tr n1.w)
      · first | exact absurd h83 (by decide) | exact absurd rfl h83
  · exact absurd (nI_inj (b := 5) h67 (by omega) (by omega)) (by omega)
theorem x_op2a (hd : 5 ≤ d) (e43 : isSg t p 43 = true) (hz : RX E d x b t F0 G0 true (tN t p) c st (fc ++ [20]) Z) : RX E d x b t F0 G0 false p c st fc Z := by
  intro F G a3 a4 a5 h hsk hs hlp hfl hfw
  have hpl := h.2.2.2.2.2.2.2.1
  have ht := h.2.2.2.2.2.2.2.2.1
  obtain ⟨b0, b1, b2, b3, b4, b5, b6, b7, b8, b9, b10, b11, b12, b13, b14, b15, b16, b17, b18, b19, b20, b21, b22, b23⟩ := kw27
  show Td E d 141 11 [some (vr 40 0), some (vi (nI st.length)), some (vi 0), a3, a4, a5] [] x F G b _ _
  have hlt := tN_lt (isSg_lt e43)
  have hp1 := isSg_lt e43
  refine d_run 1 rfl ?_
  refine d_if_eq k141_12 (fun h12 => ?_) (fun h12 => ?_)
  · refine d_run 2 rfl ?_
    refine d_callT 2 k141_182 (by omega) (Nat.le_of_ble_eq_true rfl) rfl (Nat.le_of_ble_eq_true rfl) (Nat.le_of_ble_eq_true rfl) (recv_ok rfl (by first | assumption | exact Nat.le_of_ble_eq_true rfl | omega)) rfl (m_isSg (c := 43) (by decide) h) rfl ?_
    rw [e43]
    refine d_if_ne k141_185 (fun h185 => ?_) (fun h185 => ?_)
    · refine d_run 3 rfl ?_
      refine d_callT 2 k141_210 (by omega) (Nat.le_of_ble_eq_true rfl) rfl (Nat.le_of_ble_eq_true rfl) (Nat.le_of_ble_eq_true rfl) (recv_ok rfl (by first | assumption | exact Nat.le_of_ble_eq_true rfl | omega)) rfl (m_isSg (c := 43) (by decide) h) rfl ?_
      rw [e43]
      refine d_if_eq k141_213 (fun h213 => ?_) (fun h213 => ?_)
      · first | exact absurd h213 (by decide) | exact absurd rfl h213
      · refine d_run 2 rfl ?_
        refine d_callT 2 k141_237 (by omega) (Nat.le_of_ble_eq_true rfl) rfl (Nat.le_of_ble_eq_true rfl) (Nat.le_of_ble_eq_true rfl) (recv_ok rfl (by first | assumption | exact Nat.le_of_ble_eq_true rfl | omega)) rfl (m_puts hlp (by omega)) rfl ?_
        refine d_run 3 rfl ?_
        refine rd_nx424 hd ((h.k (by decide) (by decide)).u (by omega)) (fun F1 G1 r1 n1 => ?_)
        exact hz _ _ _ _ _ r1 (((hsk.k (by decide)).k (by decide)).nx n1) (by omega) (hlp.ad.nx n1) (by rw [List.length_append]; show fc.length + 1 ≤ _; omega) (((hfw.u (by omega)).u (by omega)).tr n1.w)
    · first | exact absurd h185 (by decide) | exact absurd rfl h185
  · exact absurd rfl h12
theorem x_op2b (hd : 5 ≤ d) (e43 : isSg t p 43 = false) (e45 : isSg t p 45 = true) (hz : RX E d x b t F0 G0 true (tN t p) c st (fc ++ [21]) Z) : RX E d x b t F0 G0 false p c st fc Z := by
  intro F G a3 a4 a5 h hsk hs hlp hfl hfw
  have hpl := h.2.2.2.2.2.2.2.1
  have ht := h.2.2.2.2.2.2.2.2.1
  obtain ⟨b0, b1, b2, b3, b4, b5, b6, b7, b8, b9, b10, b11, b12, b13, b14, b15, b16, b17, b18, b19, b20, b21, b22, b23⟩ := kw27
  show Td E d 141 11 [some (vr 40 0), some (vi (nI st.length)), some (vi 0), a3, a4, a5] [] x F G b _ _
  have hlt := tN_lt (isSg_lt e45)
  have hp1 := isSg_lt e45
  refine d_run 1 rfl ?_
  refine d_if_eq k141_12 (fun h12 => ?_) (fun h12 => ?_)
  · refine d_run 2 rfl ?_
    refine d_callT 2 k141_182 (by omega) (Nat.le_of_ble_eq_true rfl) rfl (Nat.le_of_ble_eq_true rfl) (Nat.le_of_ble_eq_true rfl) (recv_ok rfl (by first | assumption | exact Nat.le_of_ble_eq_true rfl | omega)) rfl (m_isSg (c := 43) (by decide) h) rfl ?_
    rw [e43]
    refine d_if_ne k141_185 (fun h185 => ?_) (fun h185 => ?_)
    · first | exact absurd h185 (by decide) | exact absurd rfl h185
    · refine d_run 2 rfl ?_
      refine d_callT 2 k141_191 (by omega) (Nat.le_of_ble_eq_true rfl) rfl (Nat.le_of_ble_eq_true rfl) (Nat.le_of_ble_eq_true rfl) (recv_ok rfl (by first | assumption | exact Nat.le_of_ble_eq_true rfl | omega)) rfl (m_isSg (c := 45) (by decide) h) rfl ?_
      rw [e45]
      refine d_if_ne k141_194 (fun h194 => ?_) (fun h194 => ?_)
      · refine d_run 3 rfl ?_
        refine d_callT 2 k141_210 (by omega) (Nat.le_of_ble_eq_true rfl) rfl (Nat.le_of_ble_eq_true rfl) (Nat.le_of_ble_eq_true rfl) (recv_ok rfl (by first | assumption | exact Nat.le_of_ble_eq_true rfl | omega)) rfl (m_isSg (c := 43) (by decide) h) rfl ?_
        rw [e43]
        refine d_if_eq k141_213 (fun h213 => ?_) (fun h213 => ?_)
        · refine d_run 2 rfl ?_
          refine d_callT 2 k141_224 (by omega) (Nat.le_of_ble_eq_true rfl) rfl (Nat.le_of_ble_eq_true rfl) (Nat.le_of_ble_eq_true rfl) (recv_ok rfl (by first | assumption | exact Nat.le_of_ble_eq_true rfl | omega)) rfl (m_isSg (c := 45) (by decide) h) rfl ?_
          rw [e45]
          refine d_if_eq k141_227 (fun h227 => ?_) (fun h227 => ?_)
          · first | exact absurd h227 (by decide) | exact absurd rfl h227
          · refine d_run 2 rfl ?_
            refine d_callT 2 k141_237 (by omega) (Nat.le_of_ble_eq_true rfl) rfl (Nat.le_of_ble_eq_true rfl) (Nat.le_of_ble_eq_true rfl) (recv_ok rfl (by first | assumption | exact Nat.le_of_ble_eq_true rfl | omega)) rfl (m_puts hlp (by omega)) rfl ?_
            refine d_run 3 rfl ?_
            refine rd_nx424 hd ((h.k (by decide) (by decide)).u (by omega)) (fun F1 G1 r1 n1 => ?_)
            exact hz _ _ _ _ _ r1 (((hsk.k (by decide)).k (by decide)).nx n1) (by omega) (hlp.ad.nx n1) (by rw [List.length_append]; show fc.length + 1 ≤ _; omega) (((hfw.u (by omega)).u (by omega)).tr n1.w)
        · first | exact absurd h213 (by decide) | exact absurd rfl h213
      · first | exact absurd h194 (by decide) | exact absurd rfl h194
  · exact absurd rfl h12
theorem x_op3 (hd : 5 ≤ d) (e43 : isSg t p 43 = false) (e45 : isSg t p 45 = false) (e42 : isSg t p 42 = true) (hz : RX E d x b t F0 G0 true (tN t p) c st (fc ++ [22]) Z) : RX E d x b t F0 G0 false p c st fc Z := by
  intro F G a3 a4 a5 h hsk hs hlp hfl hfw
  have hpl := h.2.2.2.2.2.2.2.1
  have ht := h.2.2.2.2.2.2.2.2.1
  obtain ⟨b0, b1, b2, b3, b4, b5, b6, b7, b8, b9, b10, b11, b12, b13, b14, b15, b16, b17, b18, b19, b20, b21, b22, b23⟩ := kw27
  show Td E d 141 11 [some (vr 40 0), some (vi (nI st.length)), some (vi 0), a3, a4, a5] [] x F G b _ _
  have hlt := tN_lt (isSg_lt e42)
  have hp1 := isSg_lt e42
  refine d_run 1 rfl ?_
  refine d_if_eq k141_12 (fun h12 => ?_) (fun h12 => ?_)
  · refine d_run 2 rfl ?_
    refine d_callT 2 k141_182 (by omega) (Nat.le_of_ble_eq_true rfl) rfl (Nat.le_of_ble_eq_true rfl) (Nat.le_of_ble_eq_true rfl) (recv_ok rfl (by first | assumption | exact Nat.le_of_ble_eq_true rfl | omega)) rfl (m_isSg (c := 43) (by decide) h) rfl ?_
    rw [e43]
    refine d_if_ne k141_185 (fun h185 => ?_) (fun h185 => ?_)
    · first | exact absurd h185 (by decide) | exact absurd rfl h185
    · refine d_run 2 rfl ?_
      refine d_callT 2 k141_191 (by omega) (Nat.le_of_ble_eq_true rfl) rfl (Nat.le_of_ble_eq_true rfl) (Nat.le_of_ble_eq_true rfl) (recv_ok rfl (by first | assumption | exact Nat.le_of_ble_eq_true rfl | omega)) rfl (m_isSg (c := 45) (by decide) h) rfl ?_
      rw [e45]
      refine d_if_ne k141_194 (fun h194 => ?_) (fun h194 => ?_)
      · first | exact absurd h194 (by decide) | exact absurd rfl h194
      · refine d_run 2 rfl ?_
        refine d_callT 2 k141_200 (by omega) (Nat.le_of_ble_eq_true rfl) rfl (Nat.le_of_ble_eq_true rfl) (Nat.le_of_ble_eq_true rfl) (recv_ok rfl (by first | assumption | exact Nat.le_of_ble_eq_true rfl | omega)) rfl (m_isSg (c := 42) (by decide) h) rfl ?_
        rw [e42]
        refine d_if_eq k141_203 (fun h203 => ?_) (fun h203 => ?_)
        · first | exact absurd h203 (by decide) | exact absurd rfl h203
        · refine d_run 3 rfl ?_
          refine d_callT 2 k141_210 (by omega) (Nat.le_of_ble_eq_true rfl) rfl (Nat.le_of_ble_eq_true rfl) (Nat.le_of_ble_eq_true rfl) (recv_ok rfl (by first | assumption | exact Nat.le_of_ble_eq_true rfl | omega)) rfl (m_isSg (c := 43) (by decide) h) rfl ?_
          rw [e43]
          refine d_if_eq k141_213 (fun h213 => ?_) (fun h213 => ?_)
          · refine d_run 2 rfl ?_
            refine d_callT 2 k141_224 (by omega) (Nat.le_of_ble_eq_true rfl) rfl (Nat.le_of_ble_eq_true rfl) (Nat.le_of_ble_eq_true rfl) (recv_ok rfl (by first | assumption | exact Nat.le_of_ble_eq_true rfl | omega)) rfl (m_isSg (c := 45) (by decide) h) rfl ?_
            rw [e45]
            refine d_if_eq k141_227 (fun h227 => ?_) (fun h227 => ?_)
            · refine d_run 1 rfl ?_
              refine d_callT 2 k141_237 (by omega) (Nat.le_of_ble_eq_true rfl) rfl (Nat.le_of_ble_eq_true rfl) (Nat.le_of_ble_eq_true rfl) (recv_ok rfl (by first | assumption | exact Nat.le_of_ble_eq_true rfl | omega)) rfl (m_puts hlp (by omega)) rfl ?_
              refine d_run 3 rfl ?_
              refine rd_nx424 hd ((h.k (by decide) (by decide)).u (by omega)) (fun F1 G1 r1 n1 => ?_)
              exact hz _ _ _ _ _ r1 (((hsk.k (by decide)).k (by decide)).nx n1) (by omega) (hlp.ad.nx n1) (by rw [List.length_append]; show fc.length + 1 ≤ _; omega) (((hfw.u (by omega)).u (by omega)).tr n1.w)
            · first | exact absurd h227 (by decide) | exact absurd rfl h227
          · first | exact absurd h213 (by decide) | exact absurd rfl h213
  · exact absurd rfl h12
theorem x_cmpa (hd : 5 ≤ d) (e43 : isSg t p 43 = false) (e45 : isSg t p 45 = false) (e42 : isSg t p 42 = false) (e60 : isSg t p 60 = true) (hc : c = false) (hz : RX E d x b t F0 G0 true (tN t p) true st (fc ++ [24]) Z) : RX E d x b t F0 G0 false p c st fc Z := by
  intro F G a3 a4 a5 h hsk hs hlp hfl hfw
  have hpl := h.2.2.2.2.2.2.2.1
  have ht := h.2.2.2.2.2.2.2.2.1
  obtain ⟨b0, b1, b2, b3, b4, b5, b6, b7, b8, b9, b10, b11, b12, b13, b14, b15, b16, b17, b18, b19, b20, b21, b22, b23⟩ := kw27
  show Td E d 141 11 [some (vr 40 0), some (vi (nI st.length)), some (vi 0), a3, a4, a5] [] x F G b _ _
  have hlt := tN_lt (isSg_lt e60)
  have hp1 := isSg_lt e60
  refine d_run 1 rfl ?_
  refine d_if_eq k141_12 (fun h12 => ?_) (fun h12 => ?_)
  · refine d_run 2 rfl ?_
    refine d_callT 2 k141_182 (by omega) (Nat.le_of_ble_eq_true rfl) rfl (Nat.le_of_ble_eq_true rfl) (Nat.le_of_ble_eq_true rfl) (recv_ok rfl (by first | assumption | exact Nat.le_of_ble_eq_true rfl | omega)) rfl (m_isSg (c := 43) (by decide) h) rfl ?_
    rw [e43]
    refine d_if_ne k141_185 (fun h185 => ?_) (fun h185 => ?_)
    · first | exact absurd h185 (by decide) | exact absurd rfl h185
    · refine d_run 2 rfl ?_
      refine d_callT 2 k141_191 (by omega) (Nat.le_of_ble_eq_true rfl) rfl (Nat.le_of_ble_eq_true rfl) (Nat.le_of_ble_eq_true rfl) (recv_ok rfl (by first | assumption | exact Nat.le_of_ble_eq_true rfl | omega)) rfl (m_isSg (c := 45) (by decide) h) rfl ?_
      rw [e45]
      refine d_if_ne k141_194 (fun h194 => ?_) (fun h194 => ?_)
      · first | exact absurd h194 (by decide) | exact absurd rfl h194
      · refine d_run 2 rfl ?_
        refine d_callT 2 k141_200 (by omega) (Nat.le_of_ble_eq_true rfl) rfl (Nat.le_of_ble_eq_true rfl) (Nat.le_of_ble_eq_true rfl) (recv_ok rfl (by first | assumption | exact Nat.le_of_ble_eq_true rfl | omega)) rfl (m_isSg (c := 42) (by decide) h) rfl ?_
        rw [e42]
        refine d_if_eq k141_203 (fun h203 => ?_) (fun h203 => ?_)
        · refine d_run 2 rfl ?_
          refine d_callT 2 k141_248 (by omega) (Nat.le_of_ble_eq_true rfl) rfl (Nat.le_of_ble_eq_true rfl) (Nat.le_of_ble_eq_true rfl) (recv_ok rfl (by first | assumption | exact Nat.le_of_ble_eq_true rfl | omega)) rfl (m_isSg (c := 60) (by decide) h) rfl ?_
          rw [e60]
          refine d_if_ne k141_251 (fun h251 => ?_) (fun h251 => ?_)
          · refine d_run 1 rfl ?_
            refine d_gR k141_264 (by first | assumption | exact Nat.le_of_ble_eq_true rfl | omega) ⟨rfl, rfl, rfl⟩ rfl ?_
            refine d_run 1 rfl ?_
            refine d_ia (N := 7) (j := st.length) k141_268 (by decide) (by first | assumption | exact Nat.le_of_ble_eq_true rfl | omega) ⟨⟨rfl, rfl⟩, rfl, rfl⟩ (show st.length < 7 by omega) rfl ?_
            rw [hsk.c, hc]
            refine d_if_ne k141_269 (fun h269 => ?_) (fun h269 => ?_)
            · first | exact absurd h269 (by decide) | exact absurd rfl h269
            · refine d_run 3 rfl ?_
              refine d_callT 2 k141_276 (by omega) (Nat.le_of_ble_eq_true rfl) rfl (Nat.le_of_ble_eq_true rfl) (Nat.le_of_ble_eq_true rfl) (recv_ok rfl (by first | assumption | exact Nat.le_of_ble_eq_true rfl | omega)) rfl (m_isSg (c := 60) (by decide) h) rfl ?_
              rw [e60]
              refine d_if_eq k141_279 (fun h279 => ?_) (fun h279 => ?_)
              · first | exact absurd h279 (by decide) | exact absurd rfl h279
              · refine d_run 2 rfl ?_
                refine d_callT 2 k141_289 (by omega) (Nat.le_of_ble_eq_true rfl) rfl (Nat.le_of_ble_eq_true rfl) (Nat.le_of_ble_eq_true rfl) (recv_ok rfl (by first | assumption | exact Nat.le_of_ble_eq_true rfl | omega)) rfl (m_puts hlp (by omega)) rfl ?_
                refine d_run 1 rfl ?_
                refine d_gR k141_293 (by first | assumption | exact Nat.le_of_ble_eq_true rfl | omega) ⟨rfl, rfl, rfl⟩ rfl ?_
                refine d_run 2 rfl ?_
                refine d_zs (N := 7) (j := st.length) k141_298 (by first | assumption | exact Nat.le_of_ble_eq_true rfl | omega) ⟨rfl, rfl⟩ (show st.length < 7 by omega) rfl (by first | exact Or.inl rfl | exact Or.inr rfl) ?_
                refine d_run 3 rfl ?_
                refine rd_nx424 hd (((h.k (by decide) (by decide)).u (by omega)).k (by decide) (by decide)) (fun F1 G1 r1 n1 => ?_)
                exact hz _ _ _ _ _ r1 (((((hsk.k (by decide)).k (by decide)).sc (c2 := true))).nx n1) (by omega) ((hlp.ad.fr (by rw [uF_q (by omega)]) (by rw [uF_k (by decide)])).nx n1) (by rw [List.length_append]; show fc.length + 1 ≤ _; omega) ((((hfw.u (by omega)).u (by omega)).u (by omega)).tr n1.w)
          · first | exact absurd h251 (by decide) | exact absurd rfl h251
        · first | exact absurd h203 (by decide) | exact absurd rfl h203
  · exact absurd rfl h12
theorem x_cmpb (hd : 5 ≤ d) (e43 : isSg t p 43 = false) (e45 : isSg t p 45 = false) (e42 : isSg t p 42 = false) (e60 : isSg t p 60 = false) (e61 : isSg t p 61 = true) (hc : c = false) (hz : RX E d x b t F0 G0 true (tN t p) true st (fc ++ [25]) Z) : RX E d x b t F0 G0 false p c st fc Z := by
  intro F G a3 a4 a5 h hsk hs hlp hfl hfw
  have hpl := h.2.2.2.2.2.2.2.1
  have ht := h.2.2.2.2.2.2.2.2.1
  obtain ⟨b0, b1, b2, b3, b4, b5, b6, b7, b8, b9, b10, b11, b12, b13, b14, b15, b16, b17, b18, b19, b20, b21, b22, b23⟩ := kw27
  show Td E d 141 11 [some (vr 40 0), some (vi (nI st.length)), some (vi 0), a3, a4, a5] [] x F G b _ _
  have hlt := tN_lt (isSg_lt e61)
  have hp1 := isSg_lt e61
  refine d_run 1 rfl ?_
  refine d_if_eq k141_12 (fun h12 => ?_) (fun h12 => ?_)
  · refine d_run 2 rfl ?_
    refine d_callT 2 k141_182 (by omega) (Nat.le_of_ble_eq_true rfl) rfl (Nat.le_of_ble_eq_true rfl) (Nat.le_of_ble_eq_true rfl) (recv_ok rfl (by first | assumption | exact Nat.le_of_ble_eq_true rfl | omega)) rfl (m_isSg (c := 43) (by decide) h) rfl ?_
    rw [e43]
    refine d_if_ne k141_185 (fun h185 => ?_) (fun h185 => ?_)
    · first | exact absurd h185 (by decide) | exact absurd rfl h185
    · refine d_run 2 rfl ?_
      refine d_callT 2 k141_191 (by omega) (Nat.le_of_ble_eq_true rfl) rfl (Nat.le_of_ble_eq_true rfl) (Nat.le_of_ble_eq_true rfl) (recv_ok rfl (by first | assumption | exact Nat.le_of_ble_eq_true rfl | omega)) rfl (m_isSg (c := 45) (by decide) h) rfl ?_
      rw [e45]
      refine d_if_ne k141_194 (fun h194 => ?_) (fun h194 => ?_)
      · first | exact absurd h194 (by decide) | exact absurd rfl h194
      · refine d_run 2 rfl ?_
        refine d_callT 2 k141_200 (by omega) (Nat.le_of_ble_eq_true rfl) rfl (Nat.le_of_ble_eq_true rfl) (Nat.le_of_ble_eq_true rfl) (recv_ok rfl (by first | assumption | exact Nat.le_of_ble_eq_true rfl | omega)) rfl (m_isSg (c := 42) (by decide) h) rfl ?_
        rw [e42]
        refine d_if_eq k141_203 (fun h203 => ?_) (fun h203 => ?_)
        · refine d_run 2 rfl ?_
          refine d_callT 2 k141_248 (by omega) (Nat.le_of_ble_eq_true rfl) rfl (Nat.le_of_ble_eq_true rfl) (Nat.le_of_ble_eq_true rfl) (recv_ok rfl (by first | assumption | exact Nat.le_of_ble_eq_true rfl | omega)) rfl (m_isSg (c := 60) (by decide) h) rfl ?_
          rw [e60]
          refine d_if_ne k141_251 (fun h251 => ?_) (fun h251 => ?_)
          · first | exact absurd h251 (by decide) | exact absurd rfl h251
          · refine d_run 2 rfl ?_
            refine d_callT 2 k141_257 (by omega) (Nat.le_of_ble_eq_true rfl) rfl (Nat.le_of_ble_eq_true rfl) (Nat.le_of_ble_eq_true rfl) (recv_ok rfl (by first | assumption | exact Nat.le_of_ble_eq_true rfl | omega)) rfl (m_isSg (c := 61) (by decide) h) rfl ?_
            rw [e61]
            refine d_if_eq k141_260 (fun h260 => ?_) (fun h260 => ?_)
            · first | exact absurd h260 (by decide) | exact absurd rfl h260
            · refine d_run 1 rfl ?_
              refine d_gR k141_264 (by first | assumption | exact Nat.le_of_ble_eq_true rfl | omega) ⟨rfl, rfl, rfl⟩ rfl ?_
              refine d_run 1 rfl ?_
              refine d_ia (N := 7) (j := st.length) k141_268 (by decide) (by first | assumption | exact Nat.le_of_ble_eq_true rfl | omega) ⟨⟨rfl, rfl⟩, rfl, rfl⟩ (show st.length < 7 by omega) rfl ?_
              rw [hsk.c, hc]
              refine d_if_ne k141_269 (fun h269 => ?_) (fun h269 => ?_)
              · first | exact absurd h269 (by decide) | exact absurd rfl h269
              · refine d_run 3 rfl ?_
                refine d_callT 2 k141_276 (by omega) (Nat.le_of_ble_eq_true rfl) rfl (Nat.le_of_ble_eq_true rfl) (Nat.le_of_ble_eq_true rfl) (recv_ok rfl (by first | assumption | exact Nat.le_of_ble_eq_true rfl | omega)) rfl (m_isSg (c := 60) (by decide) h) rfl ?_
                rw [e60]
                refine d_if_eq k141_279 (fun h279 => ?_) (fun h279 => ?_)
                · refine d_run 1 rfl ?_
                  refine d_callT 2 k141_289 (by omega) (Nat.le_of_ble_eq_true rfl) rfl (Nat.le_of_ble_eq_true rfl) (Nat.le_of_ble_eq_true rfl) (recv_ok rfl (by first | assumption | exact Nat.le_of_ble_eq_true rfl | omega)) rfl (m_puts hlp (by omega)) rfl ?_
                  refine d_run 1 rfl ?_
                  refine d_gR k141_293 (by first | assumption | exact Nat.le_of_ble_eq_true rfl | omega) ⟨rfl, rfl, rfl⟩ rfl ?_
                  refine d_run 2 rfl ?_
                  refine d_zs (N := 7) (j := st.length) k141_298 (by first | assumption | exact Nat.le_of_ble_eq_true rfl | omega) ⟨rfl, rfl⟩ (show st.length < 7 by omega) rfl (by first | exact Or.inl rfl | exact Or.inr rfl) ?_
                  refine d_run 3 rfl ?_
                  refine rd_nx424 hd (((h.k (by decide) (by decide)).u (by omega)).k (by decide) (by decide)) (fun F1 G1 r1 n1 => ?_)
                  exact hz _ _ _ _ _ r1 (((((hsk.k (by decide)).k (by decide)).sc (c2 := true))).nx n1) (by omega) ((hlp.ad.fr (by rw [uF_q (by omega)]) (by rw [uF_k (by decide)])).nx n1) (by rw [List.length_append]; show fc.length + 1 ≤ _; omega) ((((hfw.u (by omega)).u (by omega)).u (by omega)).tr n1.w)
                · first | exact absurd h279 (by decide) | exact absurd rfl h279
        · first | exact absurd h203 (by decide) | exact absurd rfl h203
  · exact absurd rfl h12
theorem x_lga (hd : 5 ≤ d) (e43 : isSg t p 43 = false) (e45 : isSg t p 45 = false) (e42 : isSg t p 42 = false) (e60 : isSg t p 60 = false) (e61 : isSg t p 61 = false) (e20 : isWd t p 20 = true) (hz : RX E d x b t F0 G0 true (tN t p) false st (fc ++ [26]) Z) : RX E d x b t F0 G0 false p c st fc Z := by
  intro F G a3 a4 a5 h hsk hs hlp hfl hfw
  have hpl := h.2.2.2.2.2.2.2.1
  have ht := h.2.2.2.2.2.2.2.2.1
  obtain ⟨b0, b1, b2, b3, b4, b5, b6, b7, b8, b9, b10, b11, b12, b13, b14, b15, b16, b17, b18, b19, b20, b21, b22, b23⟩ := kw27
  show Td E d 141 11 [some (vr 40 0), some (vi (nI st.length)), some (vi 0), a3, a4, a5] [] x F G b _ _
  have hlt := tN_lt (isWd_lt e20)
  have hp1 := isWd_lt e20
  refine d_run 1 rfl ?_
  refine d_if_eq k141_12 (fun h12 => ?_) (fun h12 => ?_)
  · refine d_run 2 rfl ?_
    refine d_callT 2 k141_182 (by omega) (Nat.le_of_ble_eq_true rfl) rfl (Nat.le_of_ble_eq_true rfl) (Nat.le_of_ble_eq_true rfl) (recv_ok rfl (by first | assumption | exact Nat.le_of_ble_eq_true rfl | omega)) rfl (m_isSg (c := 43) (by decide) h) rfl ?_
    rw [e43]
    refine d_if_ne k141_185 (fun h185 => ?_) (fun h185 => ?_)
    · first | exact absurd h185 (by decide) | exact absurd rfl h185
    · refine d_run 2 rfl ?_
      refine d_callT 2 k141_191 (by omega) (Nat.le_of_ble_eq_true rfl) rfl (Nat.le_of_ble_eq_true rfl) (Nat.le_of_ble_eq_true rfl) (recv_ok rfl (by first | assumption | exact Nat.le_of_ble_eq_true rfl | omega)) rfl (m_isSg (c := 45) (by decide) h) rfl ?_
      rw [e45]
      refine d_if_ne k141_194 (fun h194 => ?_) (fun h194 => ?_)
      · first | exact absurd h194 (by decide) | exact absurd rfl h194
      · refine d_run 2 rfl ?_
        refine d_callT 2 k141_200 (by omega) (Nat.le_of_ble_eq_true rfl) rfl (Nat.le_of_ble_eq_true rfl) (Nat.le_of_ble_eq_true rfl) (recv_ok rfl (by first | assumption | exact Nat.le_of_ble_eq_true rfl | omega)) rfl (m_isSg (c := 42) (by decide) h) rfl ?_
        rw [e42]
        refine d_if_eq k141_203 (fun h203 => ?_) (fun h203 => ?_)
        · refine d_run 2 rfl ?_
          refine d_callT 2 k141_248 (by omega) (Nat.le_of_ble_eq_true rfl) rfl (Nat.le_of_ble_eq_true rfl) (Nat.le_of_ble_eq_true rfl) (recv_ok rfl (by first | assumption | exact Nat.le_of_ble_eq_true rfl | omega)) rfl (m_isSg (c := 60) (by decide) h) rfl ?_
          rw [e60]
          refine d_if_ne k141_251 (fun h251 => ?_) (fun h251 => ?_)
          · first | exact absurd h251 (by decide) | exact absurd rfl h251
          · refine d_run 2 rfl ?_
            refine d_callT 2 k141_257 (by omega) (Nat.le_of_ble_eq_true rfl) rfl (Nat.le_of_ble_eq_true rfl) (Nat.le_of_ble_eq_true rfl) (recv_ok rfl (by first | assumption | exact Nat.le_of_ble_eq_true rfl | omega)) rfl (m_isSg (c := 61) (by decide) h) rfl ?_
            rw [e61]
            refine d_if_eq k141_260 (fun h260 => ?_) (fun h260 => ?_)
            · refine d_run 2 rfl ?_
              refine d_callT 2 k141_308 (by omega) (Nat.le_of_ble_eq_true rfl) rfl (Nat.le_of_ble_eq_true rfl) (Nat.le_of_ble_eq_true rfl) (recv_ok rfl (by first | assumption | exact Nat.le_of_ble_eq_true rfl | omega)) rfl (m_isWd (n := 20) b18 (by decide) (by decide) (by decide) h) rfl ?_
              rw [e20]
              refine d_if_ne k141_311 (fun h311 => ?_) (fun h311 => ?_)
              · refine d_run 3 rfl ?_
                refine d_callT 2 k141_329 (by omega) (Nat.le_of_ble_eq_true rfl) rfl (Nat.le_of_ble_eq_true rfl) (Nat.le_of_ble_eq_true rfl) (recv_ok rfl (by first | assumption | exact Nat.le_of_ble_eq_true rfl | omega)) rfl (m_isWd (n := 20) b18 (by decide) (by decide) (by decide) h) rfl ?_
                rw [e20]
                refine d_if_eq k141_332 (fun h332 => ?_) (fun h332 => ?_)
                · first | exact absurd h332 (by decide) | exact absurd rfl h332
                · refine d_run 2 rfl ?_
                  refine d_callT 2 k141_342 (by omega) (Nat.le_of_ble_eq_true rfl) rfl (Nat.le_of_ble_eq_true rfl) (Nat.le_of_ble_eq_true rfl) (recv_ok rfl (by first | assumption | exact Nat.le_of_ble_eq_true rfl | omega)) rfl (m_puts hlp (by omega)) rfl ?_
                  refine d_run 1 rfl ?_
                  refine d_gR k141_346 (by first | assumption | exact Nat.le_of_ble_eq_true rfl | omega) ⟨rfl, rfl, rfl⟩ rfl ?_
                  refine d_run 2 rfl ?_
                  refine d_zs (N := 7) (j := st.length) k141_351 (by first | assumption | exact Nat.le_of_ble_eq_true rfl | omega) ⟨rfl, rfl⟩ (show st.length < 7 by omega) rfl (by first | exact Or.inl rfl | exact Or.inr rfl) ?_
                  refine d_run 3 rfl ?_
                  refine rd_nx424 hd (((h.k (by decide) (by decide)).u (by omega)).k (by decide) (by decide)) (fun F1 G1 r1 n1 => ?_)
                  exact hz _ _ _ _ _ r1 (((((hsk.k (by decide)).k (by decide)).sc (c2 := false))).nx n1) (by omega) ((hlp.ad.fr (by rw [uF_q (by omega)]) (by rw [uF_k (by decide)])).nx n1) (by rw [List.length_append]; show fc.length + 1 ≤ _; omega) ((((hfw.u (by omega)).u (by omega)).u (by omega)).tr n1.w)
              · first | exact absurd h311 (by decide) | exact absurd rfl h311
            · first | exact absurd h260 (by decide) | exact absurd rfl h260
        · first | exact absurd h203 (by decide) | exact absurd rfl h203
  · exact absurd rfl h12
theorem x_lgb (hd : 5 ≤ d) (e43 : isSg t p 43 = false) (e45 : isSg t p 45 = false) (e42 : isSg t p 42 = false) (e60 : isSg t p 60 = false) (e61 : isSg t p 61 = false) (e20 : isWd t p 20 = false) (e21 : isWd t p 21 = true) (hz : RX E d x b t F0 G0 true (tN t p) false st (fc ++ [27]) Z) : RX E d x b t F0 G0 false p c st fc Z := by
  intro F G a3 a4 a5 h hsk hs hlp hfl hfw
  have hpl := h.2.2.2.2.2.2.2.1
  have ht := h.2.2.2.2.2.2.2.2.1
  obtain ⟨b0, b1, b2, b3, b4, b5, b6, b7, b8, b9, b10, b11, b12, b13, b14, b15, b16, b17, b18, b19, b20, b21, b22, b23⟩ := kw27
  show Td E d 141 11 [some (vr 40 0), some (vi (nI st.length)), some (vi 0), a3, a4, a5] [] x F G b _ _
  have hlt := tN_lt (isWd_lt e21)
  have hp1 := isWd_lt e21
  refine d_run 1 rfl ?_
  refine d_if_eq k141_12 (fun h12 => ?_) (fun h12 => ?_)
  · refine d_run 2 rfl ?_
    refine d_callT 2 k141_182 (by omega) (Nat.le_of_ble_eq_true rfl) rfl (Nat.le_of_ble_eq_true rfl) (Nat.le_of_ble_eq_true rfl) (recv_ok rfl (by first | assumption | exact Nat.le_of_ble_eq_true rfl | omega)) rfl (m_isSg (c := 43) (by decide) h) rfl ?_
    rw [e43]
    refine d_if_ne k141_185 (fun h185 => ?_) (fun h185 => ?_)
    · first | exact absurd h185 (by decide) | exact absurd rfl h185
    · refine d_run 2 rfl ?_
      refine d_callT 2 k141_191 (by omega) (Nat.le_of_ble_eq_true rfl) rfl (Nat.le_of_ble_eq_true rfl) (Nat.le_of_ble_eq_true rfl) (recv_ok rfl (by first | assumption | exact Nat.le_of_ble_eq_true rfl | omega)) rfl (m_isSg (c := 45) (by decide) h) rfl ?_
      rw [e45]
      refine d_if_ne k141_194 (fun h194 => ?_) (fun h194 => ?_)
      · first | exact absurd h194 (by decide) | exact absurd rfl h194
      · refine d_run 2 rfl ?_
        refine d_callT 2 k141_200 (by omega) (Nat.le_of_ble_eq_true rfl) rfl (Nat.le_of_ble_eq_true rfl) (Nat.le_of_ble_eq_true rfl) (recv_ok rfl (by first | assumption | exact Nat.le_of_ble_eq_true rfl | omega)) rfl (m_isSg (c := 42) (by decide) h) rfl ?_
        rw [e42]
        refine d_if_eq k141_203 (fun h203 => ?_) (fun h203 => ?_)
        · refine d_run 2 rfl ?_
          refine d_callT 2 k141_248 (by omega) (Nat.le_of_ble_eq_true rfl) rfl (Nat.le_of_ble_eq_true rfl) (Nat.le_of_ble_eq_true rfl) (recv_ok rfl (by first | assumption | exact Nat.le_of_ble_eq_true rfl | omega)) rfl (m_isSg (c := 60) (by decide) h) rfl ?_
          rw [e60]
          refine d_if_ne k141_251 (fun h251 => ?_) (fun h251 => ?_)
          · first | exact absurd h251 (by decide) | exact absurd rfl h251
          · refine d_run 2 rfl ?_
            refine d_callT 2 k141_257 (by omega) (Nat.le_of_ble_eq_true rfl) rfl (Nat.le_of_ble_eq_true rfl) (Nat.le_of_ble_eq_true rfl) (recv_ok rfl (by first | assumption | exact Nat.le_of_ble_eq_true rfl | omega)) rfl (m_isSg (c := 61) (by decide) h) rfl ?_
            rw [e61]
            refine d_if_eq k141_260 (fun h260 => ?_) (fun h260 => ?_)
            · refine d_run 2 rfl ?_
              refine d_callT 2 k141_308 (by omega) (Nat.le_of_ble_eq_true rfl) rfl (Nat.le_of_ble_eq_true rfl) (Nat.le_of_ble_eq_true rfl) (recv_ok rfl (by first | assumption | exact Nat.le_of_ble_eq_true rfl | omega)) rfl (m_isWd (n := 20) b18 (by decide) (by decide) (by decide) h) rfl ?_
              rw [e20]
              refine d_if_ne k141_311 (fun h311 => ?_) (fun h311 => ?_)
              · first | exact absurd h311 (by decide) | exact absurd rfl h311
              · refine d_run 2 rfl ?_
                refine d_callT 2 k141_318 (by omega) (Nat.le_of_ble_eq_true rfl) rfl (Nat.le_of_ble_eq_true rfl) (Nat.le_of_ble_eq_true rfl) (recv_ok rfl (by first | assumption | exact Nat.le_of_ble_eq_true rfl | omega)) rfl (m_isWd (n := 21) b19 (by decide) (by decide) (by decide) h) rfl ?_
                rw [e21]
                refine d_if_eq k141_321 (fun h321 => ?_) (fun h321 => ?_)
                · first | exact absurd h321 (by decide) | exact absurd rfl h321
                · refine d_run 3 rfl ?_
                  refine d_callT 2 k141_329 (by omega) (Nat.le_of_ble_eq_true rfl) rfl (Nat.le_of_ble_eq_true rfl) (Nat.le_of_ble_eq_true rfl) (recv_ok rfl (by first | assumption | exact Nat.le_of_ble_eq_true rfl | omega)) rfl (m_isWd (n := 20) b18 (by decide) (by decide) (by decide) h) rfl ?_
                  rw [e20]
                  refine d_if_eq k141_332 (fun h332 => ?_) (fun h332 => ?_)
                  · refine d_run 1 rfl ?_
                    refine d_callT 2 k141_342 (by omega) (Nat.le_of_ble_eq_true rfl) rfl (Nat.le_of_ble_eq_true rfl) (Nat.le_of_ble_eq_true rfl) (recv_ok rfl (by first | assumption | exact Nat.le_of_ble_eq_true rfl | omega)) rfl (m_puts hlp (by omega)) rfl ?_
                    refine d_run 1 rfl ?_
                    refine d_gR k141_346 (by first | assumption | exact Nat.le_of_ble_eq_true rfl | omega) ⟨rfl, rfl, rfl⟩ rfl ?_
                    refine d_run 2 rfl ?_
                    refine d_zs (N := 7) (j := st.length) k141_351 (by first | assumption | exact Nat.le_of_ble_eq_true rfl | omega) ⟨rfl, rfl⟩ (show st.length < 7 by omega) rfl (by first | exact Or.inl rfl | exact Or.inr rfl) ?_
                    refine d_run 3 rfl ?_
                    refine rd_nx424 hd (((h.k (by decide) (by decide)).u (by omega)).k (by decide) (by decide)) (fun F1 G1 r1 n1 => ?_)
                    exact hz _ _ _ _ _ r1 (((((hsk.k (by decide)).k (by decide)).sc (c2 := false))).nx n1) (by omega) ((hlp.ad.fr (by rw [uF_q (by omega)]) (by rw [uF_k (by decide)])).nx n1) (by rw [List.length_append]; show fc.length + 1 ≤ _; omega) ((((hfw.u (by omega)).u (by omega)).u (by omega)).tr n1.w)
                  · first | exact absurd h332 (by decide) | exact absurd rfl h332
            · first | exact absurd h260 (by decide) | exact absurd rfl h260
        · first | exact absurd h203 (by decide) | exact absurd rfl h203
  · exact absurd rfl h12
theorem x_cl (hd : 5 ≤ d) {kd c1 : Bool} (e43 : isSg t p 43 = false) (e45 : isSg t p 45 = false) (e42 : isSg t p 42 = false) (e60 : isSg t p 60 = false) (e61 : isSg t p 61 = false) (e20 : isWd t p 20 = false) (e21 : isWd t p 21 = false) (e41 : isSg t p 41 = true) (hz : RX E d x b t F0 G0 false (tN t p) (pn c1 st).1 (pn c1 st).2 (fc ++ [29]) Z) : RX E d x b t F0 G0 false p c ((kd, c1) :: st) fc Z := by
  intro F G a3 a4 a5 h hsk hs hlp hfl hfw
  have hpl := h.2.2.2.2.2.2.2.1
  have ht := h.2.2.2.2.2.2.2.2.1
  obtain ⟨b0, b1, b2, b3, b4, b5, b6, b7, b8, b9, b10, b11, b12, b13, b14, b15, b16, b17, b18, b19, b20, b21, b22, b23⟩ := kw27
  have hs : st.length + 1 ≤ 5 := hs
  have hsk1 := hsk.2.2
  have hpl2 := pn_le (c := c1) (st := st)
  have hlt := tN_lt (isSg_lt e41)
  have hp1 := isSg_lt e41
  show Td E d 141 11 [some (vr 40 0), some (vi (nI (st.length + 1))), some (vi 0), a3, a4, a5] [] x F G b _ _
  refine d_run 1 rfl ?_
  refine d_if_eq k141_12 (fun h12 => ?_) (fun h12 => ?_)
  · refine d_run 2 rfl ?_
    refine d_callT 2 k141_182 (by omega) (Nat.le_of_ble_eq_true rfl) rfl (Nat.le_of_ble_eq_true rfl) (Nat.le_of_ble_eq_true rfl) (recv_ok rfl (by first | assumption | exact Nat.le_of_ble_eq_true rfl | omega)) rfl (m_isSg (c := 43) (by decide) h) rfl ?_
    rw [e43]
    refine d_if_ne k141_185 (fun h185 => ?_) (fun h185 => ?_)
    · first | exact absurd h185 (by decide) | exact absurd rfl h185
    · refine d_run 2 rfl ?_
      refine d_callT 2 k141_191 (by omega) (Nat.le_of_ble_eq_true rfl) rfl (Nat.le_of_ble_eq_true rfl) (Nat.le_of_ble_eq_true rfl) (recv_ok rfl (by first | assumption | exact Nat.le_of_ble_eq_true rfl | omega)) rfl (m_isSg (c := 45) (by decide) h) rfl ?_
      rw [e45]
      refine d_if_ne k141_194 (fun h194 => ?_) (fun h194 => ?_)
      · first | exact absurd h194 (by decide) | exact absurd rfl h194
      · refine d_run 2 rfl ?_
        refine d_callT 2 k141_200 (by omega) (Nat.le_of_ble_eq_true rfl) rfl (Nat.le_of_ble_eq_true rfl) (Nat.le_of_ble_eq_true rfl) (recv_ok rfl (by first | assumption | exact Nat.le_of_ble_eq_true rfl | omega)) rfl (m_isSg (c := 42) (by decide) h) rfl ?_
        rw [e42]
        refine d_if_eq k141_203 (fun h203 => ?_) (fun h203 => ?_)
        · refine d_run 2 rfl ?_
          refine d_callT 2 k141_248 (by omega) (Nat.le_of_ble_eq_true rfl) rfl (Nat.le_of_ble_eq_true rfl) (Nat.le_of_ble_eq_true rfl) (recv_ok rfl (by first | assumption | exact Nat.le_of_ble_eq_true rfl | omega)) rfl (m_isSg (c := 60) (by decide) h) rfl ?_
          rw [e60]
          refine d_if_ne k141_251 (fun h251 => ?_) (fun h251 => ?_)
          · first | exact absurd h251 (by decide) | exact absurd rfl h251
          · refine d_run 2 rfl ?_
            refine d_callT 2 k141_257 (by omega) (Nat.le_of_ble_eq_true rfl) rfl (Nat.le_of_ble_eq_true rfl) (Nat.le_of_ble_eq_true rfl) (recv_ok rfl (by first | assumption | exact Nat.le_of_ble_eq_true rfl | omega)) rfl (m_isSg (c := 61) (by decide) h) rfl ?_
            rw [e61]
            refine d_if_eq k141_260 (fun h260 => ?_) (fun h260 => ?_)
            · refine d_run 2 rfl ?_
              refine d_callT 2 k141_308 (by omega) (Nat.le_of_ble_eq_true rfl) rfl (Nat.le_of_ble_eq_true rfl) (Nat.le_of_ble_eq_true rfl) (recv_ok rfl (by first | assumption | exact Nat.le_of_ble_eq_true rfl | omega)) rfl (m_isWd (n := 20) b18 (by decide) (by decide) (by decide) h) rfl ?_
              rw [e20]
              refine d_if_ne k141_311 (fun h311 => ?_) (fun h311 => ?_)
              · first | exact absurd h311 (by decide) | exact absurd rfl h311
              · refine d_run 2 rfl ?_
                refine d_callT 2 k141_318 (by omega) (Nat.le_of_ble_eq_true rfl) rfl (Nat.le_of_ble_eq_true rfl) (Nat.le_of_ble_eq_true rfl) (recv_ok rfl (by first | assumption | exact Nat.le_of_ble_eq_true rfl | omega)) rfl (m_isWd (n := 21) b19 (by decide) (by decide) (by decide) h) rfl ?_
                rw [e21]
                refine d_if_eq k141_321 (fun h321 => ?_) (fun h321 => ?_)
                · refine d_run 2 rfl ?_
                  refine d_callT 2 k141_360 (by omega) (Nat.le_of_ble_eq_true rfl) rfl (Nat.le_of_ble_eq_true rfl) (Nat.le_of_ble_eq_true rfl) (recv_ok rfl (by first | assumption | exact Nat.le_of_ble_eq_true rfl | omega)) rfl (m_isSg (c := 41) (by decide) h) rfl ?_
                  rw [e41]
                  refine d_if_eq k141_363 (fun h363 => ?_) (fun h363 => ?_)
                  · first | exact absurd h363 (by decide) | exact absurd rfl h363
                  · refine d_run 1 rfl ?_
                    refine d_if_le k141_367 (fun h367 => ?_) (fun h367 => ?_)
                    · exact absurd (le0_z h367 (by omega)) (by omega)
                    · refine d_run 2 rfl ?_
                      refine d_callT 2 k141_373 (by omega) (Nat.le_of_ble_eq_true rfl) rfl (Nat.le_of_ble_eq_true rfl) (Nat.le_of_ble_eq_true rfl) (recv_ok rfl (by first | assumption | exact Nat.le_of_ble_eq_true rfl | omega)) rfl (m_puts hlp (by omega)) rfl ?_
                      refine d_run 1 rfl ?_
                      rw [show nI (st.length + 1) + -1 = nI st.length from nI_p1 (by omega)]
                      refine rd_pop379 st c1 (by omega) ((hsk1.k (by decide)).k (by decide)) ?_
                      refine rd_nx424 hd ((h.k (by decide) (by decide)).u (by omega)) (fun F1 G1 r1 n1 => ?_)
                      exact hz _ _ _ _ _ r1 ((((hsk1.k (by decide)).k (by decide)).pn).nx n1) (by omega) (hlp.ad.nx n1) (by rw [List.length_append]; show fc.length + 1 ≤ _; omega) (((hfw.u (by omega)).u (by omega)).tr n1.w)
                · first | exact absurd h321 (by decide) | exact absurd rfl h321
            · first | exact absurd h260 (by decide) | exact absurd rfl h260
        · first | exact absurd h203 (by decide) | exact absurd rfl h203
  · exact absurd rfl h12
theorem x_en (hd : 5 ≤ d) (e43 : isSg t p 43 = false) (e45 : isSg t p 45 = false) (e42 : isSg t p 42 = false) (e60 : isSg t p 60 = false) (e61 : isSg t p 61 = false) (e20 : isWd t p 20 = false) (e21 : isWd t p 21 = false) (e41 : isSg t p 41 = false) (e59 : isSg t p 59 = true) : RX E d x b t F0 G0 false p c [] fc (.inr (tN t p, fc)) := by
  intro F G a3 a4 a5 h hsk hs hlp hfl hfw
  have hpl := h.2.2.2.2.2.2.2.1
  have ht := h.2.2.2.2.2.2.2.2.1
  obtain ⟨b0, b1, b2, b3, b4, b5, b6, b7, b8, b9, b10, b11, b12, b13, b14, b15, b16, b17, b18, b19, b20, b21, b22, b23⟩ := kw27
  show Td E d 141 11 [some (vr 40 0), some (vi (nI 0)), some (vi 0), a3, a4, a5] [] x F G b _ _
  refine d_run 1 rfl ?_
  refine d_if_eq k141_12 (fun h12 => ?_) (fun h12 => ?_)
  · refine d_run 2 rfl ?_
    refine d_callT 2 k141_182 (by omega) (Nat.le_of_ble_eq_true rfl) rfl (Nat.le_of_ble_eq_true rfl) (Nat.le_of_ble_eq_true rfl) (recv_ok rfl (by first | assumption | exact Nat.le_of_ble_eq_true rfl | omega)) rfl (m_isSg (c := 43) (by decide) h) rfl ?_
    rw [e43]
    refine d_if_ne k141_185 (fun h185 => ?_) (fun h185 => ?_)
    · first | exact absurd h185 (by decide) | exact absurd rfl h185
    · refine d_run 2 rfl ?_
      refine d_callT 2 k141_191 (by omega) (Nat.le_of_ble_eq_true rfl) rfl (Nat.le_of_ble_eq_true rfl) (Nat.le_of_ble_eq_true rfl) (recv_ok rfl (by first | assumption | exact Nat.le_of_ble_eq_true rfl | omega)) rfl (m_isSg (c := 45) (by decide) h) rfl ?_
      rw [e45]
      refine d_if_ne k141_194 (fun h194 => ?_) (fun h194 => ?_)
      · first | exact absurd h194 (by decide) | exact absurd rfl h194
      · refine d_run 2 rfl ?_
        refine d_callT 2 k141_200 (by omega) (Nat.le_of_ble_eq_true rfl) rfl (Nat.le_of_ble_eq_true rfl) (Nat.le_of_ble_eq_true rfl) (recv_ok rfl (by first | assumption | exact Nat.le_of_ble_eq_true rfl | omega)) rfl (m_isSg (c := 42) (by decide) h) rfl ?_
        rw [e42]
        refine d_if_eq k141_203 (fun h203 => ?_) (fun h203 => ?_)
        · refine d_run 2 rfl ?_
          refine d_callT 2 k141_248 (by omega) (Nat.le_of_ble_eq_true rfl) rfl (Nat.le_of_ble_eq_true rfl) (Nat.le_of_ble_eq_true rfl) (recv_ok rfl (by first | assumption | exact Nat.le_of_ble_eq_true rfl | omega)) rfl (m_isSg (c := 60) (by decide) h) rfl ?_
          rw [e60]
          refine d_if_ne k141_251 (fun h251 => ?_) (fun h251 => ?_)
          · first | exact absurd h251 (by decide) | exact absurd rfl h251
          · refine d_run 2 rfl ?_
            refine d_callT 2 k141_257 (by omega) (Nat.le_of_ble_eq_true rfl) rfl (Nat.le_of_ble_eq_true rfl) (Nat.le_of_ble_eq_true rfl) (recv_ok rfl (by first | assumption | exact Nat.le_of_ble_eq_true rfl | omega)) rfl (m_isSg (c := 61) (by decide) h) rfl ?_
            rw [e61]
            refine d_if_eq k141_260 (fun h260 => ?_) (fun h260 => ?_)
            · refine d_run 2 rfl ?_
              refine d_callT 2 k141_308 (by omega) (Nat.le_of_ble_eq_true rfl) rfl (Nat.le_of_ble_eq_true rfl) (Nat.le_of_ble_eq_true rfl) (recv_ok rfl (by first | assumption | exact Nat.le_of_ble_eq_true rfl | omega)) rfl (m_isWd (n := 20) b18 (by decide) (by decide) (by decide) h) rfl ?_
              rw [e20]
              refine d_if_ne k141_311 (fun h311 => ?_) (fun h311 => ?_)
              · first | exact absurd h311 (by decide) | exact absurd rfl h311
              · refine d_run 2 rfl ?_
                refine d_callT 2 k141_318 (by omega) (Nat.le_of_ble_eq_true rfl) rfl (Nat.le_of_ble_eq_true rfl) (Nat.le_of_ble_eq_true rfl) (recv_ok rfl (by first | assumption | exact Nat.le_of_ble_eq_true rfl | omega)) rfl (m_isWd (n := 21) b19 (by decide) (by decide) (by decide) h) rfl ?_
                rw [e21]
                refine d_if_eq k141_321 (fun h321 => ?_) (fun h321 => ?_)
                · refine d_run 2 rfl ?_
                  refine d_callT 2 k141_360 (by omega) (Nat.le_of_ble_eq_true rfl) rfl (Nat.le_of_ble_eq_true rfl) (Nat.le_of_ble_eq_true rfl) (recv_ok rfl (by first | assumption | exact Nat.le_of_ble_eq_true rfl | omega)) rfl (m_isSg (c := 41) (by decide) h) rfl ?_
                  rw [e41]
                  refine d_if_eq k141_363 (fun h363 => ?_) (fun h363 => ?_)
                  · refine d_run 1 rfl ?_
                    refine d_if_ne k141_400 (fun h400 => ?_) (fun h400 => ?_)
                    · exact absurd rfl h400
                    · refine d_run 2 rfl ?_
                      refine d_callT 2 k141_406 (by omega) (Nat.le_of_ble_eq_true rfl) rfl (Nat.le_of_ble_eq_true rfl) (Nat.le_of_ble_eq_true rfl) (recv_ok rfl (by first | assumption | exact Nat.le_of_ble_eq_true rfl | omega)) rfl (m_isSg (c := 59) (by decide) h) rfl ?_
                      rw [e59]
                      refine d_if_eq k141_409 (fun h409 => ?_) (fun h409 => ?_)
                      · first | exact absurd h409 (by decide) | exact absurd rfl h409
                      · refine d_run 1 rfl ?_
                        refine d_call 1 k141_413 (by omega) (Nat.le_of_ble_eq_true rfl) rfl (Nat.le_of_ble_eq_true rfl) (Nat.le_of_ble_eq_true rfl) (recv_ok rfl (by first | assumption | exact Nat.le_of_ble_eq_true rfl | omega)) rfl (m_nx (by omega) h) rfl ?_
                        rintro F1 G1 ⟨r1, n1⟩
                        refine d_run 1 rfl ?_
                        refine d_ib k141_417 (by rfl) ?_
                        exact ⟨hfw.tr n1.w, r1, hlp.nx n1⟩
                  · first | exact absurd h363 (by decide) | exact absurd rfl h363
                · first | exact absurd h321 (by decide) | exact absurd rfl h321
            · first | exact absurd h260 (by decide) | exact absurd rfl h260
        · first | exact absurd h203 (by decide) | exact absurd rfl h203
  · exact absurd rfl h12
theorem x_no (hd : 5 ≤ d) (e43 : isSg t p 43 = false) (e45 : isSg t p 45 = false) (e42 : isSg t p 42 = false) (hj : ¬ jc 1 t p = 0 → c = true) (e20 : isWd t p 20 = false) (e21 : isWd t p 21 = false) (h5 : isSg t p 41 = true → st = []) (h6 : st = [] → isSg t p 59 = false) : RX E d x b t F0 G0 false p c st fc (.inl (1 + 16 * p)) := by
  intro F G a3 a4 a5 h hsk hs hlp hfl hfw
  have hpl := h.2.2.2.2.2.2.2.1
  have ht := h.2.2.2.2.2.2.2.2.1
  obtain ⟨b0, b1, b2, b3, b4, b5, b6, b7, b8, b9, b10, b11, b12, b13, b14, b15, b16, b17, b18, b19, b20, b21, b22, b23⟩ := kw27
  show Td E d 141 11 [some (vr 40 0), some (vi (nI st.length)), some (vi 0), a3, a4, a5] [] x F G b _ _
  have hcT : (isSg t p 60 = true ∨ isSg t p 61 = true) → c = true := fun e => hj (fun e2 => by
    have := jc1_0 e2
    rw [this.1, this.2] at e
    rcases e with e | e <;> cases e)
  refine d_run 1 rfl ?_
  refine d_if_eq k141_12 (fun h12 => ?_) (fun h12 => ?_)
  · refine d_run 2 rfl ?_
    refine d_callT 2 k141_182 (by omega) (Nat.le_of_ble_eq_true rfl) rfl (Nat.le_of_ble_eq_true rfl) (Nat.le_of_ble_eq_true rfl) (recv_ok rfl (by first | assumption | exact Nat.le_of_ble_eq_true rfl | omega)) rfl (m_isSg (c := 43) (by decide) h) rfl ?_
    rw [e43]
    refine d_if_ne k141_185 (fun h185 => ?_) (fun h185 => ?_)
    · first | exact absurd h185 (by decide) | exact absurd rfl h185
    · refine d_run 2 rfl ?_
      refine d_callT 2 k141_191 (by omega) (Nat.le_of_ble_eq_true rfl) rfl (Nat.le_of_ble_eq_true rfl) (Nat.le_of_ble_eq_true rfl) (recv_ok rfl (by first | assumption | exact Nat.le_of_ble_eq_true rfl | omega)) rfl (m_isSg (c := 45) (by decide) h) rfl ?_
      rw [e45]
      refine d_if_ne k141_194 (fun h194 => ?_) (fun h194 => ?_)
      · first | exact absurd h194 (by decide) | exact absurd rfl h194
      · refine d_run 2 rfl ?_
        refine d_callT 2 k141_200 (by omega) (Nat.le_of_ble_eq_true rfl) rfl (Nat.le_of_ble_eq_true rfl) (Nat.le_of_ble_eq_true rfl) (recv_ok rfl (by first | assumption | exact Nat.le_of_ble_eq_true rfl | omega)) rfl (m_isSg (c := 42) (by decide) h) rfl ?_
        rw [e42]
        refine d_if_eq k141_203 (fun h203 => ?_) (fun h203 => ?_)
        · refine d_run 2 rfl ?_
          refine d_callT 2 k141_248 (by omega) (Nat.le_of_ble_eq_true rfl) rfl (Nat.le_of_ble_eq_true rfl) (Nat.le_of_ble_eq_true rfl) (recv_ok rfl (by first | assumption | exact Nat.le_of_ble_eq_true rfl | omega)) rfl (m_isSg (c := 60) (by decide) h) rfl ?_
          refine d_if_ne k141_251 (fun h251 => ?_) (fun h251 => ?_)
          · rw [b2i0, Bool.not_eq_false] at h251
            have e60 := h251
            have hc := hcT (Or.inl e60)
            refine d_run 1 rfl ?_
            refine d_gR k141_264 (by first | assumption | exact Nat.le_of_ble_eq_true rfl | omega) ⟨rfl, rfl, rfl⟩ rfl ?_
            refine d_run 1 rfl ?_
            refine d_ia (N := 7) (j := st.length) k141_268 (by decide) (by first | assumption | exact Nat.le_of_ble_eq_true rfl | omega) ⟨⟨rfl, rfl⟩, rfl, rfl⟩ (show st.length < 7 by omega) rfl ?_
            rw [hsk.c, hc]
            refine d_if_ne k141_269 (fun h269 => ?_) (fun h269 => ?_)
            · refine d_run 2 rfl ?_
              refine d_callT 2 k141_308 (by omega) (Nat.le_of_ble_eq_true rfl) rfl (Nat.le_of_ble_eq_true rfl) (Nat.le_of_ble_eq_true rfl) (recv_ok rfl (by first | assumption | exact Nat.le_of_ble_eq_true rfl | omega)) rfl (m_isWd (n := 20) b18 (by decide) (by decide) (by decide) h) rfl ?_
              rw [e20]
              refine d_if_ne k141_311 (fun h311 => ?_) (fun h311 => ?_)
              · first | exact absurd h311 (by decide) | exact absurd rfl h311
              · refine d_run 2 rfl ?_
                refine d_callT 2 k141_318 (by omega) (Nat.le_of_ble_eq_true rfl) rfl (Nat.le_of_ble_eq_true rfl) (Nat.le_of_ble_eq_true rfl) (recv_ok rfl (by first | assumption | exact Nat.le_of_ble_eq_true rfl | omega)) rfl (m_isWd (n := 21) b19 (by decide) (by decide) (by decide) h) rfl ?_
                rw [e21]
                refine d_if_eq k141_321 (fun h321 => ?_) (fun h321 => ?_)
                · refine d_run 2 rfl ?_
                  refine d_callT 2 k141_360 (by omega) (Nat.le_of_ble_eq_true rfl) rfl (Nat.le_of_ble_eq_true rfl) (Nat.le_of_ble_eq_true rfl) (recv_ok rfl (by first | assumption | exact Nat.le_of_ble_eq_true rfl | omega)) rfl (m_isSg (c := 41) (by decide) h) rfl ?_
                  refine d_if_eq k141_363 (fun h363 => ?_) (fun h363 => ?_)
                  · rw [b2i0] at h363
                    have e41 := h363
                    refine d_run 1 rfl ?_
                    refine d_if_ne k141_400 (fun h400 => ?_) (fun h400 => ?_)
                    · refine d_run 2 rfl ?_
                      refine d_callT 2 k141_420 (by omega) (Nat.le_of_ble_eq_true rfl) rfl (Nat.le_of_ble_eq_true rfl) (Nat.le_of_ble_eq_true rfl) (recv_ok rfl (by first | assumption | exact Nat.le_of_ble_eq_true rfl | omega)) rfl (m_fails (c := 1) h) rfl ?_
                      refine d_ib k141_423 (by rfl) ?_
                      exact ⟨hfw.u (by omega), uF_e⟩
                    · have es2 : st = [] := List.length_eq_zero_iff.mp (nI_inj (b := 0) h400 (by omega) (by omega))
                      have e9 := h6 es2
                      refine d_run 2 rfl ?_
                      refine d_callT 2 k141_406 (by omega) (Nat.le_of_ble_eq_true rfl) rfl (Nat.le_of_ble_eq_true rfl) (Nat.le_of_ble_eq_true rfl) (recv_ok rfl (by first | assumption | exact Nat.le_of_ble_eq_true rfl | omega)) rfl (m_isSg (c := 59) (by decide) h) rfl ?_
                      refine d_if_eq k141_409 (fun h409 => ?_) (fun h409 => ?_)
                      · skip
                        refine d_run 2 rfl ?_
                        refine d_callT 2 k141_420 (by omega) (Nat.le_of_ble_eq_true rfl) rfl (Nat.le_of_ble_eq_true rfl) (Nat.le_of_ble_eq_true rfl) (recv_ok rfl (by first | assumption | exact Nat.le_of_ble_eq_true rfl | omega)) rfl (m_fails (c := 1) h) rfl ?_
                        refine d_ib k141_423 (by rfl) ?_
                        exact ⟨hfw.u (by omega), uF_e⟩
                      · rw [b2i0] at h409
                        exact absurd e9 h409
                  · rw [b2i0, Bool.not_eq_false] at h363
                    have e41 := h363
                    have es := h5 e41
                    refine d_run 1 rfl ?_
                    refine d_if_le k141_367 (fun h367 => ?_) (fun h367 => ?_)
                    · refine d_run 1 rfl ?_
                      refine d_if_ne k141_400 (fun h400 => ?_) (fun h400 => ?_)
                      · refine d_run 2 rfl ?_
                        refine d_callT 2 k141_420 (by omega) (Nat.le_of_ble_eq_true rfl) rfl (Nat.le_of_ble_eq_true rfl) (Nat.le_of_ble_eq_true rfl) (recv_ok rfl (by first | assumption | exact Nat.le_of_ble_eq_true rfl | omega)) rfl (m_fails (c := 1) h) rfl ?_
                        refine d_ib k141_423 (by rfl) ?_
                        exact ⟨hfw.u (by omega), uF_e⟩
                      · have es2 : st = [] := List.length_eq_zero_iff.mp (nI_inj (b := 0) h400 (by omega) (by omega))
                        have e9 := h6 es2
                        refine d_run 2 rfl ?_
                        refine d_callT 2 k141_406 (by omega) (Nat.le_of_ble_eq_true rfl) rfl (Nat.le_of_ble_eq_true rfl) (Nat.le_of_ble_eq_true rfl) (recv_ok rfl (by first | assumption | exact Nat.le_of_ble_eq_true rfl | omega)) rfl (m_isSg (c := 59) (by decide) h) rfl ?_
                        refine d_if_eq k141_409 (fun h409 => ?_) (fun h409 => ?_)
                        · skip
                          refine d_run 2 rfl ?_
                          refine d_callT 2 k141_420 (by omega) (Nat.le_of_ble_eq_true rfl) rfl (Nat.le_of_ble_eq_true rfl) (Nat.le_of_ble_eq_true rfl) (recv_ok rfl (by first | assumption | exact Nat.le_of_ble_eq_true rfl | omega)) rfl (m_fails (c := 1) h) rfl ?_
                          refine d_ib k141_423 (by rfl) ?_
                          exact ⟨hfw.u (by omega), uF_e⟩
                        · rw [b2i0] at h409
                          exact absurd e9 h409
                    · exact absurd (z_le0 h367 (by omega)) (by rw [es]; decide)
                · first | exact absurd h321 (by decide) | exact absurd rfl h321
            · first | exact absurd h269 (by decide) | exact absurd rfl h269
          · rw [b2i0] at h251
            have e60 := h251
            refine d_run 2 rfl ?_
            refine d_callT 2 k141_257 (by omega) (Nat.le_of_ble_eq_true rfl) rfl (Nat.le_of_ble_eq_true rfl) (Nat.le_of_ble_eq_true rfl) (recv_ok rfl (by first | assumption | exact Nat.le_of_ble_eq_true rfl | omega)) rfl (m_isSg (c := 61) (by decide) h) rfl ?_
            refine d_if_eq k141_260 (fun h260 => ?_) (fun h260 => ?_)
            · rw [b2i0] at h260
              have e61 := h260
              refine d_run 2 rfl ?_
              refine d_callT 2 k141_308 (by omega) (Nat.le_of_ble_eq_true rfl) rfl (Nat.le_of_ble_eq_true rfl) (Nat.le_of_ble_eq_true rfl) (recv_ok rfl (by first | assumption | exact Nat.le_of_ble_eq_true rfl | omega)) rfl (m_isWd (n := 20) b18 (by decide) (by decide) (by decide) h) rfl ?_
              rw [e20]
              refine d_if_ne k141_311 (fun h311 => ?_) (fun h311 => ?_)
              · first | exact absurd h311 (by decide) | exact absurd rfl h311
              · refine d_run 2 rfl ?_
                refine d_callT 2 k141_318 (by omega) (Nat.le_of_ble_eq_true rfl) rfl (Nat.le_of_ble_eq_true rfl) (Nat.le_of_ble_eq_true rfl) (recv_ok rfl (by first | assumption | exact Nat.le_of_ble_eq_true rfl | omega)) rfl (m_isWd (n := 21) b19 (by decide) (by decide) (by decide) h) rfl ?_
                rw [e21]
                refine d_if_eq k141_321 (fun h321 => ?_) (fun h321 => ?_)
                · refine d_run 2 rfl ?_
                  refine d_callT 2 k141_360 (by omega) (Nat.le_of_ble_eq_true rfl) rfl (Nat.le_of_ble_eq_true rfl) (Nat.le_of_ble_eq_true rfl) (recv_ok rfl (by first | assumption | exact Nat.le_of_ble_eq_true rfl | omega)) rfl (m_isSg (c := 41) (by decide) h) rfl ?_
                  refine d_if_eq k141_363 (fun h363 => ?_) (fun h363 => ?_)
                  · rw [b2i0] at h363
                    have e41 := h363
                    refine d_run 1 rfl ?_
                    refine d_if_ne k141_400 (fun h400 => ?_) (fun h400 => ?_)
                    · refine d_run 2 rfl ?_
                      refine d_callT 2 k141_420 (by omega) (Nat.le_of_ble_eq_true rfl) rfl (Nat.le_of_ble_eq_true rfl) (Nat.le_of_ble_eq_true rfl) (recv_ok rfl (by first | assumption | exact Nat.le_of_ble_eq_true rfl | omega)) rfl (m_fails (c := 1) h) rfl ?_
                      refine d_ib k141_423 (by rfl) ?_
                      exact ⟨hfw.u (by omega), uF_e⟩
                    · have es2 : st = [] := List.length_eq_zero_iff.mp (nI_inj (b := 0) h400 (by omega) (by omega))
                      have e9 := h6 es2
                      refine d_run 2 rfl ?_
                      refine d_callT 2 k141_406 (by omega) (Nat.le_of_ble_eq_true rfl) rfl (Nat.le_of_ble_eq_true rfl) (Nat.le_of_ble_eq_true rfl) (recv_ok rfl (by first | assumption | exact Nat.le_of_ble_eq_true rfl | omega)) rfl (m_isSg (c := 59) (by decide) h) rfl ?_
                      refine d_if_eq k141_409 (fun h409 => ?_) (fun h409 => ?_)
                      · skip
                        refine d_run 2 rfl ?_
                        refine d_callT 2 k141_420 (by omega) (Nat.le_of_ble_eq_true rfl) rfl (Nat.le_of_ble_eq_true rfl) (Nat.le_of_ble_eq_true rfl) (recv_ok rfl (by first | assumption | exact Nat.le_of_ble_eq_true rfl | omega)) rfl (m_fails (c := 1) h) rfl ?_
                        refine d_ib k141_423 (by rfl) ?_
                        exact ⟨hfw.u (by omega), uF_e⟩
                      · rw [b2i0] at h409
                        exact absurd e9 h409
                  · rw [b2i0, Bool.not_eq_false] at h363
                    have e41 := h363
                    have es := h5 e41
                    refine d_run 1 rfl ?_
                    refine d_if_le k141_367 (fun h367 => ?_) (fun h367 => ?_)
                    · refine d_run 1 rfl ?_
                      refine d_if_ne k141_400 (fun h400 => ?_) (fun h400 => ?_)
                      · refine d_run 2 rfl ?_
                        refine d_callT 2 k141_420 (by omega) (Nat.le_of_ble_eq_true rfl) rfl (Nat.le_of_ble_eq_true rfl) (Nat.le_of_ble_eq_true rfl) (recv_ok rfl (by first | assumption | exact Nat.le_of_ble_eq_true rfl | omega)) rfl (m_fails (c := 1) h) rfl ?_
                        refine d_ib k141_423 (by rfl) ?_
                        exact ⟨hfw.u (by omega), uF_e⟩
                      · have es2 : st = [] := List.length_eq_zero_iff.mp (nI_inj (b := 0) h400 (by omega) (by omega))
                        have e9 := h6 es2
                        refine d_run 2 rfl ?_
                        refine d_callT 2 k141_406 (by omega) (Nat.le_of_ble_eq_true rfl) rfl (Nat.le_of_ble_eq_true rfl) (Nat.le_of_ble_eq_true rfl) (recv_ok rfl (by first | assumption | exact Nat.le_of_ble_eq_true rfl | omega)) rfl (m_isSg (c := 59) (by decide) h) rfl ?_
                        refine d_if_eq k141_409 (fun h409 => ?_) (fun h409 => ?_)
                        · skip
                          refine d_run 2 rfl ?_
                          refine d_callT 2 k141_420 (by omega) (Nat.le_of_ble_eq_true rfl) rfl (Nat.le_of_ble_eq_true rfl) (Nat.le_of_ble_eq_true rfl) (recv_ok rfl (by first | assumption | exact Nat.le_of_ble_eq_true rfl | omega)) rfl (m_fails (c := 1) h) rfl ?_
                          refine d_ib k141_423 (by rfl) ?_
                          exact ⟨hfw.u (by omega), uF_e⟩
                        · rw [b2i0] at h409
                          exact absurd e9 h409
                    · exact absurd (z_le0 h367 (by omega)) (by rw [es]; decide)
                · first | exact absurd h321 (by decide) | exact absurd rfl h321
            · rw [b2i0, Bool.not_eq_false] at h260
              have e61 := h260
              have hc := hcT (Or.inr e61)
              refine d_run 1 rfl ?_
              refine d_gR k141_264 (by first | assumption | exact Nat.le_of_ble_eq_true rfl | omega) ⟨rfl, rfl, rfl⟩ rfl ?_
              refine d_run 1 rfl ?_
              refine d_ia (N := 7) (j := st.length) k141_268 (by decide) (by first | assumption | exact Nat.le_of_ble_eq_true rfl | omega) ⟨⟨rfl, rfl⟩, rfl, rfl⟩ (show st.length < 7 by omega) rfl ?_
              rw [hsk.c, hc]
              refine d_if_ne k141_269 (fun h269 => ?_) (fun h269 => ?_)
              · refine d_run 2 rfl ?_
                refine d_callT 2 k141_308 (by omega) (Nat.le_of_ble_eq_true rfl) rfl (Nat.le_of_ble_eq_true rfl) (Nat.le_of_ble_eq_true rfl) (recv_ok rfl (by first | assumption | exact Nat.le_of_ble_eq_true rfl | omega)) rfl (m_isWd (n := 20) b18 (by decide) (by decide) (by decide) h) rfl ?_
                rw [e20]
                refine d_if_ne k141_311 (fun h311 => ?_) (fun h311 => ?_)
                · first | exact absurd h311 (by decide) | exact absurd rfl h311
                · refine d_run 2 rfl ?_
                  refine d_callT 2 k141_318 (by omega) (Nat.le_of_ble_eq_true rfl) rfl (Nat.le_of_ble_eq_true rfl) (Nat.le_of_ble_eq_true rfl) (recv_ok rfl (by first | assumption | exact Nat.le_of_ble_eq_true rfl | omega)) rfl (m_isWd (n := 21) b19 (by decide) (by decide) (by decide) h) rfl ?_
                  rw [e21]
                  refine d_if_eq k141_321 (fun h321 => ?_) (fun h321 => ?_)
                  · refine d_run 2 rfl ?_
                    refine d_callT 2 k141_360 (by omega) (Nat.le_of_ble_eq_true rfl) rfl (Nat.le_of_ble_eq_true rfl) (Nat.le_of_ble_eq_true rfl) (recv_ok rfl (by first | assumption | exact Nat.le_of_ble_eq_true rfl | omega)) rfl (m_isSg (c := 41) (by decide) h) rfl ?_
                    refine d_if_eq k141_363 (fun h363 => ?_) (fun h363 => ?_)
                    · rw [b2i0] at h363
                      have e41 := h363
                      refine d_run 1 rfl ?_
                      refine d_if_ne k141_400 (fun h400 => ?_) (fun h400 => ?_)
                      · refine d_run 2 rfl ?_
                        refine d_callT 2 k141_420 (by omega) (Nat.le_of_ble_eq_true rfl) rfl (Nat.le_of_ble_eq_true rfl) (Nat.le_of_ble_eq_true rfl) (recv_ok rfl (by first | assumption | exact Nat.le_of_ble_eq_true rfl | omega)) rfl (m_fails (c := 1) h) rfl ?_
                        refine d_ib k141_423 (by rfl) ?_
                        exact ⟨hfw.u (by omega), uF_e⟩
                      · have es2 : st = [] := List.length_eq_zero_iff.mp (nI_inj (b := 0) h400 (by omega) (by omega))
                        have e9 := h6 es2
                        refine d_run 2 rfl ?_
                        refine d_callT 2 k141_406 (by omega) (Nat.le_of_ble_eq_true rfl) rfl (Nat.le_of_ble_eq_true rfl) (Nat.le_of_ble_eq_true rfl) (recv_ok rfl (by first | assumption | exact Nat.le_of_ble_eq_true rfl | omega)) rfl (m_isSg (c := 59) (by decide) h) rfl ?_
                        refine d_if_eq k141_409 (fun h409 => ?_) (fun h409 => ?_)
                        · skip
                          refine d_run 2 rfl ?_
                          refine d_callT 2 k141_420 (by omega) (Nat.le_of_ble_eq_true rfl) rfl (Nat.le_of_ble_eq_true rfl) (Nat.le_of_ble_eq_true rfl) (recv_ok rfl (by first | assumption | exact Nat.le_of_ble_eq_true rfl | omega)) rfl (m_fails (c := 1) h) rfl ?_
                          refine d_ib k141_423 (by rfl) ?_
                          exact ⟨hfw.u (by omega), uF_e⟩
                        · rw [b2i0] at h409
                          exact absurd e9 h409
                    · rw [b2i0, Bool.not_eq_false] at h363
                      have e41 := h363
                      have es := h5 e41
                      refine d_run 1 rfl ?_
                      refine d_if_le k141_367 (fun h367 => ?_) (fun h367 => ?_)
                      · refine d_run 1 rfl ?_
                        refine d_if_ne k141_400 (fun h400 => ?_) (fun h400 => ?_)
                        · refine d_run 2 rfl ?_
                          refine d_callT 2 k141_420 (by omega) (Nat.le_of_ble_eq_true rfl) rfl (Nat.le_of_ble_eq_true rfl) (Nat.le_of_ble_eq_true rfl) (recv_ok rfl (by first | assumption | exact Nat.le_of_ble_eq_true rfl | omega)) rfl (m_fails (c := 1) h) rfl ?_
                          refine d_ib k141_423 (by rfl) ?_
                          exact ⟨hfw.u (by omega), uF_e⟩
                        · have es2 : st = [] := List.length_eq_zero_iff.mp (nI_inj (b := 0) h400 (by omega) (by omega))
                          have e9 := h6 es2
                          refine d_run 2 rfl ?_
                          refine d_callT 2 k141_406 (by omega) (Nat.le_of_ble_eq_true rfl) rfl (Nat.le_of_ble_eq_true rfl) (Nat.le_of_ble_eq_true rfl) (recv_ok rfl (by first | assumption | exact Nat.le_of_ble_eq_true rfl | omega)) rfl (m_isSg (c := 59) (by decide) h) rfl ?_
                          refine d_if_eq k141_409 (fun h409 => ?_) (fun h409 => ?_)
                          · skip
                            refine d_run 2 rfl ?_
                            refine d_callT 2 k141_420 (by omega) (Nat.le_of_ble_eq_true rfl) rfl (Nat.le_of_ble_eq_true rfl) (Nat.le_of_ble_eq_true rfl) (recv_ok rfl (by first | assumption | exact Nat.le_of_ble_eq_true rfl | omega)) rfl (m_fails (c := 1) h) rfl ?_
                            refine d_ib k141_423 (by rfl) ?_
                            exact ⟨hfw.u (by omega), uF_e⟩
                          · rw [b2i0] at h409
                            exact absurd e9 h409
                      · exact absurd (z_le0 h367 (by omega)) (by rw [es]; decide)
                  · first | exact absurd h321 (by decide) | exact absurd rfl h321
              · first | exact absurd h269 (by decide) | exact absurd rfl h269
        · first | exact absurd h203 (by decide) | exact absurd rfl h203
  · exact absurd rfl h12
theorem x_all (hd : 5 ≤ d) : FlC t (RX E d x b t F0 G0) := by
  refine ⟨?_, ?_, ?_, ?_, ?_, ?_, ?_, ?_, ?_, ?_, ?_⟩
  · intro p c st fc h1
    exact x_bad hd h1
  · intro p c st fc h1 h2
    exact x_deep hd h1 h2
  · intro p c st fc Z h1 h2 h3 hz
    cases e : isWd t p 15 with
    | true =>
      rw [e, if_pos rfl] at hz
      exact x_push_true hd h1 h2 e h3 hz
    | false =>
      rw [e, if_neg (by decide)] at hz
      exact x_push_false hd h1 h2 e h3 hz
  · intro p c st fc Z h1 h2 h3 hz
    exact x_val hd h1 h2 h3 hz
  · intro p c st fc Z h1 hz
    rcases jc2_n h1 with e | ⟨e, e2⟩
    · rw [show fj (jc 2 t p) = 20 by simp [jc, fj, e]] at hz
      exact x_op2a hd e hz
    · rw [show fj (jc 2 t p) = 21 by simp [jc, fj, e, e2]] at hz
      exact x_op2b hd e e2 hz
  · intro p c st fc Z h1 h2 hz
    have e := jc3_n h2
    rw [show fj (jc 3 t p) = 22 by simp [jc, fj, e]] at hz
    exact x_op3 hd (jc2_0 h1).1 (jc2_0 h1).2 e hz
  · intro p c st fc Z h1 h2 h3 h4 hz
    rcases jc1_n h3 with e | ⟨e, e2⟩
    · rw [show fj (jc 1 t p) = 24 by simp [jc, fj, e]] at hz
      exact x_cmpa hd (jc2_0 h1).1 (jc2_0 h1).2 (jc3_0 h2) e h4 hz
    · rw [show fj (jc 1 t p) = 25 by simp [jc, fj, e, e2]] at hz
      exact x_cmpb hd (jc2_0 h1).1 (jc2_0 h1).2 (jc3_0 h2) e e2 h4 hz
  · intro p c st fc Z h1 h2 h3 h4 hz
    rcases jc0_n h4 with e | ⟨e, e2⟩
    · rw [show fj (jc 0 t p) = 26 by simp [jc, fj, e]] at hz
      exact x_lga hd (wd_sg e) (wd_sg e) (wd_sg e) (wd_sg e) (wd_sg e) e hz
    · rw [show fj (jc 0 t p) = 27 by simp [jc, fj, e, e2]] at hz
      exact x_lgb hd (wd_sg e2) (wd_sg e2) (wd_sg e2) (wd_sg e2) (wd_sg e2) e e2 hz
  · intro p c kd c1 st fc Z h1 h2 h3 h4 h5 hz
    exact x_cl hd (jc2_0 h1).1 (jc2_0 h1).2 (jc3_0 h2) (sg_ne h5 (by decide)) (sg_ne h5 (by decide)) (jc0_0 h4).1 (jc0_0 h4).2 h5 hz
  · intro p c fc h1 h2 h3 h4 h5
    exact x_en hd (jc2_0 h1).1 (jc2_0 h1).2 (jc3_0 h2) (sg_ne h5 (by decide)) (sg_ne h5 (by decide)) (jc0_0 h4).1 (jc0_0 h4).2 (sg_ne h5 (by decide)) h5
  · intro p c st fc h1 h2 h3 h4 h5 h6
    exact x_no hd (jc2_0 h1).1 (jc2_0 h1).2 (jc3_0 h2) h3 (jc0_0 h4).1 (jc0_0 h4).2 h5 h6
end TF
