/-! A WHOLE LAND READ BY THE REFERENCE -/
theorem rdL_fl {t : TP} : ∀ (n m lvl dep : Nat) (r r2 : RA), r.1 ≤ t.1 → rdL t n m lvl dep r = some (.inr r2) → r2.2.2.2.length + r.1 ≤ r2.1 + r.2.2.2.length ∧ r.2.2.1.length ≤ r2.2.2.1.length ∧ r.2.2.2.length ≤ r2.2.2.2.length ∧ (m = 0 → r.2.2.1.length < r2.2.2.1.length ∧ r.2.2.2.length < r2.2.2.2.length)
  | 0, _, _, _, _, _, _, h => by cases h
  | n + 1, m, lvl, dep, r, r2, hp, h => by
    unfold rdL at h
    split at h
    · rename_i hm
      split at h
      · rcases obd_r h with ⟨e, _, h2⟩ | ⟨r1, h1, h2⟩
        · cases h2
        · obtain ⟨g1, g2, g3, g4⟩ := rdL_go n 0 (lvl + 1) dep r r1 hp h1
          obtain ⟨a1, a2, a3, a4⟩ := rdL_fl n 0 (lvl + 1) dep r r1 hp h1
          obtain ⟨b1, b2, b3, b4⟩ := rdL_fl n 1 lvl dep r1 r2 g3 h2
          have := a4 rfl
          refine ⟨by omega, by omega, by omega, fun _ => ⟨by omega, by omega⟩⟩
      · split at h
        · rename_i hpt
          have hlt := isPt_lt hpt
          have hn1 := tN_lt hlt
          have hn2 := (tN_le (t := t) (p := r.1) (by omega)).2
          split at h
          · cases h
          · split at h
            · rcases obd_r h with ⟨e, _, h2⟩ | ⟨r1, h1, h2⟩
              · cases h2
              · obtain ⟨g1, g2, g3, g4⟩ := rdL_go n 0 0 (dep + 1) _ r1 hn2 h1
                obtain ⟨a1, a2, a3, a4⟩ := rdL_fl n 0 0 (dep + 1) _ r1 hn2 h1
                have a4 := a4 rfl
                simp only [List.length_append, List.length_cons, List.length_nil] at a1 a2 a3 a4
                split at h2
                · rename_i hs
                  cases h2
                  have c1 := tN_lt (isSg_lt hs)
                  simp only [List.length_append, List.length_cons, List.length_nil]
                  refine ⟨by omega, by omega, by omega, fun _ => ⟨by omega, by omega⟩⟩
                · cases h2
            · split at h
              · rcases obd_r h with ⟨e, _, h2⟩ | ⟨r1, h1, h2⟩
                · cases h2
                · obtain ⟨a1, a2, a3, a4⟩ := rdL_fl n 0 4 (dep + 1) _ r1 hn2 h1
                  have a4 := a4 rfl
                  simp only [List.length_append, List.length_cons, List.length_nil] at a1 a2 a3 a4
                  cases h2
                  simp only [List.length_append, List.length_cons, List.length_nil]
                  refine ⟨by omega, by omega, by omega, fun _ => ⟨by omega, by omega⟩⟩
              · cases h
                simp only [List.length_append, List.length_cons, List.length_nil]
                refine ⟨by omega, by omega, by omega, fun _ => ⟨by omega, by omega⟩⟩
        · cases h
    · rename_i hm
      split at h
      · cases h
        refine ⟨by omega, Nat.le_refl _, Nat.le_refl _, fun e => absurd e hm⟩
      · rename_i hj
        have hlt := jc_lt hj
        have hn1 := tN_lt hlt
        have hn2 := (tN_le (t := t) (p := r.1) (by omega)).2
        rcases obd_r h with ⟨e, _, h2⟩ | ⟨r1, h1, h2⟩
        · cases h2
        · obtain ⟨g1, g2, g3, g4⟩ := rdL_go n 0 (lvl + 1) dep _ r1 hn2 h1
          obtain ⟨a1, a2, a3, a4⟩ := rdL_fl n 0 (lvl + 1) dep _ r1 hn2 h1
          have a4 := a4 rfl
          simp only [List.length_append, List.length_cons, List.length_nil] at a1 a2 a3 a4
          split at h2
          · cases h2
            simp only [List.length_append, List.length_cons, List.length_nil]
            refine ⟨by omega, by omega, by omega, fun e => absurd e hm⟩
          · obtain ⟨b1, b2, b3, b4⟩ := rdL_fl n 1 lvl dep (r1.1, joD (jc lvl t r.1) r.2.1 r1.2.1, r1.2.2.1 ++ [jc lvl t r.1], r1.2.2.2) r2 g3 h2
            simp only [List.length_append, List.length_cons, List.length_nil] at b1 b2 b3
            refine ⟨by omega, by omega, by omega, fun e => absurd e hm⟩
theorem lwB_cd {B : LB} (h : lwB B) : (bC B = [] ↔ bD B = []) ∧ (bD B).length ≤ 1000 := by
  rcases h with ⟨h1, h2, _⟩ | ⟨t, n, p, r, h1, h2, h3, h4, h5, _⟩
  · rw [h1, h2]; simp
  · obtain ⟨_, a2, a3, a4⟩ := rdL_go n 0 0 0 _ r h1 h3
    obtain ⟨b1, b2, b3, b4⟩ := rdL_fl n 0 0 0 _ r h1 h3
    have b4 := b4 rfl
    simp only [List.length_nil] at b1 b2 b3 b4
    rw [h4, h5]
    refine ⟨⟨fun e => ?_, fun e => ?_⟩, by omega⟩
    · rw [e] at b4; simp at b4
    · rw [e] at b4; simp at b4
theorem d53_f {k : Nat} (h : k ≠ 40 ∧ (k < 52 ∨ 54 < k)) : d53 k = false := by
  simp only [d53, Bool.or_eq_false_iff, Bool.and_eq_false_iff, decide_eq_false_iff_not]
  omega
theorem MFw.fr {F F2 : FT} {G G2 : GT} (h : MFw F G F2 G2) : MFr F G F2 G2 := by
  refine ⟨h.2.1.mo (fun k e => ?_), fun k a _ _ => h.2.2.2.1 k a, fun k i a => ?_, fun k i a => ?_⟩
  · simp only [dLd, Bool.or_eq_false_iff, Bool.and_eq_false_iff, decide_eq_false_iff_not] at e
    exact d53_f (by omega)
  · by_cases e : k = 40
    · subst e
      exact h.1 i (by have := a.1 rfl; omega)
    · by_cases e2 : k = 52
      · subst e2
        exact h.2.2.1 i (a.2.2.2.2.2.1 rfl)
      · have := a.2.2.2.2.2.2
        by_cases e3 : k < 52 ∨ 54 < k
        · rw [h.2.1 k (d53_f ⟨e, e3⟩)]
        · omega
  · by_cases e : k = 40
    · subst e
      exact h.2.2.2.2 i (a.1 rfl).1
    · rw [h.2.2.2.1 k e]
section TG
variable {E : EV} {d x p n : Nat} {F F0 : FT} {G G0 : GT} {b : Bool} {t : TP} {B : LB} {u v w : Int32}
theorem m_reads {z : Nat ⊕ RA} (hd : 5 ≤ d) (h : MRd F G t p) (h21 : F 40 0 21 = 1000) (hz : rdL t n 0 0 0 (p, dfl, [], []) = some z) : Td E d 141 0 [some (vr 40 0), none, none, none, none, none] [] x F G b (some (vi (b2i (okB (rdZ t z))))) (MRo t F G (rdZ t z)) := by
  refine d_run 5 rfl ?_
  refine d_gR k141_5 (by first | assumption | exact Nat.le_of_ble_eq_true rfl | omega) ⟨rfl, rfl, rfl⟩ rfl ?_
  refine d_run 2 rfl ?_
  refine d_zs (N := 7) (j := 0) k141_10 (by first | assumption | exact Nat.le_of_ble_eq_true rfl | omega) ⟨rfl, rfl⟩ (by decide) rfl (by first | exact Or.inl rfl | exact Or.inr rfl) ?_
  exact (fl_z hz) _ (x_all hd) _ _ _ _ _ (h.k (by decide) (by decide)) uF_e (Nat.zero_le _) ⟨by rw [uF_q (by omega), h21]; rfl, fun i hi => absurd hi (Nat.not_lt_zero _)⟩ (Nat.zero_le _) (MFw.rf.u (by omega))
theorem oz {z : Nat ⊕ RA} (z1 : ∀ f, z = .inl f → sWinds t p B = .inl f) (z2 : ∀ r, z = .inr r → sWinds t p B = .inr (r.1, setC B r.2.2.1 r.2.2.2 r.2.1)) : (∀ f, rdZ t z = .inl f → oS t (sWinds t p B) = .inl f) ∧ ∀ q, rdZ t z = .inr q → ∃ r : RA, q.2 = r.2.2.2 ∧ oS t (sWinds t p B) = .inr (q.1, setC B r.2.2.1 r.2.2.2 r.2.1) := by
  cases z with
  | inl f =>
    refine ⟨fun f2 e => ?_, fun q e => by cases e⟩
    cases e
    rw [z1 f rfl]
    rfl
  | inr r =>
    rw [z2 r rfl]
    simp only [rdZ, oS, bnd]
    cases pSign t r.1 59 with
    | inl f => exact ⟨fun f2 e => by cases e; rfl, fun q e => by cases e⟩
    | inr p2 => exact ⟨fun f2 e => (by cases e), fun q e => (by cases e; exact ⟨r, rfl, rfl⟩)⟩
theorem m_rwinds (hd : 10 ≤ d) (hB : MLb F G B) (hw : lwB B) (h : MRd F G t p) : Td E d 162 0 [some (vr 40 0)] [] x F G b (some (vi (b2i (okB (oS t (sWinds t p B)))))) (MSo t F G (oS t (sWinds t p B))) := by
  obtain ⟨lc, ll⟩ := lwB_cd hw
  have hpl := h.2.2.2.2.2.2.2.1
  have hc := hB.2
  by_cases hb : bC B = []
  · obtain ⟨z, hz, z1, z2⟩ := sWinds_c (B := B) (p := p) hb hpl
    obtain ⟨o1, o2⟩ := oz z1 z2
    have hb2 := lc.mp hb
    rw [hb2] at hc
    refine d_run 1 rfl ?_
    refine d_gR k162_1 (by first | assumption | exact Nat.le_of_ble_eq_true rfl | omega) ⟨rfl, rfl, rfl⟩ rfl ?_
    refine d_run 1 rfl ?_
    refine d_ia (N := 2) (j := 1) k162_5 (by decide) (by first | assumption | exact Nat.le_of_ble_eq_true rfl | omega) ⟨⟨rfl, rfl⟩, rfl, rfl⟩ (by decide) rfl ?_
    rw [hc.2.2.1]
    refine d_run 1 rfl ?_
    refine d_gR k162_7 (by first | assumption | exact Nat.le_of_ble_eq_true rfl | omega) ⟨rfl, rfl, rfl⟩ rfl ?_
    refine d_run 1 rfl ?_
    refine d_ia (N := 2) (j := 1) k162_11 (by decide) (by first | assumption | exact Nat.le_of_ble_eq_true rfl | omega) ⟨⟨rfl, rfl⟩, rfl, rfl⟩ (by decide) rfl ?_
    rw [hc.2.1]
    refine d_ic_le k162_12 (fun h12 => ?_) (fun h12 => ?_)
    · refine d_run 1 rfl ?_
      refine d_call 1 k162_22 (by omega) (Nat.le_of_ble_eq_true rfl) rfl (Nat.le_of_ble_eq_true rfl) (Nat.le_of_ble_eq_true rfl) (recv_ok rfl (by first | assumption | exact Nat.le_of_ble_eq_true rfl | omega)) rfl (m_nx (by omega) h) rfl ?_
      rintro F1 G1 ⟨r1, n1⟩
      have h21 : F1 40 0 21 = 1000 := by rw [n1.1 21 (by decide) (by decide) (by decide) (by decide), hc.1]; rfl
      have hB1 := (hB.q n1.q).1
      refine d_run 1 rfl ?_
      refine d_gR k162_26 (by first | assumption | exact Nat.le_of_ble_eq_true rfl | omega) ⟨rfl, rfl, rfl⟩ rfl ?_
      refine d_run 2 rfl ?_
      refine d_gI k162_31 (by first | assumption | exact Nat.le_of_ble_eq_true rfl | omega) ⟨rfl, rfl, Or.inl rfl⟩ ?_
      rw [h21]
      refine d_is (N := 2) (j := 1) k162_34 (by first | assumption | exact Nat.le_of_ble_eq_true rfl | omega) ⟨rfl, rfl⟩ (by decide) rfl ?_
      refine d_run 1 rfl ?_
      refine d_call 1 k162_36 (by omega) (Nat.le_of_ble_eq_true rfl) rfl (Nat.le_of_ble_eq_true rfl) (Nat.le_of_ble_eq_true rfl) (recv_ok rfl (by first | assumption | exact Nat.le_of_ble_eq_true rfl | omega)) rfl (m_reads (z := z) (n := rdF t) (by omega) (r1.k (by decide) (by decide)) (by rw [uF_q (by omega)]; exact h21) hz) rfl ?_
      rintro F2 G2 ⟨w2, q2⟩
      have f2 : MFr F G F2 G2 := (n1.q.fr.u (k := 50) (i := 1) (v := 1000) rfl (by unfold kpF; omega)).tr w2.fr
      refine d_if_ne k162_39 (fun h39 => ?_) (fun h39 => ?_)
      · rw [b2i0, Bool.not_eq_false] at h39
        obtain ⟨q, eq⟩ := okB_t h39
        rw [eq] at q2
        obtain ⟨r2, l2⟩ := q2
        obtain ⟨r, er, eo⟩ := o2 q eq
        rw [eo]
        refine d_run 1 rfl ?_
        refine d_gR k162_45 (by first | assumption | exact Nat.le_of_ble_eq_true rfl | omega) ⟨rfl, rfl, rfl⟩ rfl ?_
        refine d_run 2 rfl ?_
        refine d_gI k162_50 (by first | assumption | exact Nat.le_of_ble_eq_true rfl | omega) ⟨rfl, rfl, Or.inl rfl⟩ ?_
        rw [l2.1]
        refine d_is (N := 2) (j := 1) k162_53 (by first | assumption | exact Nat.le_of_ble_eq_true rfl | omega) ⟨rfl, rfl⟩ (by decide) rfl ?_
        refine d_run 1 rfl ?_
        refine d_ib k162_55 (by rfl) ?_
        refine ⟨f2.u rfl (by unfold kpF; omega), r2.k (by decide) (by decide), ?_, ?_⟩
        · exact hB1.fr (by rw [uF_q (by omega), w2.1 22 (by decide), uF_q (by omega)]) (fun k a c => by rw [uF_k (by omega), w2.2.1 k (d53_f (by omega)), uF_k (by omega)]) (fun k a c => by rw [w2.2.2.2.1 k (by omega)])
        · show MLc _ r.2.2.2
          rw [← er]
          refine ⟨by rw [uF_q (by omega)]; exact l2.1, by rw [uF_k (by decide), w2.2.1 50 rfl, uF_e], uF_e, fun i hi => by rw [uF_q (by omega)]; exact l2.2 i hi⟩
      · rw [b2i0] at h39
        obtain ⟨f, ef⟩ := okB_f h39
        rw [ef] at q2
        rw [o1 f ef]
        refine d_run 1 rfl ?_
        refine d_ib k162_43 (by rfl) ?_
        exact ⟨f2, q2⟩
    · exact absurd (by decide) h12
  · have hb2 : ¬ bD B = [] := fun e => hb (lc.mpr e)
    have hl0 : 0 < (bD B).length := List.length_pos_iff.mpr hb2
    rw [show sWinds t p B = .inl (3 + 16 * p) by unfold sWinds; rw [if_neg hb]]
    refine d_run 1 rfl ?_
    refine d_gR k162_1 (by first | assumption | exact Nat.le_of_ble_eq_true rfl | omega) ⟨rfl, rfl, rfl⟩ rfl ?_
    refine d_run 1 rfl ?_
    refine d_ia (N := 2) (j := 1) k162_5 (by decide) (by first | assumption | exact Nat.le_of_ble_eq_true rfl | omega) ⟨⟨rfl, rfl⟩, rfl, rfl⟩ (by decide) rfl ?_
    rw [hc.2.2.1]
    refine d_run 1 rfl ?_
    refine d_gR k162_7 (by first | assumption | exact Nat.le_of_ble_eq_true rfl | omega) ⟨rfl, rfl, rfl⟩ rfl ?_
    refine d_run 1 rfl ?_
    refine d_ia (N := 2) (j := 1) k162_11 (by decide) (by first | assumption | exact Nat.le_of_ble_eq_true rfl | omega) ⟨⟨rfl, rfl⟩, rfl, rfl⟩ (by decide) rfl ?_
    rw [hc.2.1]
    refine d_ic_le k162_12 (fun h12 => ?_) (fun h12 => ?_)
    · exact absurd ((nI_leI (a := 1000 + (bD B).length) (b := 1000) (by omega) (by omega)).mp h12) (by omega)
    · refine d_run 2 rfl ?_
      refine d_callT 2 k162_17 (by omega) (Nat.le_of_ble_eq_true rfl) rfl (Nat.le_of_ble_eq_true rfl) (Nat.le_of_ble_eq_true rfl) (recv_ok rfl (by first | assumption | exact Nat.le_of_ble_eq_true rfl | omega)) rfl (m_fails (c := 3) h) rfl ?_
      refine d_ib k162_20 (by rfl) ?_
      exact MSo.f MFr.rf
/-- the reading begun -/
def MBg (F : FT) (G : GT) (F2 : FT) (G2 : GT) : Prop := F2 40 0 1 = 0 ∧ (∀ i, (i ≠ 1 ∧ i ≠ 3 ∧ i ≠ 4 ∧ i ≠ 5 ∧ i ≠ 6 ∧ i ≠ 8) → F2 40 0 i = F 40 0 i) ∧ FrK d40 F F2 ∧ (∀ k, k ≠ 40 → G2 k = G k) ∧ ∀ j, j ≠ 7 → G2 40 0 j = G 40 0 j
theorem m_begins (hd : 5 ≤ d) (h1 : F 40 0 1 = nI t.1) (h41 : eqR t.1 (F 41 0) t.2) (ht : wfTp t) : Td E d 163 0 [some (vr 40 0)] [] x F G b none (fun F2 G2 => MRd F2 G2 t (tB t 0) ∧ MBg F G F2 G2) := by
  refine d_run 2 rfl ?_
  refine d_gI k163_2 (by first | assumption | exact Nat.le_of_ble_eq_true rfl | omega) ⟨rfl, rfl, Or.inl rfl⟩ ?_
  rw [h1]
  refine d_pI k163_5 (by first | assumption | exact Nat.le_of_ble_eq_true rfl | omega) ⟨rfl, rfl⟩ ?_
  refine d_run 2 rfl ?_
  refine d_pI k163_10 (by first | assumption | exact Nat.le_of_ble_eq_true rfl | omega) ⟨rfl, rfl⟩ ?_
  refine d_run 2 rfl ?_
  refine d_pI k163_15 (by first | assumption | exact Nat.le_of_ble_eq_true rfl | omega) ⟨rfl, rfl⟩ ?_
  refine d_run 1 rfl ?_
  refine d_call 1 k163_19 (by omega) (Nat.le_of_ble_eq_true rfl) rfl (Nat.le_of_ble_eq_true rfl) (Nat.le_of_ble_eq_true rfl) (recv_ok rfl (by first | assumption | exact Nat.le_of_ble_eq_true rfl | omega)) rfl (m_next (t := t) (p := 0) (by omega) ⟨by rw [uF_q (by omega), uF_q (by omega), uF_e], by rw [uF_k (by decide), uF_k (by decide), uF_k (by decide)]; exact h41, ht⟩ (Nat.zero_le _) uF_e) rfl ?_
  rintro F1 G1 ⟨r1, n1⟩
  refine d_ret k163_22 ?_
  refine ⟨r1, ?_, fun i a => ?_, ?_, n1.2.2.1, n1.2.2.2⟩
  · rw [n1.1 1 (by decide) (by decide) (by decide) (by decide), uF_q (by omega), uF_e]
  · rw [n1.1 i (by omega) (by omega) (by omega) (by omega), uF_q (by omega), uF_q (by omega), uF_q (by omega)]
  · exact (((FrK.rf.u rfl).u rfl).u rfl).tr n1.2.1
def MAo (F : FT) (G : GT) (r : Nat ⊕ LB) (F2 : FT) (G2 : GT) : Prop := MFr F G F2 G2 ∧ match r with
  | .inl f => F2 40 0 9 = nI f
  | .inr B => MLb F2 G2 B
theorem one_o : oneL t p B = oS t (stL t p B) := rfl
theorem l_all (hd : 15 ≤ d) (ht : t.1 ≤ 1000) : ∀ (n p : Nat) (B : LB) (F : FT) (G : GT) (a1 : Option PV), t.1 ≤ p + n → MRd F G t p → MLb F G B → wfBB B → Td E d 164 65 [some (vr 40 0), a1] [] x F G b (some (vi (b2i (okB (ldL t n p B))))) (MAo F G (ldL t n p B)) := by
  intro n
  induction n with
  | zero =>
    intro p B F G a1 hn h hB hw
    have e0 : tK t p = 0 := tK_0.mpr (by omega)
    refine d_run 1 rfl ?_
    refine d_gI k164_66 (by first | assumption | exact Nat.le_of_ble_eq_true rfl | omega) ⟨rfl, rfl, Or.inl rfl⟩ ?_
    rw [h.2.2.2.1, e0]
    refine d_if_eq k164_69 (fun h69 => ?_) (fun h69 => ?_)
    · refine d_run 1 rfl ?_
      refine d_ib k164_213 (by rfl) ?_
      exact ⟨MFr.rf, hB⟩
    · exact absurd rfl h69
  | succ n ih =>
    intro p B F G a1 hn h hB hw
    have hk4 := tK_4 (t := t) (p := p)
    have hpl := h.2.2.2.2.2.2.2.1
    obtain ⟨b0, b1, b2, b3, b4, b5, b6, b7, b8, b9, b10, b11, b12, b13, b14, b15, b16, b17, b18, b19, b20, b21, b22, b23⟩ := kw27
    have k202 : ¬ tK t p = 0 → ∀ F2 G2, MSo t F G (oneL t p B) F2 G2 → Td E d 164 202 [some (vr 40 0), a1] [vi (b2i (okB (oneL t p B)))] x F2 G2 b (some (vi (b2i (okB (ldL t (n + 1) p B))))) (MAo F G (ldL t (n + 1) p B)) := by
      intro e0 F2 G2 o2
      have eL : ldL t (n + 1) p B = bnd (oneL t p B) (fun q => ldL t n q.1 q.2) := by simp only [ldL]; rw [if_neg e0]
      rw [eL]
      refine d_run 2 rfl ?_
      refine d_if_ne k164_204 (fun h204 => ?_) (fun h204 => ?_)
      · rw [b2i0, Bool.not_eq_false] at h204
        obtain ⟨q, eq⟩ := okB_t h204
        rw [eq] at o2 ⊢
        rw [bnd_i]
        obtain ⟨g1, g2, g3⟩ := oneL_go ht hpl hw eq
        obtain ⟨f2, r2, b2⟩ := o2
        refine d_run 1 rfl ?_
        refine td_mo (ih q.1 q.2 F2 G2 _ (by omega) r2 b2 g3) (fun F3 G3 e => ?_)
        exact ⟨f2.tr e.1, e.2⟩
      · rw [b2i0] at h204
        obtain ⟨f, ef⟩ := okB_f h204
        rw [ef] at o2 ⊢
        rw [bnd_e]
        refine d_run 1 rfl ?_
        refine d_ib k164_208 (by rfl) ?_
        exact ⟨o2.1, o2.2⟩
    refine d_run 1 rfl ?_
    refine d_gI k164_66 (by first | assumption | exact Nat.le_of_ble_eq_true rfl | omega) ⟨rfl, rfl, Or.inl rfl⟩ ?_
    rw [h.2.2.2.1]
    refine d_if_eq k164_69 (fun h69 => ?_) (fun h69 => ?_)
    · have e69 : tK t p = 0 := nI_inj (b := 0) h69 (by omega) (by omega)
      rw [show ldL t (n + 1) p B = .inr B by simp only [ldL]; rw [if_pos e69]]
      refine d_run 1 rfl ?_
      refine d_ib k164_213 (by rfl) ?_
      exact ⟨MFr.rf, hB⟩
    · have e69 : ¬ tK t p = 0 := fun e => h69 (by rw [e]; rfl)
      refine d_run 2 rfl ?_
      refine d_callT 2 k164_76 (by omega) (Nat.le_of_ble_eq_true rfl) rfl (Nat.le_of_ble_eq_true rfl) (Nat.le_of_ble_eq_true rfl) (recv_ok rfl (by first | assumption | exact Nat.le_of_ble_eq_true rfl | omega)) rfl (m_isWd (n := 1) b0 (by decide) (by decide) (by decide) h) rfl ?_
      refine d_if_eq k164_79 (fun h79 => ?_) (fun h79 => ?_)
      · rw [b2i0] at h79
        refine d_run 2 rfl ?_
        refine d_callT 2 k164_93 (by omega) (Nat.le_of_ble_eq_true rfl) rfl (Nat.le_of_ble_eq_true rfl) (Nat.le_of_ble_eq_true rfl) (recv_ok rfl (by first | assumption | exact Nat.le_of_ble_eq_true rfl | omega)) rfl (m_isWd (n := 3) b1 (by decide) (by decide) (by decide) h) rfl ?_
        refine d_if_eq k164_96 (fun h96 => ?_) (fun h96 => ?_)
        · rw [b2i0] at h96
          refine d_run 2 rfl ?_
          refine d_callT 2 k164_110 (by omega) (Nat.le_of_ble_eq_true rfl) rfl (Nat.le_of_ble_eq_true rfl) (Nat.le_of_ble_eq_true rfl) (recv_ok rfl (by first | assumption | exact Nat.le_of_ble_eq_true rfl | omega)) rfl (m_isWd (n := 4) b2 (by decide) (by decide) (by decide) h) rfl ?_
          refine d_if_eq k164_113 (fun h113 => ?_) (fun h113 => ?_)
          · rw [b2i0] at h113
            refine d_run 2 rfl ?_
            refine d_callT 2 k164_127 (by omega) (Nat.le_of_ble_eq_true rfl) rfl (Nat.le_of_ble_eq_true rfl) (Nat.le_of_ble_eq_true rfl) (recv_ok rfl (by first | assumption | exact Nat.le_of_ble_eq_true rfl | omega)) rfl (m_isWd (n := 11) b5 (by decide) (by decide) (by decide) h) rfl ?_
            refine d_if_eq k164_130 (fun h130 => ?_) (fun h130 => ?_)
            · rw [b2i0] at h130
              refine d_run 2 rfl ?_
              refine d_callT 2 k164_144 (by omega) (Nat.le_of_ble_eq_true rfl) rfl (Nat.le_of_ble_eq_true rfl) (Nat.le_of_ble_eq_true rfl) (recv_ok rfl (by first | assumption | exact Nat.le_of_ble_eq_true rfl | omega)) rfl (m_isWd (n := 12) b6 (by decide) (by decide) (by decide) h) rfl ?_
              refine d_if_eq k164_147 (fun h147 => ?_) (fun h147 => ?_)
              · rw [b2i0] at h147
                refine d_run 2 rfl ?_
                refine d_callT 2 k164_164 (by omega) (Nat.le_of_ble_eq_true rfl) rfl (Nat.le_of_ble_eq_true rfl) (Nat.le_of_ble_eq_true rfl) (recv_ok rfl (by first | assumption | exact Nat.le_of_ble_eq_true rfl | omega)) rfl (m_isWd (n := 13) b7 (by decide) (by decide) (by decide) h) rfl ?_
                refine d_if_eq k164_167 (fun h167 => ?_) (fun h167 => ?_)
                · rw [b2i0] at h167
                  refine d_run 2 rfl ?_
                  refine d_callT 2 k164_184 (by omega) (Nat.le_of_ble_eq_true rfl) rfl (Nat.le_of_ble_eq_true rfl) (Nat.le_of_ble_eq_true rfl) (recv_ok rfl (by first | assumption | exact Nat.le_of_ble_eq_true rfl | omega)) rfl (m_isWd (n := 14) b8 (by decide) (by decide) (by decide) h) rfl ?_
                  refine d_if_eq k164_187 (fun h187 => ?_) (fun h187 => ?_)
                  · rw [b2i0] at h187
                    refine d_run 2 rfl ?_
                    refine d_callT 2 k164_199 (by omega) (Nat.le_of_ble_eq_true rfl) rfl (Nat.le_of_ble_eq_true rfl) (Nat.le_of_ble_eq_true rfl) (recv_ok rfl (by first | assumption | exact Nat.le_of_ble_eq_true rfl | omega)) rfl (m_fails (c := 1) h) rfl ?_
                    have eO : oneL t p B = .inl (1 + 16 * p) := by rw [one_o, show stL t p B = .inl (1 + 16 * p) by unfold stL; rw [if_neg (by rw [h79]; decide), if_neg (by rw [h96]; decide), if_neg (by rw [h113]; decide), if_neg (by rw [h130]; decide), if_neg (by rw [h147]; decide), if_neg (by rw [h167]; decide), if_neg (by rw [h187]; decide)]]; rfl
                    have o2 : MSo t F G (.inl (1 + 16 * p)) (uF F 40 0 9 (nI (1 + 16 * p))) G := MSo.f MFr.rf
                    generalize hF2 : uF F 40 0 9 (nI (1 + 16 * p)) = F2 at o2 ⊢
                    have hG2 : ∃ G2, G = G2 := ⟨G, rfl⟩
                    rw [show b2i false = b2i (okB (.inl (1 + 16 * p) : Nat ⊕ (Nat × LB))) from rfl]
                    rw [← eO] at o2 ⊢
                    exact k202 e69 _ _ o2
                  · rw [b2i0, Bool.not_eq_false] at h187
                    have eO : oneL t p B = oS t (sWinds t p B) := by rw [one_o, show stL t p B = sWinds t p B by unfold stL; rw [if_neg (by rw [h79]; decide), if_neg (by rw [h96]; decide), if_neg (by rw [h113]; decide), if_neg (by rw [h130]; decide), if_neg (by rw [h147]; decide), if_neg (by rw [h167]; decide), if_pos h187]]
                    refine d_run 1 rfl ?_
                    refine d_call 1 k164_191 (by omega) (Nat.le_of_ble_eq_true rfl) rfl (Nat.le_of_ble_eq_true rfl) (Nat.le_of_ble_eq_true rfl) (recv_ok rfl (by first | assumption | exact Nat.le_of_ble_eq_true rfl | omega)) rfl (m_rwinds (by omega) hB hw.2 h) rfl ?_
                    rintro F2 G2 o2
                    refine d_run 1 rfl ?_
                    rw [← eO] at o2 ⊢
                    exact k202 e69 _ _ o2
                · rw [b2i0, Bool.not_eq_false] at h167
                  have eO : oneL t p B = oS t (sSnap t p B) := by rw [one_o, show stL t p B = sSnap t p B by unfold stL; rw [if_neg (by rw [h79]; decide), if_neg (by rw [h96]; decide), if_neg (by rw [h113]; decide), if_neg (by rw [h130]; decide), if_neg (by rw [h147]; decide), if_pos h167]]
                  refine d_run 3 rfl ?_
                  refine d_call 3 k164_174 (by omega) (Nat.le_of_ble_eq_true rfl) rfl (Nat.le_of_ble_eq_true rfl) (Nat.le_of_ble_eq_true rfl) (recv_ok rfl (by first | assumption | exact Nat.le_of_ble_eq_true rfl | omega)) rfl (m_snap (by omega) hB h) rfl ?_
                  rintro F2 G2 o2
                  refine d_run 1 rfl ?_
                  rw [← eO] at o2 ⊢
                  exact k202 e69 _ _ o2
              · rw [b2i0, Bool.not_eq_false] at h147
                have eO : oneL t p B = oS t (sSoon t p B) := by rw [one_o, show stL t p B = sSoon t p B by unfold stL; rw [if_neg (by rw [h79]; decide), if_neg (by rw [h96]; decide), if_neg (by rw [h113]; decide), if_neg (by rw [h130]; decide), if_pos h147]]
                refine d_run 3 rfl ?_
                refine d_call 3 k164_154 (by omega) (Nat.le_of_ble_eq_true rfl) rfl (Nat.le_of_ble_eq_true rfl) (Nat.le_of_ble_eq_true rfl) (recv_ok rfl (by first | assumption | exact Nat.le_of_ble_eq_true rfl | omega)) rfl (m_soon (by omega) hB h) rfl ?_
                rintro F2 G2 o2
                refine d_run 1 rfl ?_
                rw [← eO] at o2 ⊢
                exact k202 e69 _ _ o2
            · rw [b2i0, Bool.not_eq_false] at h130
              have eO : oneL t p B = oS t (sPair t p B false) := by rw [one_o, show stL t p B = sPair t p B false by unfold stL; rw [if_neg (by rw [h79]; decide), if_neg (by rw [h96]; decide), if_neg (by rw [h113]; decide), if_pos h130]]
              refine d_run 1 rfl ?_
              refine d_call 1 k164_134 (by omega) (Nat.le_of_ble_eq_true rfl) rfl (Nat.le_of_ble_eq_true rfl) (Nat.le_of_ble_eq_true rfl) (recv_ok rfl (by first | assumption | exact Nat.le_of_ble_eq_true rfl | omega)) rfl (m_knows (by omega) hB hw.1 h) rfl ?_
              rintro F2 G2 o2
              refine d_run 1 rfl ?_
              rw [← eO] at o2 ⊢
              exact k202 e69 _ _ o2
          · rw [b2i0, Bool.not_eq_false] at h113
            have eO : oneL t p B = oS t (sPerson t p B) := by rw [one_o, show stL t p B = sPerson t p B by unfold stL; rw [if_neg (by rw [h79]; decide), if_neg (by rw [h96]; decide), if_pos h113]]
            refine d_run 1 rfl ?_
            refine d_call 1 k164_117 (by omega) (Nat.le_of_ble_eq_true rfl) rfl (Nat.le_of_ble_eq_true rfl) (Nat.le_of_ble_eq_true rfl) (recv_ok rfl (by first | assumption | exact Nat.le_of_ble_eq_true rfl | omega)) rfl (m_person (by omega) hB hw.1 h) rfl ?_
            rintro F2 G2 o2
            refine d_run 1 rfl ?_
            rw [← eO] at o2 ⊢
            exact k202 e69 _ _ o2
        · rw [b2i0, Bool.not_eq_false] at h96
          have eO : oneL t p B = oS t (sPair t p B true) := by rw [one_o, show stL t p B = sPair t p B true by unfold stL; rw [if_neg (by rw [h79]; decide), if_pos h96]]
          refine d_run 1 rfl ?_
          refine d_call 1 k164_100 (by omega) (Nat.le_of_ble_eq_true rfl) rfl (Nat.le_of_ble_eq_true rfl) (Nat.le_of_ble_eq_true rfl) (recv_ok rfl (by first | assumption | exact Nat.le_of_ble_eq_true rfl | omega)) rfl (m_lane (by omega) hB hw.1 h) rfl ?_
          rintro F2 G2 o2
          refine d_run 1 rfl ?_
          rw [← eO] at o2 ⊢
          exact k202 e69 _ _ o2
      · rw [b2i0, Bool.not_eq_false] at h79
        have eO : oneL t p B = oS t (sStreet t p B) := by rw [one_o, show stL t p B = sStreet t p B by unfold stL; rw [if_pos h79]]
        refine d_run 1 rfl ?_
        refine d_call 1 k164_83 (by omega) (Nat.le_of_ble_eq_true rfl) rfl (Nat.le_of_ble_eq_true rfl) (Nat.le_of_ble_eq_true rfl) (recv_ok rfl (by first | assumption | exact Nat.le_of_ble_eq_true rfl | omega)) rfl (m_street (by omega) hB hw.1 h) rfl ?_
        rintro F2 G2 o2
        refine d_run 1 rfl ?_
        rw [← eO] at o2 ⊢
        exact k202 e69 _ _ o2
end TG
