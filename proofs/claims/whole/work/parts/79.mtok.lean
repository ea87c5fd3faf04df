/-! TOKENS OF THE REFERENCE -/
def d40 (k : Nat) : Bool := decide (k = 40)
def MRd (F : FT) (G : GT) (t : TP) (p : Nat) : Prop := F 40 0 3 = nI t.1 ∧ F 40 0 4 = nI (tE t p) ∧ F 40 0 5 = nI p ∧ F 40 0 6 = nI (tK t p) ∧ (tK t p = 1 → G 40 0 7 = w27 (tW t p)) ∧ (tK t p = 2 → F 40 0 8 = nI (tV t p)) ∧ eqR t.1 (F 41 0) t.2 ∧ p ≤ t.1 ∧ wfTp t
/-- only the token has changed -/
def MNx (F : FT) (G : GT) (F2 : FT) (G2 : GT) : Prop := (∀ i, i ≠ 4 → i ≠ 5 → i ≠ 6 → i ≠ 8 → F2 40 0 i = F 40 0 i) ∧ FrK d40 F F2 ∧ (∀ k, k ≠ 40 → G2 k = G k) ∧ ∀ j, j ≠ 7 → G2 40 0 j = G 40 0 j
theorem MNx.rf {F : FT} {G : GT} : MNx F G F G := ⟨fun _ _ _ _ _ => rfl, FrK.rf, fun _ _ => rfl, fun _ _ => rfl⟩
theorem MNx.tr {F F1 F2 : FT} {G G1 G2 : GT} (h : MNx F G F1 G1) (h2 : MNx F1 G1 F2 G2) : MNx F G F2 G2 := ⟨fun i a b c e => (h2.1 i a b c e).trans (h.1 i a b c e), h.2.1.tr h2.2.1, fun k hk => (h2.2.2.1 k hk).trans (h.2.2.1 k hk), fun j hj => (h2.2.2.2 j hj).trans (h.2.2.2 j hj)⟩
theorem MNx.u {F : FT} {G : GT} {i : Nat} {v : Int32} (hi : i = 4 ∨ i = 5 ∨ i = 6 ∨ i = 8) : MNx F G (uF F 40 0 i v) G := ⟨fun j a b c e => by rw [uF_r, pk_un (by omega)], FrK.rf.u rfl, fun _ _ => rfl, fun _ _ => rfl⟩
theorem MNx.g {F : FT} {G : GT} {v : Int64} : MNx F G F (uG G 40 0 7 v) := ⟨fun _ _ _ _ _ => rfl, FrK.rf, fun k hk => uG_k hk, fun j hj => by simp [uG, hj]⟩
/-- the tape as it is read -/
def MTr (F : FT) (t : TP) : Prop := F 40 0 3 = nI t.1 ∧ eqR t.1 (F 41 0) t.2 ∧ wfTp t
theorem MTr.nx {F F2 : FT} {G G2 : GT} {t : TP} (h : MTr F t) (n : MNx F G F2 G2) : MTr F2 t := ⟨by rw [n.1 3 (by decide) (by decide) (by decide) (by decide)]; exact h.1, by rw [n.2.1 41 rfl]; exact h.2.1, h.2.2⟩
theorem MTr.u {F : FT} {t : TP} {i : Nat} {v : Int32} (h : MTr F t) (hi : i ≠ 3) : MTr (uF F 40 0 i v) t := ⟨by rw [uF_r, pk_un (fun e => hi e.symm)]; exact h.1, by rw [uF_k (by decide)]; exact h.2.1, h.2.2⟩
theorem let_m : ∀ c, c < 123 → 97 ≤ c → ∀ X : Int64, lbop 1 (lbop 0 X ((nI c).toInt64)) 96 = X + Int64.ofNat (c - 96) := by
  intro c h1 h2 X
  show X + (nI c).toInt64 - 96 = _
  rw [nI_l (by omega), show (96 : Int64) = lN 96 from rfl, Int64.sub_eq_add_neg, Int64.add_assoc, ← Int64.sub_eq_add_neg, lN_sub (by omega)]
  rfl
section T9
variable {E : EV} {d x p : Nat} {F : FT} {G : GT} {b : Bool} {t : TP} {u v w : Int32}
theorem m_signAt {e : Nat} (h : MTr F t) (he : e ≤ t.1) : Tm E d 134 0 [some (vr 40 0), some (vi (nI e))] [] (cC x) F G (Rs b) (some (vi (if e < t.1 then nI (cAt t e) else 0))) (cC x, F, G, Rs b) := by
  have ht := h.2.2.1
  refine t_run 2 rfl ?_
  refine t_gI k134_2 (by first | assumption | exact Nat.le_of_ble_eq_true rfl | omega) ⟨rfl, rfl, Or.inl rfl⟩ ?_
  rw [h.1]
  refine t_ic_ge k134_5 (fun h5 => ?_) (fun h5 => ?_)
  · have h5 := ge_nI h5 rfl (by omega) (by omega)
    rw [if_neg (by omega)]
    refine t_run 1 rfl ?_
    exact t_ir k134_18 rfl (by rfl)
  · have h5 := lt_nI h5 rfl (by omega) (by omega)
    rw [if_pos h5]
    refine t_run 1 rfl ?_
    refine t_gR k134_9 (by first | assumption | exact Nat.le_of_ble_eq_true rfl | omega) ⟨rfl, rfl, rfl⟩ rfl ?_
    refine t_run 1 rfl ?_
    refine t_ia (N := 1000) (j := e) k134_13 (by decide) (by first | assumption | exact Nat.le_of_ble_eq_true rfl | omega) ⟨⟨rfl, rfl⟩, rfl, rfl⟩ (show e < 1000 by omega) rfl ?_
    rw [show F 41 0 e = nI (cAt t e) from (h.2.1 e h5).trans (cAt_c h.2.2 h5).1]
    refine t_run 1 rfl ?_
    exact t_ir k134_18 rfl (by rfl)
theorem isLc_b {t : TP} {e : Nat} (hw : wfTp t) (he : e ≤ t.1) : (¬ (if e < t.1 then nI (cAt t e) else 0) < 97 ∧ ¬ 122 < (if e < t.1 then nI (cAt t e) else 0)) ↔ (e < t.1 ∧ isLc (cAt t e) = true) := by
  by_cases h : e < t.1
  · rw [if_pos h]
    have hc := (cAt_c hw h).2
    rw [show (97 : Int32) = nI 97 from rfl, show (122 : Int32) = nI 122 from rfl, nI_ltI (by omega) (by omega), nI_ltI (by omega) (by omega)]
    simp only [isLc, Bool.and_eq_true, decide_eq_true_eq]
    omega
  · rw [if_neg h]
    constructor
    · intro ⟨h1, _⟩; exact absurd (by decide) h1
    · intro ⟨h1, _⟩; exact absurd h1 h
theorem isDc_b {t : TP} {e : Nat} (hw : wfTp t) (he : e ≤ t.1) : (¬ (if e < t.1 then nI (cAt t e) else 0) < 48 ∧ ¬ 57 < (if e < t.1 then nI (cAt t e) else 0)) ↔ (e < t.1 ∧ isDc (cAt t e) = true) := by
  by_cases h : e < t.1
  · rw [if_pos h]
    have hc := (cAt_c hw h).2
    rw [show (48 : Int32) = nI 48 from rfl, show (57 : Int32) = nI 57 from rfl, nI_ltI (by omega) (by omega), nI_ltI (by omega) (by omega)]
    simp only [isDc, Bool.and_eq_true, decide_eq_true_eq]
    omega
  · rw [if_neg h]
    constructor
    · intro ⟨h1, _⟩; exact absurd (by decide) h1
    · intro ⟨h1, _⟩; exact absurd h1 h
theorem l_mscW {F0 : FT} {G0 : GT} (hd : 1 ≤ d) : ∀ (r e : Nat) (F : FT) (G : GT), e + r = t.1 → p ≤ e → MTr F t → F 40 0 5 = nI p → F 40 0 4 = nI e → G 40 0 7 = w27 (wlt t p (min (e - p) 8)) → MNx F0 G0 F G → Td E d 135 109 [some (vr 40 0), some (vi u)] [] x F G b none (fun F2 G2 => F2 40 0 5 = nI p ∧ F2 40 0 4 = nI (scn t isLc r e) ∧ G2 40 0 7 = w27 (wlt t p (min (scn t isLc r e - p) 8)) ∧ F2 40 0 6 = nI (if scn t isLc r e - p ≤ 8 then 1 else 4) ∧ MNx F0 G0 F2 G2) := by
  intro r
  induction r with
  | zero =>
    intro e F G her hpe hT h5 h4 hA hN
    have hlen := hT.2.2.1
    have hb := isLc_b (t := t) (e := e) hT.2.2 (by omega)
    have eR : scn t isLc 0 e = e := rfl
    refine d_run 2 rfl ?_
    refine d_gI k135_111 (by first | assumption | exact Nat.le_of_ble_eq_true rfl | omega) ⟨rfl, rfl, Or.inl rfl⟩ ?_
    rw [h4]
    refine d_callT 2 k135_114 (by omega) (Nat.le_of_ble_eq_true rfl) rfl (Nat.le_of_ble_eq_true rfl) (Nat.le_of_ble_eq_true rfl) (recv_ok rfl (by first | assumption | exact Nat.le_of_ble_eq_true rfl | omega)) rfl (m_signAt hT (by omega)) rfl ?_
    refine d_run 1 rfl ?_
    refine d_ic_lt k135_119 (fun h119 => ?_) (fun h119 => ?_)
    · refine d_run 2 rfl ?_
      refine d_gI k135_190 (by first | assumption | exact Nat.le_of_ble_eq_true rfl | omega) ⟨rfl, rfl, Or.inl rfl⟩ ?_
      rw [h4]
      refine d_run 1 rfl ?_
      refine d_gI k135_194 (by first | assumption | exact Nat.le_of_ble_eq_true rfl | omega) ⟨rfl, rfl, Or.inl rfl⟩ ?_
      rw [h5]
      refine d_run 2 rfl ?_
      rw [show ibop 1 (nI e) (nI p) = nI (e - p) from pk_sub hpe]
      refine d_ic_le k135_200 (fun h200 => ?_) (fun h200 => ?_)
      · have hk := ge_nI (a := 8) (b := e - p) h200 rfl (by omega) (by omega)
        have eK : (if e - p ≤ 8 then 1 else 4) = 1 := if_pos hk
        refine d_run 1 rfl ?_
        refine d_pI k135_208 (by first | assumption | exact Nat.le_of_ble_eq_true rfl | omega) ⟨rfl, rfl⟩ ?_
        refine d_ret k135_211 ?_
        refine ⟨?_, ?_, ?_, ?_, hN.tr (MNx.u (by omega))⟩
        · rw [uF_r, pk_un (by decide)]; exact h5
        · rw [eR, uF_r, pk_un (by decide)]; exact h4
        · rw [eR]
          exact hA
        · rw [eR, uF_r, pk_us, eK]
          rfl
      · have hk := lt_nI (a := 8) (b := e - p) h200 rfl (by omega) (by omega)
        have eK : (if e - p ≤ 8 then 1 else 4) = 4 := if_neg (by omega)
        refine d_run 2 rfl ?_
        refine d_pI k135_208 (by first | assumption | exact Nat.le_of_ble_eq_true rfl | omega) ⟨rfl, rfl⟩ ?_
        refine d_ret k135_211 ?_
        refine ⟨?_, ?_, ?_, ?_, hN.tr (MNx.u (by omega))⟩
        · rw [uF_r, pk_un (by decide)]; exact h5
        · rw [eR, uF_r, pk_un (by decide)]; exact h4
        · rw [eR]
          exact hA
        · rw [eR, uF_r, pk_us, eK]
          rfl
    · refine d_run 2 rfl ?_
      refine d_gI k135_124 (by first | assumption | exact Nat.le_of_ble_eq_true rfl | omega) ⟨rfl, rfl, Or.inl rfl⟩ ?_
      rw [h4]
      refine d_callT 2 k135_127 (by omega) (Nat.le_of_ble_eq_true rfl) rfl (Nat.le_of_ble_eq_true rfl) (Nat.le_of_ble_eq_true rfl) (recv_ok rfl (by first | assumption | exact Nat.le_of_ble_eq_true rfl | omega)) rfl (m_signAt hT (by omega)) rfl ?_
      refine d_run 1 rfl ?_
      refine d_ic_gt k135_132 (fun h132 => ?_) (fun h132 => ?_)
      · refine d_run 2 rfl ?_
        refine d_gI k135_190 (by first | assumption | exact Nat.le_of_ble_eq_true rfl | omega) ⟨rfl, rfl, Or.inl rfl⟩ ?_
        rw [h4]
        refine d_run 1 rfl ?_
        refine d_gI k135_194 (by first | assumption | exact Nat.le_of_ble_eq_true rfl | omega) ⟨rfl, rfl, Or.inl rfl⟩ ?_
        rw [h5]
        refine d_run 2 rfl ?_
        rw [show ibop 1 (nI e) (nI p) = nI (e - p) from pk_sub hpe]
        refine d_ic_le k135_200 (fun h200 => ?_) (fun h200 => ?_)
        · have hk := ge_nI (a := 8) (b := e - p) h200 rfl (by omega) (by omega)
          have eK : (if e - p ≤ 8 then 1 else 4) = 1 := if_pos hk
          refine d_run 1 rfl ?_
          refine d_pI k135_208 (by first | assumption | exact Nat.le_of_ble_eq_true rfl | omega) ⟨rfl, rfl⟩ ?_
          refine d_ret k135_211 ?_
          refine ⟨?_, ?_, ?_, ?_, hN.tr (MNx.u (by omega))⟩
          · rw [uF_r, pk_un (by decide)]; exact h5
          · rw [eR, uF_r, pk_un (by decide)]; exact h4
          · rw [eR]
            exact hA
          · rw [eR, uF_r, pk_us, eK]
            rfl
        · have hk := lt_nI (a := 8) (b := e - p) h200 rfl (by omega) (by omega)
          have eK : (if e - p ≤ 8 then 1 else 4) = 4 := if_neg (by omega)
          refine d_run 2 rfl ?_
          refine d_pI k135_208 (by first | assumption | exact Nat.le_of_ble_eq_true rfl | omega) ⟨rfl, rfl⟩ ?_
          refine d_ret k135_211 ?_
          refine ⟨?_, ?_, ?_, ?_, hN.tr (MNx.u (by omega))⟩
          · rw [uF_r, pk_un (by decide)]; exact h5
          · rw [eR, uF_r, pk_un (by decide)]; exact h4
          · rw [eR]
            exact hA
          · rw [eR, uF_r, pk_us, eK]
            rfl
      · exact absurd (hb.mp ⟨h119, h132⟩).1 (by omega)
  | succ r ih =>
    intro e F G her hpe hT h5 h4 hA hN
    have hlen := hT.2.2.1
    have hb := isLc_b (t := t) (e := e) hT.2.2 (by omega)
    refine d_run 2 rfl ?_
    refine d_gI k135_111 (by first | assumption | exact Nat.le_of_ble_eq_true rfl | omega) ⟨rfl, rfl, Or.inl rfl⟩ ?_
    rw [h4]
    refine d_callT 2 k135_114 (by omega) (Nat.le_of_ble_eq_true rfl) rfl (Nat.le_of_ble_eq_true rfl) (Nat.le_of_ble_eq_true rfl) (recv_ok rfl (by first | assumption | exact Nat.le_of_ble_eq_true rfl | omega)) rfl (m_signAt hT (by omega)) rfl ?_
    refine d_run 1 rfl ?_
    refine d_ic_lt k135_119 (fun h119 => ?_) (fun h119 => ?_)
    · have eR : scn t isLc (r + 1) e = e := by
        simp only [scn]
        rw [if_neg (fun e2 => (hb.mpr ⟨by omega, e2⟩).1 h119)]
      refine d_run 2 rfl ?_
      refine d_gI k135_190 (by first | assumption | exact Nat.le_of_ble_eq_true rfl | omega) ⟨rfl, rfl, Or.inl rfl⟩ ?_
      rw [h4]
      refine d_run 1 rfl ?_
      refine d_gI k135_194 (by first | assumption | exact Nat.le_of_ble_eq_true rfl | omega) ⟨rfl, rfl, Or.inl rfl⟩ ?_
      rw [h5]
      refine d_run 2 rfl ?_
      rw [show ibop 1 (nI e) (nI p) = nI (e - p) from pk_sub hpe]
      refine d_ic_le k135_200 (fun h200 => ?_) (fun h200 => ?_)
      · have hk := ge_nI (a := 8) (b := e - p) h200 rfl (by omega) (by omega)
        have eK : (if e - p ≤ 8 then 1 else 4) = 1 := if_pos hk
        refine d_run 1 rfl ?_
        refine d_pI k135_208 (by first | assumption | exact Nat.le_of_ble_eq_true rfl | omega) ⟨rfl, rfl⟩ ?_
        refine d_ret k135_211 ?_
        refine ⟨?_, ?_, ?_, ?_, hN.tr (MNx.u (by omega))⟩
        · rw [uF_r, pk_un (by decide)]; exact h5
        · rw [eR, uF_r, pk_un (by decide)]; exact h4
        · rw [eR]
          exact hA
        · rw [eR, uF_r, pk_us, eK]
          rfl
      · have hk := lt_nI (a := 8) (b := e - p) h200 rfl (by omega) (by omega)
        have eK : (if e - p ≤ 8 then 1 else 4) = 4 := if_neg (by omega)
        refine d_run 2 rfl ?_
        refine d_pI k135_208 (by first | assumption | exact Nat.le_of_ble_eq_true rfl | omega) ⟨rfl, rfl⟩ ?_
        refine d_ret k135_211 ?_
        refine ⟨?_, ?_, ?_, ?_, hN.tr (MNx.u (by omega))⟩
        · rw [uF_r, pk_un (by decide)]; exact h5
        · rw [eR, uF_r, pk_un (by decide)]; exact h4
        · rw [eR]
          exact hA
        · rw [eR, uF_r, pk_us, eK]
          rfl
    · refine d_run 2 rfl ?_
      refine d_gI k135_124 (by first | assumption | exact Nat.le_of_ble_eq_true rfl | omega) ⟨rfl, rfl, Or.inl rfl⟩ ?_
      rw [h4]
      refine d_callT 2 k135_127 (by omega) (Nat.le_of_ble_eq_true rfl) rfl (Nat.le_of_ble_eq_true rfl) (Nat.le_of_ble_eq_true rfl) (recv_ok rfl (by first | assumption | exact Nat.le_of_ble_eq_true rfl | omega)) rfl (m_signAt hT (by omega)) rfl ?_
      refine d_run 1 rfl ?_
      refine d_ic_gt k135_132 (fun h132 => ?_) (fun h132 => ?_)
      · have eR : scn t isLc (r + 1) e = e := by
          simp only [scn]
          rw [if_neg (fun e2 => (hb.mpr ⟨by omega, e2⟩).2 h132)]
        refine d_run 2 rfl ?_
        refine d_gI k135_190 (by first | assumption | exact Nat.le_of_ble_eq_true rfl | omega) ⟨rfl, rfl, Or.inl rfl⟩ ?_
        rw [h4]
        refine d_run 1 rfl ?_
        refine d_gI k135_194 (by first | assumption | exact Nat.le_of_ble_eq_true rfl | omega) ⟨rfl, rfl, Or.inl rfl⟩ ?_
        rw [h5]
        refine d_run 2 rfl ?_
        rw [show ibop 1 (nI e) (nI p) = nI (e - p) from pk_sub hpe]
        refine d_ic_le k135_200 (fun h200 => ?_) (fun h200 => ?_)
        · have hk := ge_nI (a := 8) (b := e - p) h200 rfl (by omega) (by omega)
          have eK : (if e - p ≤ 8 then 1 else 4) = 1 := if_pos hk
          refine d_run 1 rfl ?_
          refine d_pI k135_208 (by first | assumption | exact Nat.le_of_ble_eq_true rfl | omega) ⟨rfl, rfl⟩ ?_
          refine d_ret k135_211 ?_
          refine ⟨?_, ?_, ?_, ?_, hN.tr (MNx.u (by omega))⟩
          · rw [uF_r, pk_un (by decide)]; exact h5
          · rw [eR, uF_r, pk_un (by decide)]; exact h4
          · rw [eR]
            exact hA
          · rw [eR, uF_r, pk_us, eK]
            rfl
        · have hk := lt_nI (a := 8) (b := e - p) h200 rfl (by omega) (by omega)
          have eK : (if e - p ≤ 8 then 1 else 4) = 4 := if_neg (by omega)
          refine d_run 2 rfl ?_
          refine d_pI k135_208 (by first | assumption | exact Nat.le_of_ble_eq_true rfl | omega) ⟨rfl, rfl⟩ ?_
          refine d_ret k135_211 ?_
          refine ⟨?_, ?_, ?_, ?_, hN.tr (MNx.u (by omega))⟩
          · rw [uF_r, pk_un (by decide)]; exact h5
          · rw [eR, uF_r, pk_un (by decide)]; exact h4
          · rw [eR]
            exact hA
          · rw [eR, uF_r, pk_us, eK]
            rfl
      · have hL := (hb.mp ⟨h119, h132⟩).2
        have eR : scn t isLc (r + 1) e = scn t isLc r (e + 1) := by simp only [scn]; rw [if_pos hL]
        rw [eR]
        refine d_run 1 rfl ?_
        refine d_gI k135_136 (by first | assumption | exact Nat.le_of_ble_eq_true rfl | omega) ⟨rfl, rfl, Or.inl rfl⟩ ?_
        rw [h4]
        refine d_run 1 rfl ?_
        refine d_gI k135_140 (by first | assumption | exact Nat.le_of_ble_eq_true rfl | omega) ⟨rfl, rfl, Or.inl rfl⟩ ?_
        rw [h5]
        refine d_run 2 rfl ?_
        rw [show ibop 1 (nI e) (nI p) = nI (e - p) from pk_sub hpe]
        refine d_ic_ge k135_146 (fun h146 => ?_) (fun h146 => ?_)
        · have h8 := ge_nI (a := e - p) (b := 8) h146 rfl (by omega) (by omega)
          have eA : G 40 0 7 = w27 (wlt t p (min (e + 1 - p) 8)) := by rw [show min (e + 1 - p) 8 = min (e - p) 8 by omega]; exact hA
          refine d_run 2 rfl ?_
          refine d_gI k135_177 (by first | assumption | exact Nat.le_of_ble_eq_true rfl | omega) ⟨rfl, rfl, Or.inl rfl⟩ ?_
          rw [h4]
          refine d_run 2 rfl ?_
          rw [show ibop 0 (nI e) 1 = nI (e + 1) from nI_1 e]
          refine d_pI k135_182 (by first | assumption | exact Nat.le_of_ble_eq_true rfl | omega) ⟨rfl, rfl⟩ ?_
          refine d_run 1 rfl ?_
          first
          | exact ih (e + 1) _ _ (by omega) (by omega) (hT.u (by decide)) (by rw [uF_r, pk_un (by decide)]; exact h5) (by rw [uF_r, pk_us]) uG_s (hN.tr (MNx.g.tr (MNx.u (by omega))))
          | exact ih (e + 1) _ _ (by omega) (by omega) (hT.u (by decide)) (by rw [uF_r, pk_un (by decide)]; exact h5) (by rw [uF_r, pk_us]) eA (hN.tr (MNx.u (by omega)))
        · have h8 := lt_nI (a := e - p) (b := 8) h146 rfl (by omega) (by omega)
          refine d_run 2 rfl ?_
          refine d_gL k135_151 (by first | assumption | exact Nat.le_of_ble_eq_true rfl | omega) ⟨rfl, rfl, rfl⟩ ?_
          rw [hA]
          refine d_run 4 rfl ?_
          refine d_gI k135_160 (by first | assumption | exact Nat.le_of_ble_eq_true rfl | omega) ⟨rfl, rfl, Or.inl rfl⟩ ?_
          rw [h4]
          refine d_callT 2 k135_163 (by omega) (Nat.le_of_ble_eq_true rfl) rfl (Nat.le_of_ble_eq_true rfl) (Nat.le_of_ble_eq_true rfl) (recv_ok rfl (by first | assumption | exact Nat.le_of_ble_eq_true rfl | omega)) rfl (m_signAt hT (by omega)) rfl ?_
          rw [if_pos (show e < t.1 by omega)]
          refine d_run 4 rfl ?_
          have hlc : 97 ≤ cAt t e ∧ cAt t e ≤ 122 := by simpa [isLc] using hL
          have eW : lbop 1 (lbop 0 (lbop 2 (w27 (wlt t p (min (e - p) 8))) 27) ((nI (cAt t e)).toInt64)) 96 = w27 (wlt t p (min (e + 1 - p) 8)) := by
            rw [let_m (cAt t e) (by omega) hlc.1, show min (e + 1 - p) 8 = (e - p) + 1 by omega, show min (e - p) 8 = e - p by omega, wlt_s, w27_s, show p + (e - p) = e by omega]
            rfl
          rw [eW]
          refine d_pL k135_172 (by first | assumption | exact Nat.le_of_ble_eq_true rfl | omega) ⟨rfl, rfl⟩ ?_
          refine d_run 2 rfl ?_
          refine d_gI k135_177 (by first | assumption | exact Nat.le_of_ble_eq_true rfl | omega) ⟨rfl, rfl, Or.inl rfl⟩ ?_
          rw [h4]
          refine d_run 2 rfl ?_
          rw [show ibop 0 (nI e) 1 = nI (e + 1) from nI_1 e]
          refine d_pI k135_182 (by first | assumption | exact Nat.le_of_ble_eq_true rfl | omega) ⟨rfl, rfl⟩ ?_
          refine d_run 1 rfl ?_
          first
          | exact ih (e + 1) _ _ (by omega) (by omega) (hT.u (by decide)) (by rw [uF_r, pk_un (by decide)]; exact h5) (by rw [uF_r, pk_us]) uG_s (hN.tr (MNx.g.tr (MNx.u (by omega))))
          | exact ih (e + 1) _ _ (by omega) (by omega) (hT.u (by decide)) (by rw [uF_r, pk_un (by decide)]; exact h5) (by rw [uF_r, pk_us]) eA (hN.tr (MNx.u (by omega)))
theorem l_mscN {F0 : FT} {G0 : GT} (hd : 1 ≤ d) : ∀ (r e : Nat) (F : FT) (G : GT), e + r = t.1 → p ≤ e → MTr F t → F 40 0 5 = nI p → F 40 0 4 = nI e → F 40 0 8 = nI (vlt t p (min (e - p) 4)) → MNx F0 G0 F G → Td E d 135 224 [some (vr 40 0), some (vi u)] [] x F G b none (fun F2 G2 => F2 40 0 5 = nI p ∧ F2 40 0 4 = nI (scn t isDc r e) ∧ F2 40 0 8 = nI (vlt t p (min (scn t isDc r e - p) 4)) ∧ F2 40 0 6 = nI (if scn t isDc r e - p ≤ 4 then 2 else 4) ∧ MNx F0 G0 F2 G2) := by
  intro r
  induction r with
  | zero =>
    intro e F G her hpe hT h5 h4 hA hN
    have hlen := hT.2.2.1
    have hb := isDc_b (t := t) (e := e) hT.2.2 (by omega)
    have eR : scn t isDc 0 e = e := rfl
    refine d_run 2 rfl ?_
    refine d_gI k135_226 (by first | assumption | exact Nat.le_of_ble_eq_true rfl | omega) ⟨rfl, rfl, Or.inl rfl⟩ ?_
    rw [h4]
    refine d_callT 2 k135_229 (by omega) (Nat.le_of_ble_eq_true rfl) rfl (Nat.le_of_ble_eq_true rfl) (Nat.le_of_ble_eq_true rfl) (recv_ok rfl (by first | assumption | exact Nat.le_of_ble_eq_true rfl | omega)) rfl (m_signAt hT (by omega)) rfl ?_
    refine d_run 1 rfl ?_
    refine d_ic_lt k135_234 (fun h234 => ?_) (fun h234 => ?_)
    · refine d_run 2 rfl ?_
      refine d_gI k135_301 (by first | assumption | exact Nat.le_of_ble_eq_true rfl | omega) ⟨rfl, rfl, Or.inl rfl⟩ ?_
      rw [h4]
      refine d_run 1 rfl ?_
      refine d_gI k135_305 (by first | assumption | exact Nat.le_of_ble_eq_true rfl | omega) ⟨rfl, rfl, Or.inl rfl⟩ ?_
      rw [h5]
      refine d_run 2 rfl ?_
      rw [show ibop 1 (nI e) (nI p) = nI (e - p) from pk_sub hpe]
      refine d_ic_le k135_310 (fun h310 => ?_) (fun h310 => ?_)
      · have hk := ge_nI (a := 4) (b := e - p) h310 rfl (by omega) (by omega)
        have eK : (if e - p ≤ 4 then 2 else 4) = 2 := if_pos hk
        refine d_run 1 rfl ?_
        refine d_pI k135_318 (by first | assumption | exact Nat.le_of_ble_eq_true rfl | omega) ⟨rfl, rfl⟩ ?_
        refine d_ret k135_321 ?_
        refine ⟨?_, ?_, ?_, ?_, hN.tr (MNx.u (by omega))⟩
        · rw [uF_r, pk_un (by decide)]; exact h5
        · rw [eR, uF_r, pk_un (by decide)]; exact h4
        · rw [eR]
          rw [uF_r, pk_un (by decide)]; exact hA
        · rw [eR, uF_r, pk_us, eK]
          rfl
      · have hk := lt_nI (a := 4) (b := e - p) h310 rfl (by omega) (by omega)
        have eK : (if e - p ≤ 4 then 2 else 4) = 4 := if_neg (by omega)
        refine d_run 2 rfl ?_
        refine d_pI k135_318 (by first | assumption | exact Nat.le_of_ble_eq_true rfl | omega) ⟨rfl, rfl⟩ ?_
        refine d_ret k135_321 ?_
        refine ⟨?_, ?_, ?_, ?_, hN.tr (MNx.u (by omega))⟩
        · rw [uF_r, pk_un (by decide)]; exact h5
        · rw [eR, uF_r, pk_un (by decide)]; exact h4
        · rw [eR]
          rw [uF_r, pk_un (by decide)]; exact hA
        · rw [eR, uF_r, pk_us, eK]
          rfl
    · refine d_run 2 rfl ?_
      refine d_gI k135_239 (by first | assumption | exact Nat.le_of_ble_eq_true rfl | omega) ⟨rfl, rfl, Or.inl rfl⟩ ?_
      rw [h4]
      refine d_callT 2 k135_242 (by omega) (Nat.le_of_ble_eq_true rfl) rfl (Nat.le_of_ble_eq_true rfl) (Nat.le_of_ble_eq_true rfl) (recv_ok rfl (by first | assumption | exact Nat.le_of_ble_eq_true rfl | omega)) rfl (m_signAt hT (by omega)) rfl ?_
      refine d_run 1 rfl ?_
      refine d_ic_gt k135_247 (fun h247 => ?_) (fun h247 => ?_)
      · refine d_run 2 rfl ?_
        refine d_gI k135_301 (by first | assumption | exact Nat.le_of_ble_eq_true rfl | omega) ⟨rfl, rfl, Or.inl rfl⟩ ?_
        rw [h4]
        refine d_run 1 rfl ?_
        refine d_gI k135_305 (by first | assumption | exact Nat.le_of_ble_eq_true rfl | omega) ⟨rfl, rfl, Or.inl rfl⟩ ?_
        rw [h5]
        refine d_run 2 rfl ?_
        rw [show ibop 1 (nI e) (nI p) = nI (e - p) from pk_sub hpe]
        refine d_ic_le k135_310 (fun h310 => ?_) (fun h310 => ?_)
        · have hk := ge_nI (a := 4) (b := e - p) h310 rfl (by omega) (by omega)
          have eK : (if e - p ≤ 4 then 2 else 4) = 2 := if_pos hk
          refine d_run 1 rfl ?_
          refine d_pI k135_318 (by first | assumption | exact Nat.le_of_ble_eq_true rfl | omega) ⟨rfl, rfl⟩ ?_
          refine d_ret k135_321 ?_
          refine ⟨?_, ?_, ?_, ?_, hN.tr (MNx.u (by omega))⟩
          · rw [uF_r, pk_un (by decide)]; exact h5
          · rw [eR, uF_r, pk_un (by decide)]; exact h4
          · rw [eR]
            rw [uF_r, pk_un (by decide)]; exact hA
          · rw [eR, uF_r, pk_us, eK]
            rfl
        · have hk := lt_nI (a := 4) (b := e - p) h310 rfl (by omega) (by omega)
          have eK : (if e - p ≤ 4 then 2 else 4) = 4 := if_neg (by omega)
          refine d_run 2 rfl ?_
          refine d_pI k135_318 (by first | assumption | exact Nat.le_of_ble_eq_true rfl | omega) ⟨rfl, rfl⟩ ?_
          refine d_ret k135_321 ?_
          refine ⟨?_, ?_, ?_, ?_, hN.tr (MNx.u (by omega))⟩
          · rw [uF_r, pk_un (by decide)]; exact h5
          · rw [eR, uF_r, pk_un (by decide)]; exact h4
          · rw [eR]
            rw [uF_r, pk_un (by decide)]; exact hA
          · rw [eR, uF_r, pk_us, eK]
            rfl
      · exact absurd (hb.mp ⟨h234, h247⟩).1 (by omega)
  | succ r ih =>
    intro e F G her hpe hT h5 h4 hA hN
    have hlen := hT.2.2.1
    have hb := isDc_b (t := t) (e := e) hT.2.2 (by omega)
    refine d_run 2 rfl ?_
    refine d_gI k135_226 (by first | assumption | exact Nat.le_of_ble_eq_true rfl | omega) ⟨rfl, rfl, Or.inl rfl⟩ ?_
    rw [h4]
    refine d_callT 2 k135_229 (by omega) (Nat.le_of_ble_eq_true rfl) rfl (Nat.le_of_ble_eq_true rfl) (Nat.le_of_ble_eq_true rfl) (recv_ok rfl (by first | assumption | exact Nat.le_of_ble_eq_true rfl | omega)) rfl (m_signAt hT (by omega)) rfl ?_
    refine d_run 1 rfl ?_
    refine d_ic_lt k135_234 (fun h234 => ?_) (fun h234 => ?_)
    · have eR : scn t isDc (r + 1) e = e := by
        simp only [scn]
        rw [if_neg (fun e2 => (hb.mpr ⟨by omega, e2⟩).1 h234)]
      refine d_run 2 rfl ?_
      refine d_gI k135_301 (by first | assumption | exact Nat.le_of_ble_eq_true rfl | omega) ⟨rfl, rfl, Or.inl rfl⟩ ?_
      rw [h4]
      refine d_run 1 rfl ?_
      refine d_gI k135_305 (by first | assumption | exact Nat.le_of_ble_eq_true rfl | omega) ⟨rfl, rfl, Or.inl rfl⟩ ?_
      rw [h5]
      refine d_run 2 rfl ?_
      rw [show ibop 1 (nI e) (nI p) = nI (e - p) from pk_sub hpe]
      refine d_ic_le k135_310 (fun h310 => ?_) (fun h310 => ?_)
      · have hk := ge_nI (a := 4) (b := e - p) h310 rfl (by omega) (by omega)
        have eK : (if e - p ≤ 4 then 2 else 4) = 2 := if_pos hk
        refine d_run 1 rfl ?_
        refine d_pI k135_318 (by first | assumption | exact Nat.le_of_ble_eq_true rfl | omega) ⟨rfl, rfl⟩ ?_
        refine d_ret k135_321 ?_
        refine ⟨?_, ?_, ?_, ?_, hN.tr (MNx.u (by omega))⟩
        · rw [uF_r, pk_un (by decide)]; exact h5
        · rw [eR, uF_r, pk_un (by decide)]; exact h4
        · rw [eR]
          rw [uF_r, pk_un (by decide)]; exact hA
        · rw [eR, uF_r, pk_us, eK]
          rfl
      · have hk := lt_nI (a := 4) (b := e - p) h310 rfl (by omega) (by omega)
        have eK : (if e - p ≤ 4 then 2 else 4) = 4 := if_neg (by omega)
        refine d_run 2 rfl ?_
        refine d_pI k135_318 (by first | assumption | exact Nat.le_of_ble_eq_true rfl | omega) ⟨rfl, rfl⟩ ?_
        refine d_ret k135_321 ?_
        refine ⟨?_, ?_, ?_, ?_, hN.tr (MNx.u (by omega))⟩
        · rw [uF_r, pk_un (by decide)]; exact h5
        · rw [eR, uF_r, pk_un (by decide)]; exact h4
        · rw [eR]
          rw [uF_r, pk_un (by decide)]; exact hA
        · rw [eR, uF_r, pk_us, eK]
          rfl
    · refine d_run 2 rfl ?_
      refine d_gI k135_239 (by first | assumption | exact Nat.le_of_ble_eq_true rfl | omega) ⟨rfl, rfl, Or.inl rfl⟩ ?_
      rw [h4]
      refine d_callT 2 k135_242 (by omega) (Nat.le_of_ble_eq_true rfl) rfl (Nat.le_of_ble_eq_true rfl) (Nat.le_of_ble_eq_true rfl) (recv_ok rfl (by first | assumption | exact Nat.le_of_ble_eq_true rfl | omega)) rfl (m_signAt hT (by omega)) rfl ?_
      refine d_run 1 rfl ?_
      refine d_ic_gt k135_247 (fun h247 => ?_) (fun h247 => ?_)
      · have eR : scn t isDc (r + 1) e = e := by
          simp only [scn]
          rw [if_neg (fun e2 => (hb.mpr ⟨by omega, e2⟩).2 h247)]
        refine d_run 2 rfl ?_
        refine d_gI k135_301 (by first | assumption | exact Nat.le_of_ble_eq_true rfl | omega) ⟨rfl, rfl, Or.inl rfl⟩ ?_
        rw [h4]
        refine d_run 1 rfl ?_
        refine d_gI k135_305 (by first | assumption | exact Nat.le_of_ble_eq_true rfl | omega) ⟨rfl, rfl, Or.inl rfl⟩ ?_
        rw [h5]
        refine d_run 2 rfl ?_
        rw [show ibop 1 (nI e) (nI p) = nI (e - p) from pk_sub hpe]
        refine d_ic_le k135_310 (fun h310 => ?_) (fun h310 => ?_)
        · have hk := ge_nI (a := 4) (b := e - p) h310 rfl (by omega) (by omega)
          have eK : (if e - p ≤ 4 then 2 else 4) = 2 := if_pos hk
          refine d_run 1 rfl ?_
          refine d_pI k135_318 (by first | assumption | exact Nat.le_of_ble_eq_true rfl | omega) ⟨rfl, rfl⟩ ?_
          refine d_ret k135_321 ?_
          refine ⟨?_, ?_, ?_, ?_, hN.tr (MNx.u (by omega))⟩
          · rw [uF_r, pk_un (by decide)]; exact h5
          · rw [eR, uF_r, pk_un (by decide)]; exact h4
          · rw [eR]
            rw [uF_r, pk_un (by decide)]; exact hA
          · rw [eR, uF_r, pk_us, eK]
            rfl
        · have hk := lt_nI (a := 4) (b := e - p) h310 rfl (by omega) (by omega)
          have eK : (if e - p ≤ 4 then 2 else 4) = 4 := if_neg (by omega)
          refine d_run 2 rfl ?_
          refine d_pI k135_318 (by first | assumption | exact Nat.le_of_ble_eq_true rfl | omega) ⟨rfl, rfl⟩ ?_
          refine d_ret k135_321 ?_
          refine ⟨?_, ?_, ?_, ?_, hN.tr (MNx.u (by omega))⟩
          · rw [uF_r, pk_un (by decide)]; exact h5
          · rw [eR, uF_r, pk_un (by decide)]; exact h4
          · rw [eR]
            rw [uF_r, pk_un (by decide)]; exact hA
          · rw [eR, uF_r, pk_us, eK]
            rfl
      · have hL := (hb.mp ⟨h234, h247⟩).2
        have eR : scn t isDc (r + 1) e = scn t isDc r (e + 1) := by simp only [scn]; rw [if_pos hL]
        rw [eR]
        refine d_run 1 rfl ?_
        refine d_gI k135_251 (by first | assumption | exact Nat.le_of_ble_eq_true rfl | omega) ⟨rfl, rfl, Or.inl rfl⟩ ?_
        rw [h4]
        refine d_run 1 rfl ?_
        refine d_gI k135_255 (by first | assumption | exact Nat.le_of_ble_eq_true rfl | omega) ⟨rfl, rfl, Or.inl rfl⟩ ?_
        rw [h5]
        refine d_run 2 rfl ?_
        rw [show ibop 1 (nI e) (nI p) = nI (e - p) from pk_sub hpe]
        refine d_ic_ge k135_260 (fun h260 => ?_) (fun h260 => ?_)
        · have h8 := ge_nI (a := e - p) (b := 4) h260 rfl (by omega) (by omega)
          have eA : F 40 0 8 = nI (vlt t p (min (e + 1 - p) 4)) := by rw [show min (e + 1 - p) 4 = min (e - p) 4 by omega]; exact hA
          refine d_run 2 rfl ?_
          refine d_gI k135_288 (by first | assumption | exact Nat.le_of_ble_eq_true rfl | omega) ⟨rfl, rfl, Or.inl rfl⟩ ?_
          first | rw [uF_r, pk_un (by decide), h4] | rw [h4]
          refine d_run 2 rfl ?_
          rw [show ibop 0 (nI e) 1 = nI (e + 1) from nI_1 e]
          refine d_pI k135_293 (by first | assumption | exact Nat.le_of_ble_eq_true rfl | omega) ⟨rfl, rfl⟩ ?_
          refine d_run 1 rfl ?_
          first
          | exact ih (e + 1) _ _ (by omega) (by omega) ((hT.u (by decide)).u (by decide)) (by rw [uF_r, pk_un (by decide), uF_r, pk_un (by decide)]; exact h5) (by rw [uF_r, pk_us]) (by rw [uF_r, pk_un (by decide), uF_r, pk_us]) (hN.tr ((MNx.u (by omega)).tr (MNx.u (by omega))))
          | exact ih (e + 1) _ _ (by omega) (by omega) (hT.u (by decide)) (by rw [uF_r, pk_un (by decide)]; exact h5) (by rw [uF_r, pk_us]) (by rw [uF_r, pk_un (by decide)]; exact eA) (hN.tr (MNx.u (by omega)))
        · have h8 := lt_nI (a := e - p) (b := 4) h260 rfl (by omega) (by omega)
          refine d_run 2 rfl ?_
          refine d_gI k135_265 (by first | assumption | exact Nat.le_of_ble_eq_true rfl | omega) ⟨rfl, rfl, Or.inl rfl⟩ ?_
          rw [hA]
          refine d_run 4 rfl ?_
          refine d_gI k135_273 (by first | assumption | exact Nat.le_of_ble_eq_true rfl | omega) ⟨rfl, rfl, Or.inl rfl⟩ ?_
          rw [h4]
          refine d_callT 2 k135_276 (by omega) (Nat.le_of_ble_eq_true rfl) rfl (Nat.le_of_ble_eq_true rfl) (Nat.le_of_ble_eq_true rfl) (recv_ok rfl (by first | assumption | exact Nat.le_of_ble_eq_true rfl | omega)) rfl (m_signAt hT (by omega)) rfl ?_
          rw [if_pos (show e < t.1 by omega)]
          refine d_run 3 rfl ?_
          have hlc : 48 ≤ cAt t e ∧ cAt t e ≤ 57 := by simpa [isDc] using hL
          have eW : ibop 1 (ibop 0 (ibop 2 (nI (vlt t p (min (e - p) 4))) 10) (nI (cAt t e))) 48 = nI (vlt t p (min (e + 1 - p) 4)) := by
            rw [show min (e + 1 - p) 4 = (e - p) + 1 by omega, show min (e - p) 4 = e - p by omega, vlt_s, show p + (e - p) = e by omega]
            show nI _ * 10 + nI _ - 48 = _
            rw [show (10 : Int32) = nI 10 from rfl, show (48 : Int32) = nI 48 from rfl, pk_mul, nI_add, pk_sub (by omega)]
            congr 1
            omega
          rw [eW]
          refine d_pI k135_283 (by first | assumption | exact Nat.le_of_ble_eq_true rfl | omega) ⟨rfl, rfl⟩ ?_
          refine d_run 2 rfl ?_
          refine d_gI k135_288 (by first | assumption | exact Nat.le_of_ble_eq_true rfl | omega) ⟨rfl, rfl, Or.inl rfl⟩ ?_
          first | rw [uF_r, pk_un (by decide), h4] | rw [h4]
          refine d_run 2 rfl ?_
          rw [show ibop 0 (nI e) 1 = nI (e + 1) from nI_1 e]
          refine d_pI k135_293 (by first | assumption | exact Nat.le_of_ble_eq_true rfl | omega) ⟨rfl, rfl⟩ ?_
          refine d_run 1 rfl ?_
          first
          | exact ih (e + 1) _ _ (by omega) (by omega) ((hT.u (by decide)).u (by decide)) (by rw [uF_r, pk_un (by decide), uF_r, pk_un (by decide)]; exact h5) (by rw [uF_r, pk_us]) (by rw [uF_r, pk_un (by decide), uF_r, pk_us]) (hN.tr ((MNx.u (by omega)).tr (MNx.u (by omega))))
          | exact ih (e + 1) _ _ (by omega) (by omega) (hT.u (by decide)) (by rw [uF_r, pk_un (by decide)]; exact h5) (by rw [uF_r, pk_us]) (by rw [uF_r, pk_un (by decide)]; exact eA) (hN.tr (MNx.u (by omega)))
theorem l_mskip {F0 : FT} {G0 : GT} {QQ : FT → GT → Prop} : ∀ (r e : Nat) (F : FT), e + r = t.1 → MTr F t → F 40 0 4 = nI e → MNx F0 G0 F G → (∀ F2, MTr F2 t → F2 40 0 4 = nI (scn t isBc r e) → MNx F0 G0 F2 G → Td E d 135 52 [some (vr 40 0), none] [] x F2 G b none QQ) → Td E d 135 0 [some (vr 40 0), none] [] x F G b none QQ := by
  intro r
  induction r with
  | zero =>
    intro e F her hT h4 hN kk
    have hlen := hT.2.2.1
    refine d_run 1 rfl ?_
    refine d_gI k135_1 (by first | assumption | exact Nat.le_of_ble_eq_true rfl | omega) ⟨rfl, rfl, Or.inl rfl⟩ ?_
    rw [h4]
    refine d_run 1 rfl ?_
    refine d_gI k135_5 (by first | assumption | exact Nat.le_of_ble_eq_true rfl | omega) ⟨rfl, rfl, Or.inl rfl⟩ ?_
    rw [hT.1]
    refine d_ic_ge k135_8 (fun h8 => ?_) (fun h8 => ?_)
    · exact kk F hT h4 hN
    · exact absurd (lt_nI h8 rfl (by omega) (by omega)) (by omega)
  | succ r ih =>
    intro e F her hT h4 hN kk
    have hlen := hT.2.2.1
    refine d_run 1 rfl ?_
    refine d_gI k135_1 (by first | assumption | exact Nat.le_of_ble_eq_true rfl | omega) ⟨rfl, rfl, Or.inl rfl⟩ ?_
    rw [h4]
    refine d_run 1 rfl ?_
    refine d_gI k135_5 (by first | assumption | exact Nat.le_of_ble_eq_true rfl | omega) ⟨rfl, rfl, Or.inl rfl⟩ ?_
    rw [hT.1]
    refine d_ic_ge k135_8 (fun h8 => ?_) (fun h8 => ?_)
    · exact absurd (ge_nI h8 rfl (by omega) (by omega)) (by omega)
    · refine d_run 1 rfl ?_
      refine d_gR k135_12 (by first | assumption | exact Nat.le_of_ble_eq_true rfl | omega) ⟨rfl, rfl, rfl⟩ rfl ?_
      refine d_run 1 rfl ?_
      refine d_gI k135_16 (by first | assumption | exact Nat.le_of_ble_eq_true rfl | omega) ⟨rfl, rfl, Or.inl rfl⟩ ?_
      rw [h4]
      refine d_ia (N := 1000) (j := e) k135_19 (by decide) (by first | assumption | exact Nat.le_of_ble_eq_true rfl | omega) ⟨⟨rfl, rfl⟩, rfl, rfl⟩ (show e < 1000 by omega) rfl ?_
      rw [(show F 41 0 e = nI (cAt t e) from (hT.2.1 e (by omega)).trans (cAt_c hT.2.2 (by omega)).1)]
      have hcc := (cAt_c hT.2.2 (show e < t.1 by omega)).2
      refine d_run 1 rfl ?_
      refine d_ic_eq k135_22 (fun h22 => ?_) (fun h22 => ?_)
      · have eB : isBc (cAt t e) = true := by simp only [isBc]; rw [decide_eq_true (p := cAt t e = 32) (nI_inj (b := 32) h22 (by omega) (by omega)), Bool.or_true]
        refine d_run 2 rfl ?_
        refine d_gI k135_41 (by first | assumption | exact Nat.le_of_ble_eq_true rfl | omega) ⟨rfl, rfl, Or.inl rfl⟩ ?_
        rw [h4]
        refine d_run 2 rfl ?_
        rw [show ibop 0 (nI e) 1 = nI (e + 1) from nI_1 e]
        refine d_pI k135_46 (by first | assumption | exact Nat.le_of_ble_eq_true rfl | omega) ⟨rfl, rfl⟩ ?_
        refine d_run 1 rfl ?_
        have eR : scn t isBc (r + 1) e = scn t isBc r (e + 1) := by simp only [scn]; rw [if_pos eB]
        rw [eR] at kk
        exact ih (e + 1) _ (by omega) (hT.u (by decide)) (by rw [uF_r, pk_us]) (hN.tr (MNx.u (by omega))) kk
      · have e22 : ¬ cAt t e = 32 := fun e2 => h22 (by rw [e2]; rfl)
        refine d_run 1 rfl ?_
        refine d_gR k135_26 (by first | assumption | exact Nat.le_of_ble_eq_true rfl | omega) ⟨rfl, rfl, rfl⟩ rfl ?_
        refine d_run 1 rfl ?_
        refine d_gI k135_30 (by first | assumption | exact Nat.le_of_ble_eq_true rfl | omega) ⟨rfl, rfl, Or.inl rfl⟩ ?_
        rw [h4]
        refine d_ia (N := 1000) (j := e) k135_33 (by decide) (by first | assumption | exact Nat.le_of_ble_eq_true rfl | omega) ⟨⟨rfl, rfl⟩, rfl, rfl⟩ (show e < 1000 by omega) rfl ?_
        rw [(show F 41 0 e = nI (cAt t e) from (hT.2.1 e (by omega)).trans (cAt_c hT.2.2 (by omega)).1)]
        refine d_run 1 rfl ?_
        refine d_ic_ne k135_36 (fun h36 => ?_) (fun h36 => ?_)
        · have e36 : ¬ cAt t e = 10 := fun e2 => h36 (by rw [e2]; rfl)
          have eB : isBc (cAt t e) = false := by simp only [isBc]; rw [decide_eq_false e36, decide_eq_false e22]; rfl
          have eR : scn t isBc (r + 1) e = e := by simp only [scn]; rw [if_neg (by rw [eB]; decide)]
          rw [eR] at kk
          exact kk F hT h4 hN
        · have eB : isBc (cAt t e) = true := by simp only [isBc]; rw [decide_eq_true (p := cAt t e = 10) (nI_inj (b := 10) h36 (by omega) (by omega))]; rfl
          refine d_run 2 rfl ?_
          refine d_gI k135_41 (by first | assumption | exact Nat.le_of_ble_eq_true rfl | omega) ⟨rfl, rfl, Or.inl rfl⟩ ?_
          rw [h4]
          refine d_run 2 rfl ?_
          rw [show ibop 0 (nI e) 1 = nI (e + 1) from nI_1 e]
          refine d_pI k135_46 (by first | assumption | exact Nat.le_of_ble_eq_true rfl | omega) ⟨rfl, rfl⟩ ?_
          refine d_run 1 rfl ?_
          have eR : scn t isBc (r + 1) e = scn t isBc r (e + 1) := by simp only [scn]; rw [if_pos eB]
          rw [eR] at kk
          exact ih (e + 1) _ (by omega) (hT.u (by decide)) (by rw [uF_r, pk_us]) (hN.tr (MNx.u (by omega))) kk
theorem l_mnx {F0 : FT} {G0 : GT} (hd : 2 ≤ d) (hT : MTr F t) (hp : p ≤ t.1) (h4 : F 40 0 4 = nI p) (hN : MNx F0 G0 F G) : Td E d 135 52 [some (vr 40 0), none] [] x F G b none (fun F2 G2 => MRd F2 G2 t p ∧ MNx F0 G0 F2 G2) := by
  have hlen := hT.2.2.1
  have hw := hT.2.2
  have hTx : MTr (uF (uF F 40 0 5 (nI p)) 40 0 8 0) t := (hT.u (by decide)).u (by decide)
  have h4x : (uF (uF F 40 0 5 (nI p)) 40 0 8 0) 40 0 4 = nI p := by rw [uF_r, pk_un (by decide), uF_r, pk_un (by decide)]; exact h4
  have h5x : (uF (uF F 40 0 5 (nI p)) 40 0 8 0) 40 0 5 = nI p := by rw [uF_r, pk_un (by decide), uF_r, pk_us]
  have hNx : MNx F0 G0 (uF (uF F 40 0 5 (nI p)) 40 0 8 0) (uG G 40 0 7 0) := hN.tr ((MNx.u (by omega)).tr (MNx.g.tr (MNx.u (by omega))))
  have mk : ∀ {F2 : FT} {G2 : GT}, MNx F0 G0 F2 G2 → MNx (uF (uF F 40 0 5 (nI p)) 40 0 8 0) (uG G 40 0 7 0) F2 G2 → F2 40 0 4 = nI (tE t p) → F2 40 0 5 = nI p → F2 40 0 6 = nI (tK t p) → (tK t p = 1 → G2 40 0 7 = w27 (tW t p)) → (tK t p = 2 → F2 40 0 8 = nI (tV t p)) → MRd F2 G2 t p ∧ MNx F0 G0 F2 G2 := fun a1 a2 a3 a4 a5 a6 a7 => ⟨⟨(hTx.nx a2).1, a3, a4, a5, a6, a7, (hTx.nx a2).2.1, hp, hw⟩, a1⟩
  refine d_run 2 rfl ?_
  refine d_gI k135_54 (by first | assumption | exact Nat.le_of_ble_eq_true rfl | omega) ⟨rfl, rfl, Or.inl rfl⟩ ?_
  rw [h4]
  refine d_pI k135_57 (by first | assumption | exact Nat.le_of_ble_eq_true rfl | omega) ⟨rfl, rfl⟩ ?_
  refine d_run 2 rfl ?_
  refine d_pL k135_62 (by first | assumption | exact Nat.le_of_ble_eq_true rfl | omega) ⟨rfl, rfl⟩ ?_
  refine d_run 2 rfl ?_
  refine d_pI k135_67 (by first | assumption | exact Nat.le_of_ble_eq_true rfl | omega) ⟨rfl, rfl⟩ ?_
  refine d_run 1 rfl ?_
  refine d_gI k135_71 (by first | assumption | exact Nat.le_of_ble_eq_true rfl | omega) ⟨rfl, rfl, Or.inl rfl⟩ ?_
  rw [h4x]
  refine d_run 1 rfl ?_
  refine d_gI k135_75 (by first | assumption | exact Nat.le_of_ble_eq_true rfl | omega) ⟨rfl, rfl, Or.inl rfl⟩ ?_
  rw [hTx.1]
  refine d_ic_ne k135_78 (fun h78 => ?_) (fun h78 => ?_)
  · have h78b : p < t.1 := by
      apply Decidable.byContradiction
      intro e
      exact h78 (by rw [show p = t.1 by omega])
    have hcc := (cAt_c hw h78b).2
    refine d_run 1 rfl ?_
    refine d_gR k135_88 (by first | assumption | exact Nat.le_of_ble_eq_true rfl | omega) ⟨rfl, rfl, rfl⟩ rfl ?_
    refine d_run 1 rfl ?_
    refine d_gI k135_92 (by first | assumption | exact Nat.le_of_ble_eq_true rfl | omega) ⟨rfl, rfl, Or.inl rfl⟩ ?_
    rw [h4x]
    refine d_ia (N := 1000) (j := p) k135_95 (by decide) (by first | assumption | exact Nat.le_of_ble_eq_true rfl | omega) ⟨⟨rfl, rfl⟩, rfl, rfl⟩ (show p < 1000 by omega) rfl ?_
    rw [(show (uF (uF F 40 0 5 (nI p)) 40 0 8 0) 41 0 p = nI (cAt t p) from (hTx.2.1 p h78b).trans (cAt_c hw h78b).1)]
    refine d_run 3 rfl ?_
    refine d_ic_lt k135_100 (fun h100 => ?_) (fun h100 => ?_)
    · have e100 := gt_nI (a := 97) (b := cAt t p) h100 rfl (by omega) (by omega)
      refine d_run 2 rfl ?_
      refine d_ic_lt k135_215 (fun h215 => ?_) (fun h215 => ?_)
      · have e215 := gt_nI (a := 48) (b := cAt t p) h215 rfl (by omega) (by omega)
        refine d_run 2 rfl ?_
        refine d_gI k135_324 (by first | assumption | exact Nat.le_of_ble_eq_true rfl | omega) ⟨rfl, rfl, Or.inl rfl⟩ ?_
        rw [h4x]
        refine d_run 2 rfl ?_
        rw [show ibop 0 (nI p) 1 = nI (p + 1) from nI_1 p]
        refine d_pI k135_329 (by first | assumption | exact Nat.le_of_ble_eq_true rfl | omega) ⟨rfl, rfl⟩ ?_
        refine d_run 3 rfl ?_
        refine d_ic_lt k135_336 (fun h336 => ?_) (fun h336 => ?_)
        · have e336 := gt_nI (a := 40) (b := cAt t p) h336 rfl (by omega) (by omega)
          refine d_run 2 rfl ?_
          refine d_ic_eq k135_348 (fun h348 => ?_) (fun h348 => ?_)
          · have e348 := nI_inj (b := 45) h348 (by omega) (by omega)
            refine d_run 2 rfl ?_
            refine d_pI k135_368 (by first | assumption | exact Nat.le_of_ble_eq_true rfl | omega) ⟨rfl, rfl⟩ ?_
            refine d_ret k135_371 ?_
            have hL : ¬ isLc (cAt t p) = true := by
              simp only [isLc, Bool.and_eq_true, decide_eq_true_eq]
              omega
            have hD : ¬ isDc (cAt t p) = true := by
              simp only [isDc, Bool.and_eq_true, decide_eq_true_eq]
              omega
            have eE : tE t p = p + 1 := by unfold tE; rw [if_neg (by omega), if_neg hL, if_neg hD]
            have eK : tK t p = if isSc (cAt t p) = true then 3 else 4 := by unfold tK; rw [if_neg (by omega), if_neg hL, if_neg hD]
            have n12 : tK t p ≠ 1 ∧ tK t p ≠ 2 := by rw [eK]; split <;> decide
            refine mk (hNx.tr ((MNx.u (by omega)).tr (MNx.u (by omega)))) ((MNx.u (by omega)).tr (MNx.u (by omega))) ?_ ?_ ?_ (fun e => absurd e n12.1) (fun e => absurd e n12.2)
            · rw [uF_r, pk_un (by decide), uF_r, pk_us, eE]
            · rw [uF_r, pk_un (by decide), uF_r, pk_un (by decide)]; exact h5x
            · rw [uF_r, pk_us, eK]
              first
              | (rw [if_pos (by simp only [isSc, Bool.or_eq_true, Bool.and_eq_true, decide_eq_true_eq]; omega)]; rfl)
              | (rw [if_neg (by simp only [isSc, Bool.or_eq_true, Bool.and_eq_true, decide_eq_true_eq]; omega)]; rfl)
          · have e348 : ¬ cAt t p = 45 := fun e => h348 (by rw [e]; rfl)
            refine d_run 2 rfl ?_
            refine d_ic_lt k135_354 (fun h354 => ?_) (fun h354 => ?_)
            · have e354 := gt_nI (a := 59) (b := cAt t p) h354 rfl (by omega) (by omega)
              refine d_run 1 rfl ?_
              refine d_pI k135_368 (by first | assumption | exact Nat.le_of_ble_eq_true rfl | omega) ⟨rfl, rfl⟩ ?_
              refine d_ret k135_371 ?_
              have hL : ¬ isLc (cAt t p) = true := by
                simp only [isLc, Bool.and_eq_true, decide_eq_true_eq]
                omega
              have hD : ¬ isDc (cAt t p) = true := by
                simp only [isDc, Bool.and_eq_true, decide_eq_true_eq]
                omega
              have eE : tE t p = p + 1 := by unfold tE; rw [if_neg (by omega), if_neg hL, if_neg hD]
              have eK : tK t p = if isSc (cAt t p) = true then 3 else 4 := by unfold tK; rw [if_neg (by omega), if_neg hL, if_neg hD]
              have n12 : tK t p ≠ 1 ∧ tK t p ≠ 2 := by rw [eK]; split <;> decide
              refine mk (hNx.tr ((MNx.u (by omega)).tr (MNx.u (by omega)))) ((MNx.u (by omega)).tr (MNx.u (by omega))) ?_ ?_ ?_ (fun e => absurd e n12.1) (fun e => absurd e n12.2)
              · rw [uF_r, pk_un (by decide), uF_r, pk_us, eE]
              · rw [uF_r, pk_un (by decide), uF_r, pk_un (by decide)]; exact h5x
              · rw [uF_r, pk_us, eK]
                first
                | (rw [if_pos (by simp only [isSc, Bool.or_eq_true, Bool.and_eq_true, decide_eq_true_eq]; omega)]; rfl)
                | (rw [if_neg (by simp only [isSc, Bool.or_eq_true, Bool.and_eq_true, decide_eq_true_eq]; omega)]; rfl)
            · have e354 := le_nI (a := 59) (b := cAt t p) h354 rfl (by omega) (by omega)
              refine d_run 2 rfl ?_
              refine d_ic_gt k135_360 (fun h360 => ?_) (fun h360 => ?_)
              · have e360 := gt_nI (a := cAt t p) (b := 61) h360 rfl (by omega) (by omega)
                refine d_run 1 rfl ?_
                refine d_pI k135_368 (by first | assumption | exact Nat.le_of_ble_eq_true rfl | omega) ⟨rfl, rfl⟩ ?_
                refine d_ret k135_371 ?_
                have hL : ¬ isLc (cAt t p) = true := by
                  simp only [isLc, Bool.and_eq_true, decide_eq_true_eq]
                  omega
                have hD : ¬ isDc (cAt t p) = true := by
                  simp only [isDc, Bool.and_eq_true, decide_eq_true_eq]
                  omega
                have eE : tE t p = p + 1 := by unfold tE; rw [if_neg (by omega), if_neg hL, if_neg hD]
                have eK : tK t p = if isSc (cAt t p) = true then 3 else 4 := by unfold tK; rw [if_neg (by omega), if_neg hL, if_neg hD]
                have n12 : tK t p ≠ 1 ∧ tK t p ≠ 2 := by rw [eK]; split <;> decide
                refine mk (hNx.tr ((MNx.u (by omega)).tr (MNx.u (by omega)))) ((MNx.u (by omega)).tr (MNx.u (by omega))) ?_ ?_ ?_ (fun e => absurd e n12.1) (fun e => absurd e n12.2)
                · rw [uF_r, pk_un (by decide), uF_r, pk_us, eE]
                · rw [uF_r, pk_un (by decide), uF_r, pk_un (by decide)]; exact h5x
                · rw [uF_r, pk_us, eK]
                  first
                  | (rw [if_pos (by simp only [isSc, Bool.or_eq_true, Bool.and_eq_true, decide_eq_true_eq]; omega)]; rfl)
                  | (rw [if_neg (by simp only [isSc, Bool.or_eq_true, Bool.and_eq_true, decide_eq_true_eq]; omega)]; rfl)
              · have e360 := le_nI (a := cAt t p) (b := 61) h360 rfl (by omega) (by omega)
                refine d_run 2 rfl ?_
                refine d_pI k135_368 (by first | assumption | exact Nat.le_of_ble_eq_true rfl | omega) ⟨rfl, rfl⟩ ?_
                refine d_ret k135_371 ?_
                have hL : ¬ isLc (cAt t p) = true := by
                  simp only [isLc, Bool.and_eq_true, decide_eq_true_eq]
                  omega
                have hD : ¬ isDc (cAt t p) = true := by
                  simp only [isDc, Bool.and_eq_true, decide_eq_true_eq]
                  omega
                have eE : tE t p = p + 1 := by unfold tE; rw [if_neg (by omega), if_neg hL, if_neg hD]
                have eK : tK t p = if isSc (cAt t p) = true then 3 else 4 := by unfold tK; rw [if_neg (by omega), if_neg hL, if_neg hD]
                have n12 : tK t p ≠ 1 ∧ tK t p ≠ 2 := by rw [eK]; split <;> decide
                refine mk (hNx.tr ((MNx.u (by omega)).tr (MNx.u (by omega)))) ((MNx.u (by omega)).tr (MNx.u (by omega))) ?_ ?_ ?_ (fun e => absurd e n12.1) (fun e => absurd e n12.2)
                · rw [uF_r, pk_un (by decide), uF_r, pk_us, eE]
                · rw [uF_r, pk_un (by decide), uF_r, pk_un (by decide)]; exact h5x
                · rw [uF_r, pk_us, eK]
                  first
                  | (rw [if_pos (by simp only [isSc, Bool.or_eq_true, Bool.and_eq_true, decide_eq_true_eq]; omega)]; rfl)
                  | (rw [if_neg (by simp only [isSc, Bool.or_eq_true, Bool.and_eq_true, decide_eq_true_eq]; omega)]; rfl)
        · have e336 := le_nI (a := 40) (b := cAt t p) h336 rfl (by omega) (by omega)
          refine d_run 2 rfl ?_
          refine d_ic_le k135_342 (fun h342 => ?_) (fun h342 => ?_)
          · have e342 := ge_nI (a := 43) (b := cAt t p) h342 rfl (by omega) (by omega)
            refine d_run 2 rfl ?_
            refine d_pI k135_368 (by first | assumption | exact Nat.le_of_ble_eq_true rfl | omega) ⟨rfl, rfl⟩ ?_
            refine d_ret k135_371 ?_
            have hL : ¬ isLc (cAt t p) = true := by
              simp only [isLc, Bool.and_eq_true, decide_eq_true_eq]
              omega
            have hD : ¬ isDc (cAt t p) = true := by
              simp only [isDc, Bool.and_eq_true, decide_eq_true_eq]
              omega
            have eE : tE t p = p + 1 := by unfold tE; rw [if_neg (by omega), if_neg hL, if_neg hD]
            have eK : tK t p = if isSc (cAt t p) = true then 3 else 4 := by unfold tK; rw [if_neg (by omega), if_neg hL, if_neg hD]
            have n12 : tK t p ≠ 1 ∧ tK t p ≠ 2 := by rw [eK]; split <;> decide
            refine mk (hNx.tr ((MNx.u (by omega)).tr (MNx.u (by omega)))) ((MNx.u (by omega)).tr (MNx.u (by omega))) ?_ ?_ ?_ (fun e => absurd e n12.1) (fun e => absurd e n12.2)
            · rw [uF_r, pk_un (by decide), uF_r, pk_us, eE]
            · rw [uF_r, pk_un (by decide), uF_r, pk_un (by decide)]; exact h5x
            · rw [uF_r, pk_us, eK]
              first
              | (rw [if_pos (by simp only [isSc, Bool.or_eq_true, Bool.and_eq_true, decide_eq_true_eq]; omega)]; rfl)
              | (rw [if_neg (by simp only [isSc, Bool.or_eq_true, Bool.and_eq_true, decide_eq_true_eq]; omega)]; rfl)
          · have e342 := lt_nI (a := 43) (b := cAt t p) h342 rfl (by omega) (by omega)
            refine d_run 2 rfl ?_
            refine d_ic_eq k135_348 (fun h348 => ?_) (fun h348 => ?_)
            · have e348 := nI_inj (b := 45) h348 (by omega) (by omega)
              refine d_run 2 rfl ?_
              refine d_pI k135_368 (by first | assumption | exact Nat.le_of_ble_eq_true rfl | omega) ⟨rfl, rfl⟩ ?_
              refine d_ret k135_371 ?_
              have hL : ¬ isLc (cAt t p) = true := by
                simp only [isLc, Bool.and_eq_true, decide_eq_true_eq]
                omega
              have hD : ¬ isDc (cAt t p) = true := by
                simp only [isDc, Bool.and_eq_true, decide_eq_true_eq]
                omega
              have eE : tE t p = p + 1 := by unfold tE; rw [if_neg (by omega), if_neg hL, if_neg hD]
              have eK : tK t p = if isSc (cAt t p) = true then 3 else 4 := by unfold tK; rw [if_neg (by omega), if_neg hL, if_neg hD]
              have n12 : tK t p ≠ 1 ∧ tK t p ≠ 2 := by rw [eK]; split <;> decide
              refine mk (hNx.tr ((MNx.u (by omega)).tr (MNx.u (by omega)))) ((MNx.u (by omega)).tr (MNx.u (by omega))) ?_ ?_ ?_ (fun e => absurd e n12.1) (fun e => absurd e n12.2)
              · rw [uF_r, pk_un (by decide), uF_r, pk_us, eE]
              · rw [uF_r, pk_un (by decide), uF_r, pk_un (by decide)]; exact h5x
              · rw [uF_r, pk_us, eK]
                first
                | (rw [if_pos (by simp only [isSc, Bool.or_eq_true, Bool.and_eq_true, decide_eq_true_eq]; omega)]; rfl)
                | (rw [if_neg (by simp only [isSc, Bool.or_eq_true, Bool.and_eq_true, decide_eq_true_eq]; omega)]; rfl)
            · have e348 : ¬ cAt t p = 45 := fun e => h348 (by rw [e]; rfl)
              refine d_run 2 rfl ?_
              refine d_ic_lt k135_354 (fun h354 => ?_) (fun h354 => ?_)
              · have e354 := gt_nI (a := 59) (b := cAt t p) h354 rfl (by omega) (by omega)
                refine d_run 1 rfl ?_
                refine d_pI k135_368 (by first | assumption | exact Nat.le_of_ble_eq_true rfl | omega) ⟨rfl, rfl⟩ ?_
                refine d_ret k135_371 ?_
                have hL : ¬ isLc (cAt t p) = true := by
                  simp only [isLc, Bool.and_eq_true, decide_eq_true_eq]
                  omega
                have hD : ¬ isDc (cAt t p) = true := by
                  simp only [isDc, Bool.and_eq_true, decide_eq_true_eq]
                  omega
                have eE : tE t p = p + 1 := by unfold tE; rw [if_neg (by omega), if_neg hL, if_neg hD]
                have eK : tK t p = if isSc (cAt t p) = true then 3 else 4 := by unfold tK; rw [if_neg (by omega), if_neg hL, if_neg hD]
                have n12 : tK t p ≠ 1 ∧ tK t p ≠ 2 := by rw [eK]; split <;> decide
                refine mk (hNx.tr ((MNx.u (by omega)).tr (MNx.u (by omega)))) ((MNx.u (by omega)).tr (MNx.u (by omega))) ?_ ?_ ?_ (fun e => absurd e n12.1) (fun e => absurd e n12.2)
                · rw [uF_r, pk_un (by decide), uF_r, pk_us, eE]
                · rw [uF_r, pk_un (by decide), uF_r, pk_un (by decide)]; exact h5x
                · rw [uF_r, pk_us, eK]
                  first
                  | (rw [if_pos (by simp only [isSc, Bool.or_eq_true, Bool.and_eq_true, decide_eq_true_eq]; omega)]; rfl)
                  | (rw [if_neg (by simp only [isSc, Bool.or_eq_true, Bool.and_eq_true, decide_eq_true_eq]; omega)]; rfl)
              · have e354 := le_nI (a := 59) (b := cAt t p) h354 rfl (by omega) (by omega)
                refine d_run 2 rfl ?_
                refine d_ic_gt k135_360 (fun h360 => ?_) (fun h360 => ?_)
                · have e360 := gt_nI (a := cAt t p) (b := 61) h360 rfl (by omega) (by omega)
                  refine d_run 1 rfl ?_
                  refine d_pI k135_368 (by first | assumption | exact Nat.le_of_ble_eq_true rfl | omega) ⟨rfl, rfl⟩ ?_
                  refine d_ret k135_371 ?_
                  have hL : ¬ isLc (cAt t p) = true := by
                    simp only [isLc, Bool.and_eq_true, decide_eq_true_eq]
                    omega
                  have hD : ¬ isDc (cAt t p) = true := by
                    simp only [isDc, Bool.and_eq_true, decide_eq_true_eq]
                    omega
                  have eE : tE t p = p + 1 := by unfold tE; rw [if_neg (by omega), if_neg hL, if_neg hD]
                  have eK : tK t p = if isSc (cAt t p) = true then 3 else 4 := by unfold tK; rw [if_neg (by omega), if_neg hL, if_neg hD]
                  have n12 : tK t p ≠ 1 ∧ tK t p ≠ 2 := by rw [eK]; split <;> decide
                  refine mk (hNx.tr ((MNx.u (by omega)).tr (MNx.u (by omega)))) ((MNx.u (by omega)).tr (MNx.u (by omega))) ?_ ?_ ?_ (fun e => absurd e n12.1) (fun e => absurd e n12.2)
                  · rw [uF_r, pk_un (by decide), uF_r, pk_us, eE]
                  · rw [uF_r, pk_un (by decide), uF_r, pk_un (by decide)]; exact h5x
                  · rw [uF_r, pk_us, eK]
                    first
                    | (rw [if_pos (by simp only [isSc, Bool.or_eq_true, Bool.and_eq_true, decide_eq_true_eq]; omega)]; rfl)
                    | (rw [if_neg (by simp only [isSc, Bool.or_eq_true, Bool.and_eq_true, decide_eq_true_eq]; omega)]; rfl)
                · have e360 := le_nI (a := cAt t p) (b := 61) h360 rfl (by omega) (by omega)
                  refine d_run 2 rfl ?_
                  refine d_pI k135_368 (by first | assumption | exact Nat.le_of_ble_eq_true rfl | omega) ⟨rfl, rfl⟩ ?_
                  refine d_ret k135_371 ?_
                  have hL : ¬ isLc (cAt t p) = true := by
                    simp only [isLc, Bool.and_eq_true, decide_eq_true_eq]
                    omega
                  have hD : ¬ isDc (cAt t p) = true := by
                    simp only [isDc, Bool.and_eq_true, decide_eq_true_eq]
                    omega
                  have eE : tE t p = p + 1 := by unfold tE; rw [if_neg (by omega), if_neg hL, if_neg hD]
                  have eK : tK t p = if isSc (cAt t p) = true then 3 else 4 := by unfold tK; rw [if_neg (by omega), if_neg hL, if_neg hD]
                  have n12 : tK t p ≠ 1 ∧ tK t p ≠ 2 := by rw [eK]; split <;> decide
                  refine mk (hNx.tr ((MNx.u (by omega)).tr (MNx.u (by omega)))) ((MNx.u (by omega)).tr (MNx.u (by omega))) ?_ ?_ ?_ (fun e => absurd e n12.1) (fun e => absurd e n12.2)
                  · rw [uF_r, pk_un (by decide), uF_r, pk_us, eE]
                  · rw [uF_r, pk_un (by decide), uF_r, pk_un (by decide)]; exact h5x
                  · rw [uF_r, pk_us, eK]
                    first
                    | (rw [if_pos (by simp only [isSc, Bool.or_eq_true, Bool.and_eq_true, decide_eq_true_eq]; omega)]; rfl)
                    | (rw [if_neg (by simp only [isSc, Bool.or_eq_true, Bool.and_eq_true, decide_eq_true_eq]; omega)]; rfl)
      · have e215 := le_nI (a := 48) (b := cAt t p) h215 rfl (by omega) (by omega)
        refine d_run 2 rfl ?_
        refine d_ic_gt k135_221 (fun h221 => ?_) (fun h221 => ?_)
        · have e221 := gt_nI (a := cAt t p) (b := 57) h221 rfl (by omega) (by omega)
          refine d_run 2 rfl ?_
          refine d_gI k135_324 (by first | assumption | exact Nat.le_of_ble_eq_true rfl | omega) ⟨rfl, rfl, Or.inl rfl⟩ ?_
          rw [h4x]
          refine d_run 2 rfl ?_
          rw [show ibop 0 (nI p) 1 = nI (p + 1) from nI_1 p]
          refine d_pI k135_329 (by first | assumption | exact Nat.le_of_ble_eq_true rfl | omega) ⟨rfl, rfl⟩ ?_
          refine d_run 3 rfl ?_
          refine d_ic_lt k135_336 (fun h336 => ?_) (fun h336 => ?_)
          · have e336 := gt_nI (a := 40) (b := cAt t p) h336 rfl (by omega) (by omega)
            refine d_run 2 rfl ?_
            refine d_ic_eq k135_348 (fun h348 => ?_) (fun h348 => ?_)
            · have e348 := nI_inj (b := 45) h348 (by omega) (by omega)
              refine d_run 2 rfl ?_
              refine d_pI k135_368 (by first | assumption | exact Nat.le_of_ble_eq_true rfl | omega) ⟨rfl, rfl⟩ ?_
              refine d_ret k135_371 ?_
              have hL : ¬ isLc (cAt t p) = true := by
                simp only [isLc, Bool.and_eq_true, decide_eq_true_eq]
                omega
              have hD : ¬ isDc (cAt t p) = true := by
                simp only [isDc, Bool.and_eq_true, decide_eq_true_eq]
                omega
              have eE : tE t p = p + 1 := by unfold tE; rw [if_neg (by omega), if_neg hL, if_neg hD]
              have eK : tK t p = if isSc (cAt t p) = true then 3 else 4 := by unfold tK; rw [if_neg (by omega), if_neg hL, if_neg hD]
              have n12 : tK t p ≠ 1 ∧ tK t p ≠ 2 := by rw [eK]; split <;> decide
              refine mk (hNx.tr ((MNx.u (by omega)).tr (MNx.u (by omega)))) ((MNx.u (by omega)).tr (MNx.u (by omega))) ?_ ?_ ?_ (fun e => absurd e n12.1) (fun e => absurd e n12.2)
              · rw [uF_r, pk_un (by decide), uF_r, pk_us, eE]
              · rw [uF_r, pk_un (by decide), uF_r, pk_un (by decide)]; exact h5x
              · rw [uF_r, pk_us, eK]
                first
                | (rw [if_pos (by simp only [isSc, Bool.or_eq_true, Bool.and_eq_true, decide_eq_true_eq]; omega)]; rfl)
                | (rw [if_neg (by simp only [isSc, Bool.or_eq_true, Bool.and_eq_true, decide_eq_true_eq]; omega)]; rfl)
            · have e348 : ¬ cAt t p = 45 := fun e => h348 (by rw [e]; rfl)
              refine d_run 2 rfl ?_
              refine d_ic_lt k135_354 (fun h354 => ?_) (fun h354 => ?_)
              · have e354 := gt_nI (a := 59) (b := cAt t p) h354 rfl (by omega) (by omega)
                refine d_run 1 rfl ?_
                refine d_pI k135_368 (by first | assumption | exact Nat.le_of_ble_eq_true rfl | omega) ⟨rfl, rfl⟩ ?_
                refine d_ret k135_371 ?_
                have hL : ¬ isLc (cAt t p) = true := by
                  simp only [isLc, Bool.and_eq_true, decide_eq_true_eq]
                  omega
                have hD : ¬ isDc (cAt t p) = true := by
                  simp only [isDc, Bool.and_eq_true, decide_eq_true_eq]
                  omega
                have eE : tE t p = p + 1 := by unfold tE; rw [if_neg (by omega), if_neg hL, if_neg hD]
                have eK : tK t p = if isSc (cAt t p) = true then 3 else 4 := by unfold tK; rw [if_neg (by omega), if_neg hL, if_neg hD]
                have n12 : tK t p ≠ 1 ∧ tK t p ≠ 2 := by rw [eK]; split <;> decide
                refine mk (hNx.tr ((MNx.u (by omega)).tr (MNx.u (by omega)))) ((MNx.u (by omega)).tr (MNx.u (by omega))) ?_ ?_ ?_ (fun e => absurd e n12.1) (fun e => absurd e n12.2)
                · rw [uF_r, pk_un (by decide), uF_r, pk_us, eE]
                · rw [uF_r, pk_un (by decide), uF_r, pk_un (by decide)]; exact h5x
                · rw [uF_r, pk_us, eK]
                  first
                  | (rw [if_pos (by simp only [isSc, Bool.or_eq_true, Bool.and_eq_true, decide_eq_true_eq]; omega)]; rfl)
                  | (rw [if_neg (by simp only [isSc, Bool.or_eq_true, Bool.and_eq_true, decide_eq_true_eq]; omega)]; rfl)
              · have e354 := le_nI (a := 59) (b := cAt t p) h354 rfl (by omega) (by omega)
                refine d_run 2 rfl ?_
                refine d_ic_gt k135_360 (fun h360 => ?_) (fun h360 => ?_)
                · have e360 := gt_nI (a := cAt t p) (b := 61) h360 rfl (by omega) (by omega)
                  refine d_run 1 rfl ?_
                  refine d_pI k135_368 (by first | assumption | exact Nat.le_of_ble_eq_true rfl | omega) ⟨rfl, rfl⟩ ?_
                  refine d_ret k135_371 ?_
                  have hL : ¬ isLc (cAt t p) = true := by
                    simp only [isLc, Bool.and_eq_true, decide_eq_true_eq]
                    omega
                  have hD : ¬ isDc (cAt t p) = true := by
                    simp only [isDc, Bool.and_eq_true, decide_eq_true_eq]
                    omega
                  have eE : tE t p = p + 1 := by unfold tE; rw [if_neg (by omega), if_neg hL, if_neg hD]
                  have eK : tK t p = if isSc (cAt t p) = true then 3 else 4 := by unfold tK; rw [if_neg (by omega), if_neg hL, if_neg hD]
                  have n12 : tK t p ≠ 1 ∧ tK t p ≠ 2 := by rw [eK]; split <;> decide
                  refine mk (hNx.tr ((MNx.u (by omega)).tr (MNx.u (by omega)))) ((MNx.u (by omega)).tr (MNx.u (by omega))) ?_ ?_ ?_ (fun e => absurd e n12.1) (fun e => absurd e n12.2)
                  · rw [uF_r, pk_un (by decide), uF_r, pk_us, eE]
                  · rw [uF_r, pk_un (by decide), uF_r, pk_un (by decide)]; exact h5x
                  · rw [uF_r, pk_us, eK]
                    first
                    | (rw [if_pos (by simp only [isSc, Bool.or_eq_true, Bool.and_eq_true, decide_eq_true_eq]; omega)]; rfl)
                    | (rw [if_neg (by simp only [isSc, Bool.or_eq_true, Bool.and_eq_true, decide_eq_true_eq]; omega)]; rfl)
                · have e360 := le_nI (a := cAt t p) (b := 61) h360 rfl (by omega) (by omega)
                  refine d_run 2 rfl ?_
                  refine d_pI k135_368 (by first | assumption | exact Nat.le_of_ble_eq_true rfl | omega) ⟨rfl, rfl⟩ ?_
                  refine d_ret k135_371 ?_
                  have hL : ¬ isLc (cAt t p) = true := by
                    simp only [isLc, Bool.and_eq_true, decide_eq_true_eq]
                    omega
                  have hD : ¬ isDc (cAt t p) = true := by
                    simp only [isDc, Bool.and_eq_true, decide_eq_true_eq]
                    omega
                  have eE : tE t p = p + 1 := by unfold tE; rw [if_neg (by omega), if_neg hL, if_neg hD]
                  have eK : tK t p = if isSc (cAt t p) = true then 3 else 4 := by unfold tK; rw [if_neg (by omega), if_neg hL, if_neg hD]
                  have n12 : tK t p ≠ 1 ∧ tK t p ≠ 2 := by rw [eK]; split <;> decide
                  refine mk (hNx.tr ((MNx.u (by omega)).tr (MNx.u (by omega)))) ((MNx.u (by omega)).tr (MNx.u (by omega))) ?_ ?_ ?_ (fun e => absurd e n12.1) (fun e => absurd e n12.2)
                  · rw [uF_r, pk_un (by decide), uF_r, pk_us, eE]
                  · rw [uF_r, pk_un (by decide), uF_r, pk_un (by decide)]; exact h5x
                  · rw [uF_r, pk_us, eK]
                    first
                    | (rw [if_pos (by simp only [isSc, Bool.or_eq_true, Bool.and_eq_true, decide_eq_true_eq]; omega)]; rfl)
                    | (rw [if_neg (by simp only [isSc, Bool.or_eq_true, Bool.and_eq_true, decide_eq_true_eq]; omega)]; rfl)
          · have e336 := le_nI (a := 40) (b := cAt t p) h336 rfl (by omega) (by omega)
            refine d_run 2 rfl ?_
            refine d_ic_le k135_342 (fun h342 => ?_) (fun h342 => ?_)
            · have e342 := ge_nI (a := 43) (b := cAt t p) h342 rfl (by omega) (by omega)
              refine d_run 2 rfl ?_
              refine d_pI k135_368 (by first | assumption | exact Nat.le_of_ble_eq_true rfl | omega) ⟨rfl, rfl⟩ ?_
              refine d_ret k135_371 ?_
              have hL : ¬ isLc (cAt t p) = true := by
                simp only [isLc, Bool.and_eq_true, decide_eq_true_eq]
                omega
              have hD : ¬ isDc (cAt t p) = true := by
                simp only [isDc, Bool.and_eq_true, decide_eq_true_eq]
                omega
              have eE : tE t p = p + 1 := by unfold tE; rw [if_neg (by omega), if_neg hL, if_neg hD]
              have eK : tK t p = if isSc (cAt t p) = true then 3 else 4 := by unfold tK; rw [if_neg (by omega), if_neg hL, if_neg hD]
              have n12 : tK t p ≠ 1 ∧ tK t p ≠ 2 := by rw [eK]; split <;> decide
              refine mk (hNx.tr ((MNx.u (by omega)).tr (MNx.u (by omega)))) ((MNx.u (by omega)).tr (MNx.u (by omega))) ?_ ?_ ?_ (fun e => absurd e n12.1) (fun e => absurd e n12.2)
              · rw [uF_r, pk_un (by decide), uF_r, pk_us, eE]
              · rw [uF_r, pk_un (by decide), uF_r, pk_un (by decide)]; exact h5x
              · rw [uF_r, pk_us, eK]
                first
                | (rw [if_pos (by simp only [isSc, Bool.or_eq_true, Bool.and_eq_true, decide_eq_true_eq]; omega)]; rfl)
                | (rw [if_neg (by simp only [isSc, Bool.or_eq_true, Bool.and_eq_true, decide_eq_true_eq]; omega)]; rfl)
            · have e342 := lt_nI (a := 43) (b := cAt t p) h342 rfl (by omega) (by omega)
              refine d_run 2 rfl ?_
              refine d_ic_eq k135_348 (fun h348 => ?_) (fun h348 => ?_)
              · have e348 := nI_inj (b := 45) h348 (by omega) (by omega)
                refine d_run 2 rfl ?_
                refine d_pI k135_368 (by first | assumption | exact Nat.le_of_ble_eq_true rfl | omega) ⟨rfl, rfl⟩ ?_
                refine d_ret k135_371 ?_
                have hL : ¬ isLc (cAt t p) = true := by
                  simp only [isLc, Bool.and_eq_true, decide_eq_true_eq]
                  omega
                have hD : ¬ isDc (cAt t p) = true := by
                  simp only [isDc, Bool.and_eq_true, decide_eq_true_eq]
                  omega
                have eE : tE t p = p + 1 := by unfold tE; rw [if_neg (by omega), if_neg hL, if_neg hD]
                have eK : tK t p = if isSc (cAt t p) = true then 3 else 4 := by unfold tK; rw [if_neg (by omega), if_neg hL, if_neg hD]
                have n12 : tK t p ≠ 1 ∧ tK t p ≠ 2 := by rw [eK]; split <;> decide
                refine mk (hNx.tr ((MNx.u (by omega)).tr (MNx.u (by omega)))) ((MNx.u (by omega)).tr (MNx.u (by omega))) ?_ ?_ ?_ (fun e => absurd e n12.1) (fun e => absurd e n12.2)
                · rw [uF_r, pk_un (by decide), uF_r, pk_us, eE]
                · rw [uF_r, pk_un (by decide), uF_r, pk_un (by decide)]; exact h5x
                · rw [uF_r, pk_us, eK]
                  first
                  | (rw [if_pos (by simp only [isSc, Bool.or_eq_true, Bool.and_eq_true, decide_eq_true_eq]; omega)]; rfl)
                  | (rw [if_neg (by simp only [isSc, Bool.or_eq_true, Bool.and_eq_true, decide_eq_true_eq]; omega)]; rfl)
              · have e348 : ¬ cAt t p = 45 := fun e => h348 (by rw [e]; rfl)
                refine d_run 2 rfl ?_
                refine d_ic_lt k135_354 (fun h354 => ?_) (fun h354 => ?_)
                · have e354 := gt_nI (a := 59) (b := cAt t p) h354 rfl (by omega) (by omega)
                  refine d_run 1 rfl ?_
                  refine d_pI k135_368 (by first | assumption | exact Nat.le_of_ble_eq_true rfl | omega) ⟨rfl, rfl⟩ ?_
                  refine d_ret k135_371 ?_
                  have hL : ¬ isLc (cAt t p) = true := by
                    simp only [isLc, Bool.and_eq_true, decide_eq_true_eq]
                    omega
                  have hD : ¬ isDc (cAt t p) = true := by
                    simp only [isDc, Bool.and_eq_true, decide_eq_true_eq]
                    omega
                  have eE : tE t p = p + 1 := by unfold tE; rw [if_neg (by omega), if_neg hL, if_neg hD]
                  have eK : tK t p = if isSc (cAt t p) = true then 3 else 4 := by unfold tK; rw [if_neg (by omega), if_neg hL, if_neg hD]
                  have n12 : tK t p ≠ 1 ∧ tK t p ≠ 2 := by rw [eK]; split <;> decide
                  refine mk (hNx.tr ((MNx.u (by omega)).tr (MNx.u (by omega)))) ((MNx.u (by omega)).tr (MNx.u (by omega))) ?_ ?_ ?_ (fun e => absurd e n12.1) (fun e => absurd e n12.2)
                  · rw [uF_r, pk_un (by decide), uF_r, pk_us, eE]
                  · rw [uF_r, pk_un (by decide), uF_r, pk_un (by decide)]; exact h5x
                  · rw [uF_r, pk_us, eK]
                    first
                    | (rw [if_pos (by simp only [isSc, Bool.or_eq_true, Bool.and_eq_true, decide_eq_true_eq]; omega)]; rfl)
                    | (rw [if_neg (by simp only [isSc, Bool.or_eq_true, Bool.and_eq_true, decide_eq_true_eq]; omega)]; rfl)
                · have e354 := le_nI (a := 59) (b := cAt t p) h354 rfl (by omega) (by omega)
                  refine d_run 2 rfl ?_
                  refine d_ic_gt k135_360 (fun h360 => ?_) (fun h360 => ?_)
                  · have e360 := gt_nI (a := cAt t p) (b := 61) h360 rfl (by omega) (by omega)
                    refine d_run 1 rfl ?_
                    refine d_pI k135_368 (by first | assumption | exact Nat.le_of_ble_eq_true rfl | omega) ⟨rfl, rfl⟩ ?_
                    refine d_ret k135_371 ?_
                    have hL : ¬ isLc (cAt t p) = true := by
                      simp only [isLc, Bool.and_eq_true, decide_eq_true_eq]
                      omega
                    have hD : ¬ isDc (cAt t p) = true := by
                      simp only [isDc, Bool.and_eq_true, decide_eq_true_eq]
                      omega
                    have eE : tE t p = p + 1 := by unfold tE; rw [if_neg (by omega), if_neg hL, if_neg hD]
                    have eK : tK t p = if isSc (cAt t p) = true then 3 else 4 := by unfold tK; rw [if_neg (by omega), if_neg hL, if_neg hD]
                    have n12 : tK t p ≠ 1 ∧ tK t p ≠ 2 := by rw [eK]; split <;> decide
                    refine mk (hNx.tr ((MNx.u (by omega)).tr (MNx.u (by omega)))) ((MNx.u (by omega)).tr (MNx.u (by omega))) ?_ ?_ ?_ (fun e => absurd e n12.1) (fun e => absurd e n12.2)
                    · rw [uF_r, pk_un (by decide), uF_r, pk_us, eE]
                    · rw [uF_r, pk_un (by decide), uF_r, pk_un (by decide)]; exact h5x
                    · rw [uF_r, pk_us, eK]
                      first
                      | (rw [if_pos (by simp only [isSc, Bool.or_eq_true, Bool.and_eq_true, decide_eq_true_eq]; omega)]; rfl)
                      | (rw [if_neg (by simp only [isSc, Bool.or_eq_true, Bool.and_eq_true, decide_eq_true_eq]; omega)]; rfl)
                  · have e360 := le_nI (a := cAt t p) (b := 61) h360 rfl (by omega) (by omega)
                    refine d_run 2 rfl ?_
                    refine d_pI k135_368 (by first | assumption | exact Nat.le_of_ble_eq_true rfl | omega) ⟨rfl, rfl⟩ ?_
                    refine d_ret k135_371 ?_
                    have hL : ¬ isLc (cAt t p) = true := by
                      simp only [isLc, Bool.and_eq_true, decide_eq_true_eq]
                      omega
                    have hD : ¬ isDc (cAt t p) = true := by
                      simp only [isDc, Bool.and_eq_true, decide_eq_true_eq]
                      omega
                    have eE : tE t p = p + 1 := by unfold tE; rw [if_neg (by omega), if_neg hL, if_neg hD]
                    have eK : tK t p = if isSc (cAt t p) = true then 3 else 4 := by unfold tK; rw [if_neg (by omega), if_neg hL, if_neg hD]
                    have n12 : tK t p ≠ 1 ∧ tK t p ≠ 2 := by rw [eK]; split <;> decide
                    refine mk (hNx.tr ((MNx.u (by omega)).tr (MNx.u (by omega)))) ((MNx.u (by omega)).tr (MNx.u (by omega))) ?_ ?_ ?_ (fun e => absurd e n12.1) (fun e => absurd e n12.2)
                    · rw [uF_r, pk_un (by decide), uF_r, pk_us, eE]
                    · rw [uF_r, pk_un (by decide), uF_r, pk_un (by decide)]; exact h5x
                    · rw [uF_r, pk_us, eK]
                      first
                      | (rw [if_pos (by simp only [isSc, Bool.or_eq_true, Bool.and_eq_true, decide_eq_true_eq]; omega)]; rfl)
                      | (rw [if_neg (by simp only [isSc, Bool.or_eq_true, Bool.and_eq_true, decide_eq_true_eq]; omega)]; rfl)
        · have e221 := le_nI (a := cAt t p) (b := 57) h221 rfl (by omega) (by omega)
          have hD : isDc (cAt t p) = true := by simp only [isDc]; rw [decide_eq_true e215, decide_eq_true e221]; rfl
          have hL : ¬ isLc (cAt t p) = true := by
            simp only [isLc, Bool.and_eq_true, decide_eq_true_eq]
            omega
          refine td_mo (l_mscN (u := nI (cAt t p)) (F0 := (uF (uF F 40 0 5 (nI p)) 40 0 8 0)) (G0 := (uG G 40 0 7 0)) (by omega) (t.1 - p) p _ _ (by omega) (by omega) hTx h5x h4x (by rw [uF_r, pk_us, Nat.sub_self]; rfl) MNx.rf) ?_
          rintro F2 G2 ⟨a1, a2, a3, a4, a5⟩
          have eE : tE t p = scn t isDc (t.1 - p) p := by unfold tE; rw [if_neg (by omega), if_neg hL, if_pos hD]
          have eK : tK t p = if tE t p - p ≤ 4 then 2 else 4 := by unfold tK; rw [if_neg (by omega), if_neg hL, if_pos hD]
          refine mk (hNx.tr a5) a5 (by rw [eE]; exact a2) a1 (by rw [eK, eE]; exact a4) (fun e => ?_) (fun e => ?_)
          · rw [eK] at e
            split at e <;> cases e
          · rw [a3, tV, eE]
            have h8 : scn t isDc (t.1 - p) p - p ≤ 4 := by
              apply Decidable.byContradiction
              intro e9
              rw [eK, eE, if_neg e9] at e
              cases e
            rw [Nat.min_eq_left h8]
    · have e100 := le_nI (a := 97) (b := cAt t p) h100 rfl (by omega) (by omega)
      refine d_run 2 rfl ?_
      refine d_ic_gt k135_106 (fun h106 => ?_) (fun h106 => ?_)
      · have e106 := gt_nI (a := cAt t p) (b := 122) h106 rfl (by omega) (by omega)
        refine d_run 2 rfl ?_
        refine d_ic_lt k135_215 (fun h215 => ?_) (fun h215 => ?_)
        · have e215 := gt_nI (a := 48) (b := cAt t p) h215 rfl (by omega) (by omega)
          refine d_run 2 rfl ?_
          refine d_gI k135_324 (by first | assumption | exact Nat.le_of_ble_eq_true rfl | omega) ⟨rfl, rfl, Or.inl rfl⟩ ?_
          rw [h4x]
          refine d_run 2 rfl ?_
          rw [show ibop 0 (nI p) 1 = nI (p + 1) from nI_1 p]
          refine d_pI k135_329 (by first | assumption | exact Nat.le_of_ble_eq_true rfl | omega) ⟨rfl, rfl⟩ ?_
          refine d_run 3 rfl ?_
          refine d_ic_lt k135_336 (fun h336 => ?_) (fun h336 => ?_)
          · have e336 := gt_nI (a := 40) (b := cAt t p) h336 rfl (by omega) (by omega)
            refine d_run 2 rfl ?_
            refine d_ic_eq k135_348 (fun h348 => ?_) (fun h348 => ?_)
            · have e348 := nI_inj (b := 45) h348 (by omega) (by omega)
              refine d_run 2 rfl ?_
              refine d_pI k135_368 (by first | assumption | exact Nat.le_of_ble_eq_true rfl | omega) ⟨rfl, rfl⟩ ?_
              refine d_ret k135_371 ?_
              have hL : ¬ isLc (cAt t p) = true := by
                simp only [isLc, Bool.and_eq_true, decide_eq_true_eq]
                omega
              have hD : ¬ isDc (cAt t p) = true := by
                simp only [isDc, Bool.and_eq_true, decide_eq_true_eq]
                omega
              have eE : tE t p = p + 1 := by unfold tE; rw [if_neg (by omega), if_neg hL, if_neg hD]
              have eK : tK t p = if isSc (cAt t p) = true then 3 else 4 := by unfold tK; rw [if_neg (by omega), if_neg hL, if_neg hD]
              have n12 : tK t p ≠ 1 ∧ tK t p ≠ 2 := by rw [eK]; split <;> decide
              refine mk (hNx.tr ((MNx.u (by omega)).tr (MNx.u (by omega)))) ((MNx.u (by omega)).tr (MNx.u (by omega))) ?_ ?_ ?_ (fun e => absurd e n12.1) (fun e => absurd e n12.2)
              · rw [uF_r, pk_un (by decide), uF_r, pk_us, eE]
              · rw [uF_r, pk_un (by decide), uF_r, pk_un (by decide)]; exact h5x
              · rw [uF_r, pk_us, eK]
                first
                | (rw [if_pos (by simp only [isSc, Bool.or_eq_true, Bool.and_eq_true, decide_eq_true_eq]; omega)]; rfl)
                | (rw [if_neg (by simp only [isSc, Bool.or_eq_true, Bool.and_eq_true, decide_eq_true_eq]; omega)]; rfl)
            · have e348 : ¬ cAt t p = 45 := fun e => h348 (by rw [e]; rfl)
              refine d_run 2 rfl ?_
              refine d_ic_lt k135_354 (fun h354 => ?_) (fun h354 => ?_)
              · have e354 := gt_nI (a := 59) (b := cAt t p) h354 rfl (by omega) (by omega)
                refine d_run 1 rfl ?_
                refine d_pI k135_368 (by first | assumption | exact Nat.le_of_ble_eq_true rfl | omega) ⟨rfl, rfl⟩ ?_
                refine d_ret k135_371 ?_
                have hL : ¬ isLc (cAt t p) = true := by
                  simp only [isLc, Bool.and_eq_true, decide_eq_true_eq]
                  omega
                have hD : ¬ isDc (cAt t p) = true := by
                  simp only [isDc, Bool.and_eq_true, decide_eq_true_eq]
                  omega
                have eE : tE t p = p + 1 := by unfold tE; rw [if_neg (by omega), if_neg hL, if_neg hD]
                have eK : tK t p = if isSc (cAt t p) = true then 3 else 4 := by unfold tK; rw [if_neg (by omega), if_neg hL, if_neg hD]
                have n12 : tK t p ≠ 1 ∧ tK t p ≠ 2 := by rw [eK]; split <;> decide
                refine mk (hNx.tr ((MNx.u (by omega)).tr (MNx.u (by omega)))) ((MNx.u (by omega)).tr (MNx.u (by omega))) ?_ ?_ ?_ (fun e => absurd e n12.1) (fun e => absurd e n12.2)
                · rw [uF_r, pk_un (by decide), uF_r, pk_us, eE]
                · rw [uF_r, pk_un (by decide), uF_r, pk_un (by decide)]; exact h5x
                · rw [uF_r, pk_us, eK]
                  first
                  | (rw [if_pos (by simp only [isSc, Bool.or_eq_true, Bool.and_eq_true, decide_eq_true_eq]; omega)]; rfl)
                  | (rw [if_neg (by simp only [isSc, Bool.or_eq_true, Bool.and_eq_true, decide_eq_true_eq]; omega)]; rfl)
              · have e354 := le_nI (a := 59) (b := cAt t p) h354 rfl (by omega) (by omega)
                refine d_run 2 rfl ?_
                refine d_ic_gt k135_360 (fun h360 => ?_) (fun h360 => ?_)
                · have e360 := gt_nI (a := cAt t p) (b := 61) h360 rfl (by omega) (by omega)
                  refine d_run 1 rfl ?_
                  refine d_pI k135_368 (by first | assumption | exact Nat.le_of_ble_eq_true rfl | omega) ⟨rfl, rfl⟩ ?_
                  refine d_ret k135_371 ?_
                  have hL : ¬ isLc (cAt t p) = true := by
                    simp only [isLc, Bool.and_eq_true, decide_eq_true_eq]
                    omega
                  have hD : ¬ isDc (cAt t p) = true := by
                    simp only [isDc, Bool.and_eq_true, decide_eq_true_eq]
                    omega
                  have eE : tE t p = p + 1 := by unfold tE; rw [if_neg (by omega), if_neg hL, if_neg hD]
                  have eK : tK t p = if isSc (cAt t p) = true then 3 else 4 := by unfold tK; rw [if_neg (by omega), if_neg hL, if_neg hD]
                  have n12 : tK t p ≠ 1 ∧ tK t p ≠ 2 := by rw [eK]; split <;> decide
                  refine mk (hNx.tr ((MNx.u (by omega)).tr (MNx.u (by omega)))) ((MNx.u (by omega)).tr (MNx.u (by omega))) ?_ ?_ ?_ (fun e => absurd e n12.1) (fun e => absurd e n12.2)
                  · rw [uF_r, pk_un (by decide), uF_r, pk_us, eE]
                  · rw [uF_r, pk_un (by decide), uF_r, pk_un (by decide)]; exact h5x
                  · rw [uF_r, pk_us, eK]
                    first
                    | (rw [if_pos (by simp only [isSc, Bool.or_eq_true, Bool.and_eq_true, decide_eq_true_eq]; omega)]; rfl)
                    | (rw [if_neg (by simp only [isSc, Bool.or_eq_true, Bool.and_eq_true, decide_eq_true_eq]; omega)]; rfl)
                · have e360 := le_nI (a := cAt t p) (b := 61) h360 rfl (by omega) (by omega)
                  refine d_run 2 rfl ?_
                  refine d_pI k135_368 (by first | assumption | exact Nat.le_of_ble_eq_true rfl | omega) ⟨rfl, rfl⟩ ?_
                  refine d_ret k135_371 ?_
                  have hL : ¬ isLc (cAt t p) = true := by
                    simp only [isLc, Bool.and_eq_true, decide_eq_true_eq]
                    omega
                  have hD : ¬ isDc (cAt t p) = true := by
                    simp only [isDc, Bool.and_eq_true, decide_eq_true_eq]
                    omega
                  have eE : tE t p = p + 1 := by unfold tE; rw [if_neg (by omega), if_neg hL, if_neg hD]
                  have eK : tK t p = if isSc (cAt t p) = true then 3 else 4 := by unfold tK; rw [if_neg (by omega), if_neg hL, if_neg hD]
                  have n12 : tK t p ≠ 1 ∧ tK t p ≠ 2 := by rw [eK]; split <;> decide
                  refine mk (hNx.tr ((MNx.u (by omega)).tr (MNx.u (by omega)))) ((MNx.u (by omega)).tr (MNx.u (by omega))) ?_ ?_ ?_ (fun e => absurd e n12.1) (fun e => absurd e n12.2)
                  · rw [uF_r, pk_un (by decide), uF_r, pk_us, eE]
                  · rw [uF_r, pk_un (by decide), uF_r, pk_un (by decide)]; exact h5x
                  · rw [uF_r, pk_us, eK]
                    first
                    | (rw [if_pos (by simp only [isSc, Bool.or_eq_true, Bool.and_eq_true, decide_eq_true_eq]; omega)]; rfl)
                    | (rw [if_neg (by simp only [isSc, Bool.or_eq_true, Bool.and_eq_true, decide_eq_true_eq]; omega)]; rfl)
          · have e336 := le_nI (a := 40) (b := cAt t p) h336 rfl (by omega) (by omega)
            refine d_run 2 rfl ?_
            refine d_ic_le k135_342 (fun h342 => ?_) (fun h342 => ?_)
            · have e342 := ge_nI (a := 43) (b := cAt t p) h342 rfl (by omega) (by omega)
              refine d_run 2 rfl ?_
              refine d_pI k135_368 (by first | assumption | exact Nat.le_of_ble_eq_true rfl | omega) ⟨rfl, rfl⟩ ?_
              refine d_ret k135_371 ?_
              have hL : ¬ isLc (cAt t p) = true := by
                simp only [isLc, Bool.and_eq_true, decide_eq_true_eq]
                omega
              have hD : ¬ isDc (cAt t p) = true := by
                simp only [isDc, Bool.and_eq_true, decide_eq_true_eq]
                omega
              have eE : tE t p = p + 1 := by unfold tE; rw [if_neg (by omega), if_neg hL, if_neg hD]
              have eK : tK t p = if isSc (cAt t p) = true then 3 else 4 := by unfold tK; rw [if_neg (by omega), if_neg hL, if_neg hD]
              have n12 : tK t p ≠ 1 ∧ tK t p ≠ 2 := by rw [eK]; split <;> decide
              refine mk (hNx.tr ((MNx.u (by omega)).tr (MNx.u (by omega)))) ((MNx.u (by omega)).tr (MNx.u (by omega))) ?_ ?_ ?_ (fun e => absurd e n12.1) (fun e => absurd e n12.2)
              · rw [uF_r, pk_un (by decide), uF_r, pk_us, eE]
              · rw [uF_r, pk_un (by decide), uF_r, pk_un (by decide)]; exact h5x
              · rw [uF_r, pk_us, eK]
                first
                | (rw [if_pos (by simp only [isSc, Bool.or_eq_true, Bool.and_eq_true, decide_eq_true_eq]; omega)]; rfl)
                | (rw [if_neg (by simp only [isSc, Bool.or_eq_true, Bool.and_eq_true, decide_eq_true_eq]; omega)]; rfl)
            · have e342 := lt_nI (a := 43) (b := cAt t p) h342 rfl (by omega) (by omega)
              refine d_run 2 rfl ?_
              refine d_ic_eq k135_348 (fun h348 => ?_) (fun h348 => ?_)
              · have e348 := nI_inj (b := 45) h348 (by omega) (by omega)
                refine d_run 2 rfl ?_
                refine d_pI k135_368 (by first | assumption | exact Nat.le_of_ble_eq_true rfl | omega) ⟨rfl, rfl⟩ ?_
                refine d_ret k135_371 ?_
                have hL : ¬ isLc (cAt t p) = true := by
                  simp only [isLc, Bool.and_eq_true, decide_eq_true_eq]
                  omega
                have hD : ¬ isDc (cAt t p) = true := by
                  simp only [isDc, Bool.and_eq_true, decide_eq_true_eq]
                  omega
                have eE : tE t p = p + 1 := by unfold tE; rw [if_neg (by omega), if_neg hL, if_neg hD]
                have eK : tK t p = if isSc (cAt t p) = true then 3 else 4 := by unfold tK; rw [if_neg (by omega), if_neg hL, if_neg hD]
                have n12 : tK t p ≠ 1 ∧ tK t p ≠ 2 := by rw [eK]; split <;> decide
                refine mk (hNx.tr ((MNx.u (by omega)).tr (MNx.u (by omega)))) ((MNx.u (by omega)).tr (MNx.u (by omega))) ?_ ?_ ?_ (fun e => absurd e n12.1) (fun e => absurd e n12.2)
                · rw [uF_r, pk_un (by decide), uF_r, pk_us, eE]
                · rw [uF_r, pk_un (by decide), uF_r, pk_un (by decide)]; exact h5x
                · rw [uF_r, pk_us, eK]
                  first
                  | (rw [if_pos (by simp only [isSc, Bool.or_eq_true, Bool.and_eq_true, decide_eq_true_eq]; omega)]; rfl)
                  | (rw [if_neg (by simp only [isSc, Bool.or_eq_true, Bool.and_eq_true, decide_eq_true_eq]; omega)]; rfl)
              · have e348 : ¬ cAt t p = 45 := fun e => h348 (by rw [e]; rfl)
                refine d_run 2 rfl ?_
                refine d_ic_lt k135_354 (fun h354 => ?_) (fun h354 => ?_)
                · have e354 := gt_nI (a := 59) (b := cAt t p) h354 rfl (by omega) (by omega)
                  refine d_run 1 rfl ?_
                  refine d_pI k135_368 (by first | assumption | exact Nat.le_of_ble_eq_true rfl | omega) ⟨rfl, rfl⟩ ?_
                  refine d_ret k135_371 ?_
                  have hL : ¬ isLc (cAt t p) = true := by
                    simp only [isLc, Bool.and_eq_true, decide_eq_true_eq]
                    omega
                  have hD : ¬ isDc (cAt t p) = true := by
                    simp only [isDc, Bool.and_eq_true, decide_eq_true_eq]
                    omega
                  have eE : tE t p = p + 1 := by unfold tE; rw [if_neg (by omega), if_neg hL, if_neg hD]
                  have eK : tK t p = if isSc (cAt t p) = true then 3 else 4 := by unfold tK; rw [if_neg (by omega), if_neg hL, if_neg hD]
                  have n12 : tK t p ≠ 1 ∧ tK t p ≠ 2 := by rw [eK]; split <;> decide
                  refine mk (hNx.tr ((MNx.u (by omega)).tr (MNx.u (by omega)))) ((MNx.u (by omega)).tr (MNx.u (by omega))) ?_ ?_ ?_ (fun e => absurd e n12.1) (fun e => absurd e n12.2)
                  · rw [uF_r, pk_un (by decide), uF_r, pk_us, eE]
                  · rw [uF_r, pk_un (by decide), uF_r, pk_un (by decide)]; exact h5x
                  · rw [uF_r, pk_us, eK]
                    first
                    | (rw [if_pos (by simp only [isSc, Bool.or_eq_true, Bool.and_eq_true, decide_eq_true_eq]; omega)]; rfl)
                    | (rw [if_neg (by simp only [isSc, Bool.or_eq_true, Bool.and_eq_true, decide_eq_true_eq]; omega)]; rfl)
                · have e354 := le_nI (a := 59) (b := cAt t p) h354 rfl (by omega) (by omega)
                  refine d_run 2 rfl ?_
                  refine d_ic_gt k135_360 (fun h360 => ?_) (fun h360 => ?_)
                  · have e360 := gt_nI (a := cAt t p) (b := 61) h360 rfl (by omega) (by omega)
                    refine d_run 1 rfl ?_
                    refine d_pI k135_368 (by first | assumption | exact Nat.le_of_ble_eq_true rfl | omega) ⟨rfl, rfl⟩ ?_
                    refine d_ret k135_371 ?_
                    have hL : ¬ isLc (cAt t p) = true := by
                      simp only [isLc, Bool.and_eq_true, decide_eq_true_eq]
                      omega
                    have hD : ¬ isDc (cAt t p) = true := by
                      simp only [isDc, Bool.and_eq_true, decide_eq_true_eq]
                      omega
                    have eE : tE t p = p + 1 := by unfold tE; rw [if_neg (by omega), if_neg hL, if_neg hD]
                    have eK : tK t p = if isSc (cAt t p) = true then 3 else 4 := by unfold tK; rw [if_neg (by omega), if_neg hL, if_neg hD]
                    have n12 : tK t p ≠ 1 ∧ tK t p ≠ 2 := by rw [eK]; split <;> decide
                    refine mk (hNx.tr ((MNx.u (by omega)).tr (MNx.u (by omega)))) ((MNx.u (by omega)).tr (MNx.u (by omega))) ?_ ?_ ?_ (fun e => absurd e n12.1) (fun e => absurd e n12.2)
                    · rw [uF_r, pk_un (by decide), uF_r, pk_us, eE]
                    · rw [uF_r, pk_un (by decide), uF_r, pk_un (by decide)]; exact h5x
                    · rw [uF_r, pk_us, eK]
                      first
                      | (rw [if_pos (by simp only [isSc, Bool.or_eq_true, Bool.and_eq_true, decide_eq_true_eq]; omega)]; rfl)
                      | (rw [if_neg (by simp only [isSc, Bool.or_eq_true, Bool.and_eq_true, decide_eq_true_eq]; omega)]; rfl)
                  · have e360 := le_nI (a := cAt t p) (b := 61) h360 rfl (by omega) (by omega)
                    refine d_run 2 rfl ?_
                    refine d_pI k135_368 (by first | assumption | exact Nat.le_of_ble_eq_true rfl | omega) ⟨rfl, rfl⟩ ?_
                    refine d_ret k135_371 ?_
                    have hL : ¬ isLc (cAt t p) = true := by
                      simp only [isLc, Bool.and_eq_true, decide_eq_true_eq]
                      omega
                    have hD : ¬ isDc (cAt t p) = true := by
                      simp only [isDc, Bool.and_eq_true, decide_eq_true_eq]
                      omega
                    have eE : tE t p = p + 1 := by unfold tE; rw [if_neg (by omega), if_neg hL, if_neg hD]
                    have eK : tK t p = if isSc (cAt t p) = true then 3 else 4 := by unfold tK; rw [if_neg (by omega), if_neg hL, if_neg hD]
                    have n12 : tK t p ≠ 1 ∧ tK t p ≠ 2 := by rw [eK]; split <;> decide
                    refine mk (hNx.tr ((MNx.u (by omega)).tr (MNx.u (by omega)))) ((MNx.u (by omega)).tr (MNx.u (by omega))) ?_ ?_ ?_ (fun e => absurd e n12.1) (fun e => absurd e n12.2)
                    · rw [uF_r, pk_un (by decide), uF_r, pk_us, eE]
                    · rw [uF_r, pk_un (by decide), uF_r, pk_un (by decide)]; exact h5x
                    · rw [uF_r, pk_us, eK]
                      first
                      | (rw [if_pos (by simp only [isSc, Bool.or_eq_true, Bool.and_eq_true, decide_eq_true_eq]; omega)]; rfl)
                      | (rw [if_neg (by simp only [isSc, Bool.or_eq_true, Bool.and_eq_true, decide_eq_true_eq]; omega)]; rfl)
        · have e215 := le_nI (a := 48) (b := cAt t p) h215 rfl (by omega) (by omega)
          refine d_run 2 rfl ?_
          refine d_ic_gt k135_221 (fun h221 => ?_) (fun h221 => ?_)
          · have e221 := gt_nI (a := cAt t p) (b := 57) h221 rfl (by omega) (by omega)
            refine d_run 2 rfl ?_
            refine d_gI k135_324 (by first | assumption | exact Nat.le_of_ble_eq_true rfl | omega) ⟨rfl, rfl, Or.inl rfl⟩ ?_
            rw [h4x]
            refine d_run 2 rfl ?_
            rw [show ibop 0 (nI p) 1 = nI (p + 1) from nI_1 p]
            refine d_pI k135_329 (by first | assumption | exact Nat.le_of_ble_eq_true rfl | omega) ⟨rfl, rfl⟩ ?_
            refine d_run 3 rfl ?_
            refine d_ic_lt k135_336 (fun h336 => ?_) (fun h336 => ?_)
            · have e336 := gt_nI (a := 40) (b := cAt t p) h336 rfl (by omega) (by omega)
              refine d_run 2 rfl ?_
              refine d_ic_eq k135_348 (fun h348 => ?_) (fun h348 => ?_)
              · have e348 := nI_inj (b := 45) h348 (by omega) (by omega)
                refine d_run 2 rfl ?_
                refine d_pI k135_368 (by first | assumption | exact Nat.le_of_ble_eq_true rfl | omega) ⟨rfl, rfl⟩ ?_
                refine d_ret k135_371 ?_
                have hL : ¬ isLc (cAt t p) = true := by
                  simp only [isLc, Bool.and_eq_true, decide_eq_true_eq]
                  omega
                have hD : ¬ isDc (cAt t p) = true := by
                  simp only [isDc, Bool.and_eq_true, decide_eq_true_eq]
                  omega
                have eE : tE t p = p + 1 := by unfold tE; rw [if_neg (by omega), if_neg hL, if_neg hD]
                have eK : tK t p = if isSc (cAt t p) = true then 3 else 4 := by unfold tK; rw [if_neg (by omega), if_neg hL, if_neg hD]
                have n12 : tK t p ≠ 1 ∧ tK t p ≠ 2 := by rw [eK]; split <;> decide
                refine mk (hNx.tr ((MNx.u (by omega)).tr (MNx.u (by omega)))) ((MNx.u (by omega)).tr (MNx.u (by omega))) ?_ ?_ ?_ (fun e => absurd e n12.1) (fun e => absurd e n12.2)
                · rw [uF_r, pk_un (by decide), uF_r, pk_us, eE]
                · rw [uF_r, pk_un (by decide), uF_r, pk_un (by decide)]; exact h5x
                · rw [uF_r, pk_us, eK]
                  first
                  | (rw [if_pos (by simp only [isSc, Bool.or_eq_true, Bool.and_eq_true, decide_eq_true_eq]; omega)]; rfl)
                  | (rw [if_neg (by simp only [isSc, Bool.or_eq_true, Bool.and_eq_true, decide_eq_true_eq]; omega)]; rfl)
              · have e348 : ¬ cAt t p = 45 := fun e => h348 (by rw [e]; rfl)
                refine d_run 2 rfl ?_
                refine d_ic_lt k135_354 (fun h354 => ?_) (fun h354 => ?_)
                · have e354 := gt_nI (a := 59) (b := cAt t p) h354 rfl (by omega) (by omega)
                  refine d_run 1 rfl ?_
                  refine d_pI k135_368 (by first | assumption | exact Nat.le_of_ble_eq_true rfl | omega) ⟨rfl, rfl⟩ ?_
                  refine d_ret k135_371 ?_
                  have hL : ¬ isLc (cAt t p) = true := by
                    simp only [isLc, Bool.and_eq_true, decide_eq_true_eq]
                    omega
                  have hD : ¬ isDc (cAt t p) = true := by
                    simp only [isDc, Bool.and_eq_true, decide_eq_true_eq]
                    omega
                  have eE : tE t p = p + 1 := by unfold tE; rw [if_neg (by omega), if_neg hL, if_neg hD]
                  have eK : tK t p = if isSc (cAt t p) = true then 3 else 4 := by unfold tK; rw [if_neg (by omega), if_neg hL, if_neg hD]
                  have n12 : tK t p ≠ 1 ∧ tK t p ≠ 2 := by rw [eK]; split <;> decide
                  refine mk (hNx.tr ((MNx.u (by omega)).tr (MNx.u (by omega)))) ((MNx.u (by omega)).tr (MNx.u (by omega))) ?_ ?_ ?_ (fun e => absurd e n12.1) (fun e => absurd e n12.2)
                  · rw [uF_r, pk_un (by decide), uF_r, pk_us, eE]
                  · rw [uF_r, pk_un (by decide), uF_r, pk_un (by decide)]; exact h5x
                  · rw [uF_r, pk_us, eK]
                    first
                    | (rw [if_pos (by simp only [isSc, Bool.or_eq_true, Bool.and_eq_true, decide_eq_true_eq]; omega)]; rfl)
                    | (rw [if_neg (by simp only [isSc, Bool.or_eq_true, Bool.and_eq_true, decide_eq_true_eq]; omega)]; rfl)
                · have e354 := le_nI (a := 59) (b := cAt t p) h354 rfl (by omega) (by omega)
                  refine d_run 2 rfl ?_
                  refine d_ic_gt k135_360 (fun h360 => ?_) (fun h360 => ?_)
                  · have e360 := gt_nI (a := cAt t p) (b := 61) h360 rfl (by omega) (by omega)
                    refine d_run 1 rfl ?_
                    refine d_pI k135_368 (by first | assumption | exact Nat.le_of_ble_eq_true rfl | omega) ⟨rfl, rfl⟩ ?_
                    refine d_ret k135_371 ?_
                    have hL : ¬ isLc (cAt t p) = true := by
                      simp only [isLc, Bool.and_eq_true, decide_eq_true_eq]
                      omega
                    have hD : ¬ isDc (cAt t p) = true := by
                      simp only [isDc, Bool.and_eq_true, decide_eq_true_eq]
                      omega
                    have eE : tE t p = p + 1 := by unfold tE; rw [if_neg (by omega), if_neg hL, if_neg hD]
                    have eK : tK t p = if isSc (cAt t p) = true then 3 else 4 := by unfold tK; rw [if_neg (by omega), if_neg hL, if_neg hD]
                    have n12 : tK t p ≠ 1 ∧ tK t p ≠ 2 := by rw [eK]; split <;> decide
                    refine mk (hNx.tr ((MNx.u (by omega)).tr (MNx.u (by omega)))) ((MNx.u (by omega)).tr (MNx.u (by omega))) ?_ ?_ ?_ (fun e => absurd e n12.1) (fun e => absurd e n12.2)
                    · rw [uF_r, pk_un (by decide), uF_r, pk_us, eE]
                    · rw [uF_r, pk_un (by decide), uF_r, pk_un (by decide)]; exact h5x
                    · rw [uF_r, pk_us, eK]
                      first
                      | (rw [if_pos (by simp only [isSc, Bool.or_eq_true, Bool.and_eq_true, decide_eq_true_eq]; omega)]; rfl)
                      | (rw [if_neg (by simp only [isSc, Bool.or_eq_true, Bool.and_eq_true, decide_eq_true_eq]; omega)]; rfl)
                  · have e360 := le_nI (a := cAt t p) (b := 61) h360 rfl (by omega) (by omega)
                    refine d_run 2 rfl ?_
                    refine d_pI k135_368 (by first | assumption | exact Nat.le_of_ble_eq_true rfl | omega) ⟨rfl, rfl⟩ ?_
                    refine d_ret k135_371 ?_
                    have hL : ¬ isLc (cAt t p) = true := by
                      simp only [isLc, Bool.and_eq_true, decide_eq_true_eq]
                      omega
                    have hD : ¬ isDc (cAt t p) = true := by
                      simp only [isDc, Bool.and_eq_true, decide_eq_true_eq]
                      omega
                    have eE : tE t p = p + 1 := by unfold tE; rw [if_neg (by omega), if_neg hL, if_neg hD]
                    have eK : tK t p = if isSc (cAt t p) = true then 3 else 4 := by unfold tK; rw [if_neg (by omega), if_neg hL, if_neg hD]
                    have n12 : tK t p ≠ 1 ∧ tK t p ≠ 2 := by rw [eK]; split <;> decide
                    refine mk (hNx.tr ((MNx.u (by omega)).tr (MNx.u (by omega)))) ((MNx.u (by omega)).tr (MNx.u (by omega))) ?_ ?_ ?_ (fun e => absurd e n12.1) (fun e => absurd e n12.2)
                    · rw [uF_r, pk_un (by decide), uF_r, pk_us, eE]
                    · rw [uF_r, pk_un (by decide), uF_r, pk_un (by decide)]; exact h5x
                    · rw [uF_r, pk_us, eK]
                      first
                      | (rw [if_pos (by simp only [isSc, Bool.or_eq_true, Bool.and_eq_true, decide_eq_true_eq]; omega)]; rfl)
                      | (rw [if_neg (by simp only [isSc, Bool.or_eq_true, Bool.and_eq_true, decide_eq_true_eq]; omega)]; rfl)
            · have e336 := le_nI (a := 40) (b := cAt t p) h336 rfl (by omega) (by omega)
              refine d_run 2 rfl ?_
              refine d_ic_le k135_342 (fun h342 => ?_) (fun h342 => ?_)
              · have e342 := ge_nI (a := 43) (b := cAt t p) h342 rfl (by omega) (by omega)
                refine d_run 2 rfl ?_
                refine d_pI k135_368 (by first | assumption | exact Nat.le_of_ble_eq_true rfl | omega) ⟨rfl, rfl⟩ ?_
                refine d_ret k135_371 ?_
                have hL : ¬ isLc (cAt t p) = true := by
                  simp only [isLc, Bool.and_eq_true, decide_eq_true_eq]
                  omega
                have hD : ¬ isDc (cAt t p) = true := by
                  simp only [isDc, Bool.and_eq_true, decide_eq_true_eq]
                  omega
                have eE : tE t p = p + 1 := by unfold tE; rw [if_neg (by omega), if_neg hL, if_neg hD]
                have eK : tK t p = if isSc (cAt t p) = true then 3 else 4 := by unfold tK; rw [if_neg (by omega), if_neg hL, if_neg hD]
                have n12 : tK t p ≠ 1 ∧ tK t p ≠ 2 := by rw [eK]; split <;> decide
                refine mk (hNx.tr ((MNx.u (by omega)).tr (MNx.u (by omega)))) ((MNx.u (by omega)).tr (MNx.u (by omega))) ?_ ?_ ?_ (fun e => absurd e n12.1) (fun e => absurd e n12.2)
                · rw [uF_r, pk_un (by decide), uF_r, pk_us, eE]
                · rw [uF_r, pk_un (by decide), uF_r, pk_un (by decide)]; exact h5x
                · rw [uF_r, pk_us, eK]
                  first
                  | (rw [if_pos (by simp only [isSc, Bool.or_eq_true, Bool.and_eq_true, decide_eq_true_eq]; omega)]; rfl)
                  | (rw [if_neg (by simp only [isSc, Bool.or_eq_true, Bool.and_eq_true, decide_eq_true_eq]; omega)]; rfl)
              · have e342 := lt_nI (a := 43) (b := cAt t p) h342 rfl (by omega) (by omega)
                refine d_run 2 rfl ?_
                refine d_ic_eq k135_348 (fun h348 => ?_) (fun h348 => ?_)
                · have e348 := nI_inj (b := 45) h348 (by omega) (by omega)
                  refine d_run 2 rfl ?_
                  refine d_pI k135_368 (by first | assumption | exact Nat.le_of_ble_eq_true rfl | omega) ⟨rfl, rfl⟩ ?_
                  refine d_ret k135_371 ?_
                  have hL : ¬ isLc (cAt t p) = true := by
                    simp only [isLc, Bool.and_eq_true, decide_eq_true_eq]
                    omega
                  have hD : ¬ isDc (cAt t p) = true := by
                    simp only [isDc, Bool.and_eq_true, decide_eq_true_eq]
                    omega
                  have eE : tE t p = p + 1 := by unfold tE; rw [if_neg (by omega), if_neg hL, if_neg hD]
                  have eK : tK t p = if isSc (cAt t p) = true then 3 else 4 := by unfold tK; rw [if_neg (by omega), if_neg hL, if_neg hD]
                  have n12 : tK t p ≠ 1 ∧ tK t p ≠ 2 := by rw [eK]; split <;> decide
                  refine mk (hNx.tr ((MNx.u (by omega)).tr (MNx.u (by omega)))) ((MNx.u (by omega)).tr (MNx.u (by omega))) ?_ ?_ ?_ (fun e => absurd e n12.1) (fun e => absurd e n12.2)
                  · rw [uF_r, pk_un (by decide), uF_r, pk_us, eE]
                  · rw [uF_r, pk_un (by decide), uF_r, pk_un (by decide)]; exact h5x
                  · rw [uF_r, pk_us, eK]
                    first
                    | (rw [if_pos (by simp only [isSc, Bool.or_eq_true, Bool.and_eq_true, decide_eq_true_eq]; omega)]; rfl)
                    | (rw [if_neg (by simp only [isSc, Bool.or_eq_true, Bool.and_eq_true, decide_eq_true_eq]; omega)]; rfl)
                · have e348 : ¬ cAt t p = 45 := fun e => h348 (by rw [e]; rfl)
                  refine d_run 2 rfl ?_
                  refine d_ic_lt k135_354 (fun h354 => ?_) (fun h354 => ?_)
                  · have e354 := gt_nI (a := 59) (b := cAt t p) h354 rfl (by omega) (by omega)
                    refine d_run 1 rfl ?_
                    refine d_pI k135_368 (by first | assumption | exact Nat.le_of_ble_eq_true rfl | omega) ⟨rfl, rfl⟩ ?_
                    refine d_ret k135_371 ?_
                    have hL : ¬ isLc (cAt t p) = true := by
                      simp only [isLc, Bool.and_eq_true, decide_eq_true_eq]
                      omega
                    have hD : ¬ isDc (cAt t p) = true := by
                      simp only [isDc, Bool.and_eq_true, decide_eq_true_eq]
                      omega
                    have eE : tE t p = p + 1 := by unfold tE; rw [if_neg (by omega), if_neg hL, if_neg hD]
                    have eK : tK t p = if isSc (cAt t p) = true then 3 else 4 := by unfold tK; rw [if_neg (by omega), if_neg hL, if_neg hD]
                    have n12 : tK t p ≠ 1 ∧ tK t p ≠ 2 := by rw [eK]; split <;> decide
                    refine mk (hNx.tr ((MNx.u (by omega)).tr (MNx.u (by omega)))) ((MNx.u (by omega)).tr (MNx.u (by omega))) ?_ ?_ ?_ (fun e => absurd e n12.1) (fun e => absurd e n12.2)
                    · rw [uF_r, pk_un (by decide), uF_r, pk_us, eE]
                    · rw [uF_r, pk_un (by decide), uF_r, pk_un (by decide)]; exact h5x
                    · rw [uF_r, pk_us, eK]
                      first
                      | (rw [if_pos (by simp only [isSc, Bool.or_eq_true, Bool.and_eq_true, decide_eq_true_eq]; omega)]; rfl)
                      | (rw [if_neg (by simp only [isSc, Bool.or_eq_true, Bool.and_eq_true, decide_eq_true_eq]; omega)]; rfl)
                  · have e354 := le_nI (a := 59) (b := cAt t p) h354 rfl (by omega) (by omega)
                    refine d_run 2 rfl ?_
                    refine d_ic_gt k135_360 (fun h360 => ?_) (fun h360 => ?_)
                    · have e360 := gt_nI (a := cAt t p) (b := 61) h360 rfl (by omega) (by omega)
                      refine d_run 1 rfl ?_
                      refine d_pI k135_368 (by first | assumption | exact Nat.le_of_ble_eq_true rfl | omega) ⟨rfl, rfl⟩ ?_
                      refine d_ret k135_371 ?_
                      have hL : ¬ isLc (cAt t p) = true := by
                        simp only [isLc, Bool.and_eq_true, decide_eq_true_eq]
                        omega
                      have hD : ¬ isDc (cAt t p) = true := by
                        simp only [isDc, Bool.and_eq_true, decide_eq_true_eq]
                        omega
                      have eE : tE t p = p + 1 := by unfold tE; rw [if_neg (by omega), if_neg hL, if_neg hD]
                      have eK : tK t p = if isSc (cAt t p) = true then 3 else 4 := by unfold tK; rw [if_neg (by omega), if_neg hL, if_neg hD]
                      have n12 : tK t p ≠ 1 ∧ tK t p ≠ 2 := by rw [eK]; split <;> decide
                      refine mk (hNx.tr ((MNx.u (by omega)).tr (MNx.u (by omega)))) ((MNx.u (by omega)).tr (MNx.u (by omega))) ?_ ?_ ?_ (fun e => absurd e n12.1) (fun e => absurd e n12.2)
                      · rw [uF_r, pk_un (by decide), uF_r, pk_us, eE]
                      · rw [uF_r, pk_un (by decide), uF_r, pk_un (by decide)]; exact h5x
                      · rw [uF_r, pk_us, eK]
                        first
                        | (rw [if_pos (by simp only [isSc, Bool.or_eq_true, Bool.and_eq_true, decide_eq_true_eq]; omega)]; rfl)
                        | (rw [if_neg (by simp only [isSc, Bool.or_eq_true, Bool.and_eq_true, decide_eq_true_eq]; omega)]; rfl)
                    · have e360 := le_nI (a := cAt t p) (b := 61) h360 rfl (by omega) (by omega)
                      refine d_run 2 rfl ?_
                      refine d_pI k135_368 (by first | assumption | exact Nat.le_of_ble_eq_true rfl | omega) ⟨rfl, rfl⟩ ?_
                      refine d_ret k135_371 ?_
                      have hL : ¬ isLc (cAt t p) = true := by
                        simp only [isLc, Bool.and_eq_true, decide_eq_true_eq]
                        omega
                      have hD : ¬ isDc (cAt t p) = true := by
                        simp only [isDc, Bool.and_eq_true, decide_eq_true_eq]
                        omega
                      have eE : tE t p = p + 1 := by unfold tE; rw [if_neg (by omega), if_neg hL, if_neg hD]
                      have eK : tK t p = if isSc (cAt t p) = true then 3 else 4 := by unfold tK; rw [if_neg (by omega), if_neg hL, if_neg hD]
                      have n12 : tK t p ≠ 1 ∧ tK t p ≠ 2 := by rw [eK]; split <;> decide
                      refine mk (hNx.tr ((MNx.u (by omega)).tr (MNx.u (by omega)))) ((MNx.u (by omega)).tr (MNx.u (by omega))) ?_ ?_ ?_ (fun e => absurd e n12.1) (fun e => absurd e n12.2)
                      · rw [uF_r, pk_un (by decide), uF_r, pk_us, eE]
                      · rw [uF_r, pk_un (by decide), uF_r, pk_un (by decide)]; exact h5x
                      · rw [uF_r, pk_us, eK]
                        first
                        | (rw [if_pos (by simp only [isSc, Bool.or_eq_true, Bool.and_eq_true, decide_eq_true_eq]; omega)]; rfl)
                        | (rw [if_neg (by simp only [isSc, Bool.or_eq_true, Bool.and_eq_true, decide_eq_true_eq]; omega)]; rfl)
          · have e221 := le_nI (a := cAt t p) (b := 57) h221 rfl (by omega) (by omega)
            have hD : isDc (cAt t p) = true := by simp only [isDc]; rw [decide_eq_true e215, decide_eq_true e221]; rfl
            have hL : ¬ isLc (cAt t p) = true := by
              simp only [isLc, Bool.and_eq_true, decide_eq_true_eq]
              omega
            refine td_mo (l_mscN (u := nI (cAt t p)) (F0 := (uF (uF F 40 0 5 (nI p)) 40 0 8 0)) (G0 := (uG G 40 0 7 0)) (by omega) (t.1 - p) p _ _ (by omega) (by omega) hTx h5x h4x (by rw [uF_r, pk_us, Nat.sub_self]; rfl) MNx.rf) ?_
            rintro F2 G2 ⟨a1, a2, a3, a4, a5⟩
            have eE : tE t p = scn t isDc (t.1 - p) p := by unfold tE; rw [if_neg (by omega), if_neg hL, if_pos hD]
            have eK : tK t p = if tE t p - p ≤ 4 then 2 else 4 := by unfold tK; rw [if_neg (by omega), if_neg hL, if_pos hD]
            refine mk (hNx.tr a5) a5 (by rw [eE]; exact a2) a1 (by rw [eK, eE]; exact a4) (fun e => ?_) (fun e => ?_)
            · rw [eK] at e
              split at e <;> cases e
            · rw [a3, tV, eE]
              have h8 : scn t isDc (t.1 - p) p - p ≤ 4 := by
                apply Decidable.byContradiction
                intro e9
                rw [eK, eE, if_neg e9] at e
                cases e
              rw [Nat.min_eq_left h8]
      · have e106 := le_nI (a := cAt t p) (b := 122) h106 rfl (by omega) (by omega)
        have hL : isLc (cAt t p) = true := by simp only [isLc]; rw [decide_eq_true e100, decide_eq_true e106]; rfl
        refine td_mo (l_mscW (u := nI (cAt t p)) (F0 := (uF (uF F 40 0 5 (nI p)) 40 0 8 0)) (G0 := (uG G 40 0 7 0)) (by omega) (t.1 - p) p _ _ (by omega) (by omega) hTx h5x h4x (by rw [uG_s, Nat.sub_self]; rfl) MNx.rf) ?_
        rintro F2 G2 ⟨a1, a2, a3, a4, a5⟩
        have eE : tE t p = scn t isLc (t.1 - p) p := by unfold tE; rw [if_neg (by omega), if_pos hL]
        have eK : tK t p = if tE t p - p ≤ 8 then 1 else 4 := by unfold tK; rw [if_neg (by omega), if_pos hL]
        refine mk (hNx.tr a5) a5 (by rw [eE]; exact a2) a1 (by rw [eK, eE]; exact a4) (fun e => ?_) (fun e => ?_)
        · rw [a3, tW, eE]
          have h8 : scn t isLc (t.1 - p) p - p ≤ 8 := by
            apply Decidable.byContradiction
            intro e9
            rw [eK, eE, if_neg e9] at e
            cases e
          rw [Nat.min_eq_left h8]
        · rw [eK] at e
          split at e <;> cases e
  · have h78b : p = t.1 := nI_inj h78 (by omega) (by omega)
    refine d_run 2 rfl ?_
    refine d_pI k135_83 (by first | assumption | exact Nat.le_of_ble_eq_true rfl | omega) ⟨rfl, rfl⟩ ?_
    refine d_ret k135_86 ?_
    have eK : tK t p = 0 := tK_0.mpr (by omega)
    refine mk (hNx.tr (MNx.u (by omega))) (MNx.u (by omega)) ?_ ?_ ?_ (fun e => absurd e (by omega)) (fun e => absurd e (by omega))
    · rw [uF_r, pk_un (by decide), h4x, show tE t p = p by unfold tE; rw [if_pos (by omega)]]
    · rw [uF_r, pk_un (by decide)]; exact h5x
    · rw [uF_r, pk_us, eK]; rfl
theorem m_next (hd : 2 ≤ d) (hT : MTr F t) (hp : p ≤ t.1) (h4 : F 40 0 4 = nI p) : Td E d 135 0 [some (vr 40 0), none] [] x F G b none (fun F2 G2 => MRd F2 G2 t (tB t p) ∧ MNx F G F2 G2) := l_mskip (F0 := F) (G0 := G) (t.1 - p) p F (by omega) hT h4 MNx.rf (fun F2 a1 a2 a3 => l_mnx hd a1 (tB_le hp).2 a2 a3)
theorem m_nx (hd : 2 ≤ d) (h : MRd F G t p) : Td E d 135 0 [some (vr 40 0), none] [] x F G b none (fun F2 G2 => MRd F2 G2 t (tN t p) ∧ MNx F G F2 G2) := m_next hd ⟨h.1, h.2.2.2.2.2.2.1, h.2.2.2.2.2.2.2.2⟩ (tE_le h.2.2.2.2.2.2.2.1).2 h.2.1
end T9
