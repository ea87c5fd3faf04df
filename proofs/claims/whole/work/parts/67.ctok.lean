/-! TOKENS OF THE CLASS -/
theorem let_c : ∀ c, c < 123 → 97 ≤ c → (ibop 0 (ibop 1 (nI c) 97) 1).toInt64 = Int64.ofNat (c - 96) := by decide +kernel
theorem dig_c : ∀ c, c < 58 → 48 ≤ c → ibop 1 (nI c) 48 = nI (c - 48) := by decide +kernel
abbrev d5 (k _m : Nat) : Bool := decide (k = 5)
def CTk (F : FT) (G : GT) (t : TP) (p : Nat) : Prop := F 5 0 2 = nI (tK t p) ∧ F 5 0 3 = nI p ∧ F 5 0 4 = nI (tE t p) ∧ (tK t p = 1 → G 5 0 6 = w32 (tW t p)) ∧ (tK t p = 2 → F 5 0 5 = nI (tV t p)) ∧ (tK t p = 3 → F 5 0 5 = nI (cAt t p)) ∧ p ≤ t.1
def CRd (F : FT) (G : GT) (t : TP) (p : Nat) : Prop := CTp F t ∧ wfTp t ∧ CTk F G t p
/-- only the tape has changed; the fault is as it was -/
def CNx (F : FT) (G : GT) (F2 : FT) (G2 : GT) : Prop := F2 5 0 7 = F 5 0 7 ∧ FrD d5 F F2 ∧ ∀ k, k ≠ 5 → G2 k = G k
theorem CNx.rf {F : FT} {G : GT} : CNx F G F G := ⟨rfl, FrD.rf, fun _ _ => rfl⟩
theorem CNx.tr {F F1 F2 : FT} {G G1 G2 : GT} (h : CNx F G F1 G1) (h2 : CNx F1 G1 F2 G2) : CNx F G F2 G2 := ⟨h2.1.trans h.1, h.2.1.tr h2.2.1, fun k hk => (h2.2.2 k hk).trans (h.2.2 k hk)⟩
theorem CNx.u {F : FT} {G : GT} {i : Nat} {v : Int32} (hi : i ≠ 7) : CNx F G (uF F 5 0 i v) G := ⟨by rw [uF_r, pk_un (fun e => hi e.symm)], FrD.rf.u rfl, fun _ _ => rfl⟩
theorem CNx.g {F : FT} {G : GT} {i : Nat} {v : Int64} : CNx F G F (uG G 5 0 i v) := ⟨rfl, FrD.rf, fun k hk => uG_k hk⟩
theorem CTp.u5 {F : FT} {t : TP} {i : Nat} {v : Int32} (h : CTp F t) (hi : i ≠ 1) : CTp (uF F 5 0 i v) t := ⟨by rw [uF_r, pk_un (fun e => hi e.symm)]; exact h.1, h.2.1, by rw [uF_k (by decide)]; exact h.2.2⟩
section T1
variable {E : EV} {d x p : Nat} {F : FT} {G : GT} {b : Bool} {t : TP} {u v w : Int32}
theorem c_isLet {c : Nat} (hc : c < 128) : Tm E d 72 0 [some (vi (nI c))] [] (cC x) F G (Rs b) (some (vi (b2i (isLc c)))) (cC x, F, G, Rs b) := by
  refine t_run 2 rfl ?_
  refine t_ic_lt k72_3 (fun h3 => ?_) (fun h3 => ?_)
  · have h3 := gt_nI (a := 97) (b := c) h3 rfl (by omega) (by omega)
    rw [show isLc c = false by simp only [isLc]; rw [decide_eq_false (by omega)]; rfl]
    refine t_run 1 rfl ?_
    exact t_ib k72_17 (by rfl)
  · have h3 := le_nI (a := 97) (b := c) h3 rfl (by omega) (by omega)
    refine t_run 2 rfl ?_
    refine t_ic_gt k72_9 (fun h9 => ?_) (fun h9 => ?_)
    · have h9 := gt_nI (a := c) (b := 122) h9 rfl (by omega) (by omega)
      rw [show isLc c = false by simp only [isLc]; rw [decide_eq_false (show ¬ c ≤ 122 by omega), Bool.and_false]]
      refine t_run 1 rfl ?_
      exact t_ib k72_17 (by rfl)
    · have h9 := le_nI (a := c) (b := 122) h9 rfl (by omega) (by omega)
      rw [show isLc c = true by simp only [isLc]; rw [decide_eq_true h3, decide_eq_true h9]; rfl]
      refine t_run 2 rfl ?_
      exact t_ib k72_17 (by rfl)
theorem c_isDig {c : Nat} (hc : c < 128) : Tm E d 73 0 [some (vi (nI c))] [] (cC x) F G (Rs b) (some (vi (b2i (isDc c)))) (cC x, F, G, Rs b) := by
  refine t_run 2 rfl ?_
  refine t_ic_lt k73_3 (fun h3 => ?_) (fun h3 => ?_)
  · have h3 := gt_nI (a := 48) (b := c) h3 rfl (by omega) (by omega)
    rw [show isDc c = false by simp only [isDc]; rw [decide_eq_false (by omega)]; rfl]
    refine t_run 1 rfl ?_
    exact t_ib k73_17 (by rfl)
  · have h3 := le_nI (a := 48) (b := c) h3 rfl (by omega) (by omega)
    refine t_run 2 rfl ?_
    refine t_ic_gt k73_9 (fun h9 => ?_) (fun h9 => ?_)
    · have h9 := gt_nI (a := c) (b := 57) h9 rfl (by omega) (by omega)
      rw [show isDc c = false by simp only [isDc]; rw [decide_eq_false (show ¬ c ≤ 57 by omega), Bool.and_false]]
      refine t_run 1 rfl ?_
      exact t_ib k73_17 (by rfl)
    · have h9 := le_nI (a := c) (b := 57) h9 rfl (by omega) (by omega)
      rw [show isDc c = true by simp only [isDc]; rw [decide_eq_true h3, decide_eq_true h9]; rfl]
      refine t_run 2 rfl ?_
      exact t_ib k73_17 (by rfl)
theorem l_scW {F0 : FT} {G0 : GT} (hw : wfTp t) (hd : 1 ≤ d) : ∀ (r e : Nat) (F : FT) (G : GT), e + r = t.1 → p ≤ e → CTp F t → F 5 0 3 = nI p → F 5 0 4 = nI e → G 5 0 6 = w32 (wlt t p (e - p)) → CNx F0 G0 F G → Td E d 70 5 [some (vr 5 0)] [] x F G b none (fun F2 G2 => CTp F2 t ∧ F2 5 0 3 = nI p ∧ F2 5 0 4 = nI (scn t isLc r e) ∧ G2 5 0 6 = w32 (wlt t p (scn t isLc r e - p)) ∧ F2 5 0 2 = nI (if scn t isLc r e - p ≤ 8 then 1 else 4) ∧ CNx F0 G0 F2 G2) := by
  intro r
  induction r with
  | zero =>
    intro e F G her hpe hT h3 h4 hG hN
    have hlen := hT.2.1
    have eR : scn t isLc 0 e = e := rfl
    refine d_run 1 rfl ?_
    refine d_gI k70_6 (by first | assumption | exact Nat.le_of_ble_eq_true rfl | omega) ⟨rfl, rfl, Or.inl rfl⟩ ?_
    rw [h4]
    refine d_run 1 rfl ?_
    refine d_gI k70_10 (by first | assumption | exact Nat.le_of_ble_eq_true rfl | omega) ⟨rfl, rfl, Or.inl rfl⟩ ?_
    rw [hT.1]
    refine d_ic_ge k70_13 (fun h13 => ?_) (fun h13 => ?_)
    · refine d_run 2 rfl ?_
      refine d_gI k70_74 (by first | assumption | exact Nat.le_of_ble_eq_true rfl | omega) ⟨rfl, rfl, Or.inl rfl⟩ ?_
      rw [h4]
      refine d_run 1 rfl ?_
      refine d_gI k70_78 (by first | assumption | exact Nat.le_of_ble_eq_true rfl | omega) ⟨rfl, rfl, Or.inl rfl⟩ ?_
      rw [h3]
      refine d_run 2 rfl ?_
      rw [show ibop 1 (nI e) (nI p) = nI (e - p) from pk_sub hpe]
      refine d_ic_gt k70_84 (fun h84 => ?_) (fun h84 => ?_)
      · have hk := gt_nI (a := e - p) (b := 8) h84 rfl (by omega) (by omega)
        have eK : (if e - p ≤ 8 then 1 else 4) = 4 := if_neg (by omega)
        refine d_run 1 rfl ?_
        refine d_pI k70_92 (by first | assumption | exact Nat.le_of_ble_eq_true rfl | omega) ⟨rfl, rfl⟩ ?_
        refine d_ret k70_95 ?_
        refine ⟨hT.u5 (by decide), ?_, ?_, ?_, ?_, hN.tr (CNx.u (by decide))⟩
        · skip
          rw [uF_r, pk_un (by decide)]; exact h3
        · rw [eR]
          rw [uF_r, pk_un (by decide)]; exact h4
        · rw [eR]
          exact hG
        · rw [eR]
          rw [uF_r, pk_us, eK]
          rfl
      · have hk := le_nI (a := e - p) (b := 8) h84 rfl (by omega) (by omega)
        have eK : (if e - p ≤ 8 then 1 else 4) = 1 := if_pos (by omega)
        refine d_run 2 rfl ?_
        refine d_pI k70_92 (by first | assumption | exact Nat.le_of_ble_eq_true rfl | omega) ⟨rfl, rfl⟩ ?_
        refine d_ret k70_95 ?_
        refine ⟨hT.u5 (by decide), ?_, ?_, ?_, ?_, hN.tr (CNx.u (by decide))⟩
        · skip
          rw [uF_r, pk_un (by decide)]; exact h3
        · rw [eR]
          rw [uF_r, pk_un (by decide)]; exact h4
        · rw [eR]
          exact hG
        · rw [eR]
          rw [uF_r, pk_us, eK]
          rfl
    · exact absurd (lt_nI h13 rfl (by omega) (by omega)) (by omega)
  | succ r ih =>
    intro e F G her hpe hT h3 h4 hG hN
    have hlen := hT.2.1
    refine d_run 1 rfl ?_
    refine d_gI k70_6 (by first | assumption | exact Nat.le_of_ble_eq_true rfl | omega) ⟨rfl, rfl, Or.inl rfl⟩ ?_
    rw [h4]
    refine d_run 1 rfl ?_
    refine d_gI k70_10 (by first | assumption | exact Nat.le_of_ble_eq_true rfl | omega) ⟨rfl, rfl, Or.inl rfl⟩ ?_
    rw [hT.1]
    refine d_ic_ge k70_13 (fun h13 => ?_) (fun h13 => ?_)
    · exact absurd (ge_nI h13 rfl (by omega) (by omega)) (by omega)
    · refine d_run 1 rfl ?_
      refine d_gR k70_17 (by first | assumption | exact Nat.le_of_ble_eq_true rfl | omega) ⟨rfl, rfl, rfl⟩ rfl ?_
      refine d_run 1 rfl ?_
      refine d_gI k70_21 (by first | assumption | exact Nat.le_of_ble_eq_true rfl | omega) ⟨rfl, rfl, Or.inl rfl⟩ ?_
      rw [h4]
      refine d_ia (N := 1000) (j := e) k70_24 (by decide) (by first | assumption | exact Nat.le_of_ble_eq_true rfl | omega) ⟨⟨rfl, rfl⟩, rfl, rfl⟩ (show e < 1000 by omega) rfl ?_
      rw [(show F 6 0 e = nI (cAt t e) from (hT.2.2 e (by omega)).trans (cAt_c hw (by omega)).1)]
      refine d_callT 1 k70_25 (by omega) (Nat.le_of_ble_eq_true rfl) rfl (Nat.le_of_ble_eq_true rfl) (Nat.le_of_ble_eq_true rfl) recv_st rfl (c_isLet (cAt_c hw (show e < t.1 by omega)).2) rfl ?_
      refine d_if_eq k70_28 (fun h28 => ?_) (fun h28 => ?_)
      · rw [b2i0] at h28
        have eR : scn t isLc (r + 1) e = e := by simp only [scn]; rw [if_neg (by rw [h28]; decide)]
        refine d_run 2 rfl ?_
        refine d_gI k70_74 (by first | assumption | exact Nat.le_of_ble_eq_true rfl | omega) ⟨rfl, rfl, Or.inl rfl⟩ ?_
        rw [h4]
        refine d_run 1 rfl ?_
        refine d_gI k70_78 (by first | assumption | exact Nat.le_of_ble_eq_true rfl | omega) ⟨rfl, rfl, Or.inl rfl⟩ ?_
        rw [h3]
        refine d_run 2 rfl ?_
        rw [show ibop 1 (nI e) (nI p) = nI (e - p) from pk_sub hpe]
        refine d_ic_gt k70_84 (fun h84 => ?_) (fun h84 => ?_)
        · have hk := gt_nI (a := e - p) (b := 8) h84 rfl (by omega) (by omega)
          have eK : (if e - p ≤ 8 then 1 else 4) = 4 := if_neg (by omega)
          refine d_run 1 rfl ?_
          refine d_pI k70_92 (by first | assumption | exact Nat.le_of_ble_eq_true rfl | omega) ⟨rfl, rfl⟩ ?_
          refine d_ret k70_95 ?_
          refine ⟨hT.u5 (by decide), ?_, ?_, ?_, ?_, hN.tr (CNx.u (by decide))⟩
          · skip
            rw [uF_r, pk_un (by decide)]; exact h3
          · rw [eR]
            rw [uF_r, pk_un (by decide)]; exact h4
          · rw [eR]
            exact hG
          · rw [eR]
            rw [uF_r, pk_us, eK]
            rfl
        · have hk := le_nI (a := e - p) (b := 8) h84 rfl (by omega) (by omega)
          have eK : (if e - p ≤ 8 then 1 else 4) = 1 := if_pos (by omega)
          refine d_run 2 rfl ?_
          refine d_pI k70_92 (by first | assumption | exact Nat.le_of_ble_eq_true rfl | omega) ⟨rfl, rfl⟩ ?_
          refine d_ret k70_95 ?_
          refine ⟨hT.u5 (by decide), ?_, ?_, ?_, ?_, hN.tr (CNx.u (by decide))⟩
          · skip
            rw [uF_r, pk_un (by decide)]; exact h3
          · rw [eR]
            rw [uF_r, pk_un (by decide)]; exact h4
          · rw [eR]
            exact hG
          · rw [eR]
            rw [uF_r, pk_us, eK]
            rfl
      · rw [b2i0, Bool.not_eq_false] at h28
        have eR : scn t isLc (r + 1) e = scn t isLc r (e + 1) := by simp only [scn]; rw [if_pos h28]
        rw [eR]
        refine d_run 2 rfl ?_
        refine d_gL k70_33 (by first | assumption | exact Nat.le_of_ble_eq_true rfl | omega) ⟨rfl, rfl, rfl⟩ ?_
        rw [hG]
        refine d_run 3 rfl ?_
        refine d_gR k70_41 (by first | assumption | exact Nat.le_of_ble_eq_true rfl | omega) ⟨rfl, rfl, rfl⟩ rfl ?_
        refine d_run 1 rfl ?_
        refine d_gI k70_45 (by first | assumption | exact Nat.le_of_ble_eq_true rfl | omega) ⟨rfl, rfl, Or.inl rfl⟩ ?_
        rw [h4]
        refine d_ia (N := 1000) (j := e) k70_48 (by decide) (by first | assumption | exact Nat.le_of_ble_eq_true rfl | omega) ⟨⟨rfl, rfl⟩, rfl, rfl⟩ (show e < 1000 by omega) rfl ?_
        rw [(show F 6 0 e = nI (cAt t e) from (hT.2.2 e (by omega)).trans (cAt_c hw (by omega)).1)]
        refine d_run 6 rfl ?_
        have hlc : 97 ≤ cAt t e ∧ cAt t e ≤ 122 := by simpa [isLc] using h28
        rw [let_c (cAt t e) (by omega) hlc.1]
        have eW : lbop 0 (lbop 2 (w32 (wlt t p (e - p))) 32) (Int64.ofNat (cAt t e - 96)) = w32 (wlt t p (e + 1 - p)) := by
          rw [show e + 1 - p = (e - p) + 1 by omega, wlt_s, w32_s, show p + (e - p) = e by omega]
          rfl
        rw [eW]
        refine d_pL k70_56 (by first | assumption | exact Nat.le_of_ble_eq_true rfl | omega) ⟨rfl, rfl⟩ ?_
        refine d_run 2 rfl ?_
        refine d_gI k70_61 (by first | assumption | exact Nat.le_of_ble_eq_true rfl | omega) ⟨rfl, rfl, Or.inl rfl⟩ ?_
        rw [h4]
        refine d_run 2 rfl ?_
        rw [show ibop 0 (nI e) 1 = nI (e + 1) from nI_1 e]
        refine d_pI k70_66 (by first | assumption | exact Nat.le_of_ble_eq_true rfl | omega) ⟨rfl, rfl⟩ ?_
        refine d_run 1 rfl ?_
        exact ih (e + 1) _ _ (by omega) (by omega) (hT.u5 (by decide)) (by rw [uF_r, pk_un (by decide)]; exact h3) (by rw [uF_r, pk_us]) uG_s (hN.tr (CNx.g.tr (CNx.u (by decide))))
theorem l_scN {F0 : FT} {G0 : GT} (hw : wfTp t) (hd : 1 ≤ d) : ∀ (r e : Nat) (F : FT) (G : GT), e + r = t.1 → p ≤ e → CTp F t → F 5 0 3 = nI p → F 5 0 4 = nI e → F 5 0 5 = nI (vlt t p (e - p)) → CNx F0 G0 F G → Td E d 71 5 [some (vr 5 0)] [] x F G b none (fun F2 G2 => CTp F2 t ∧ F2 5 0 3 = nI p ∧ F2 5 0 4 = nI (scn t isDc r e) ∧ F2 5 0 5 = nI (vlt t p (scn t isDc r e - p)) ∧ F2 5 0 2 = nI (if scn t isDc r e - p ≤ 4 then 2 else 4) ∧ CNx F0 G0 F2 G2) := by
  intro r
  induction r with
  | zero =>
    intro e F G her hpe hT h3 h4 hG hN
    have hlen := hT.2.1
    have eR : scn t isDc 0 e = e := rfl
    refine d_run 1 rfl ?_
    refine d_gI k71_6 (by first | assumption | exact Nat.le_of_ble_eq_true rfl | omega) ⟨rfl, rfl, Or.inl rfl⟩ ?_
    rw [h4]
    refine d_run 1 rfl ?_
    refine d_gI k71_10 (by first | assumption | exact Nat.le_of_ble_eq_true rfl | omega) ⟨rfl, rfl, Or.inl rfl⟩ ?_
    rw [hT.1]
    refine d_ic_ge k71_13 (fun h13 => ?_) (fun h13 => ?_)
    · refine d_run 2 rfl ?_
      refine d_gI k71_70 (by first | assumption | exact Nat.le_of_ble_eq_true rfl | omega) ⟨rfl, rfl, Or.inl rfl⟩ ?_
      rw [h4]
      refine d_run 1 rfl ?_
      refine d_gI k71_74 (by first | assumption | exact Nat.le_of_ble_eq_true rfl | omega) ⟨rfl, rfl, Or.inl rfl⟩ ?_
      rw [h3]
      refine d_run 2 rfl ?_
      rw [show ibop 1 (nI e) (nI p) = nI (e - p) from pk_sub hpe]
      refine d_ic_gt k71_79 (fun h79 => ?_) (fun h79 => ?_)
      · have hk := gt_nI (a := e - p) (b := 4) h79 rfl (by omega) (by omega)
        have eK : (if e - p ≤ 4 then 2 else 4) = 4 := if_neg (by omega)
        refine d_run 1 rfl ?_
        refine d_pI k71_87 (by first | assumption | exact Nat.le_of_ble_eq_true rfl | omega) ⟨rfl, rfl⟩ ?_
        refine d_ret k71_90 ?_
        refine ⟨hT.u5 (by decide), ?_, ?_, ?_, ?_, hN.tr (CNx.u (by decide))⟩
        · skip
          rw [uF_r, pk_un (by decide)]; exact h3
        · rw [eR]
          rw [uF_r, pk_un (by decide)]; exact h4
        · rw [eR]
          rw [uF_r, pk_un (by decide)]; exact hG
        · rw [eR]
          rw [uF_r, pk_us, eK]
          rfl
      · have hk := le_nI (a := e - p) (b := 4) h79 rfl (by omega) (by omega)
        have eK : (if e - p ≤ 4 then 2 else 4) = 2 := if_pos (by omega)
        refine d_run 2 rfl ?_
        refine d_pI k71_87 (by first | assumption | exact Nat.le_of_ble_eq_true rfl | omega) ⟨rfl, rfl⟩ ?_
        refine d_ret k71_90 ?_
        refine ⟨hT.u5 (by decide), ?_, ?_, ?_, ?_, hN.tr (CNx.u (by decide))⟩
        · skip
          rw [uF_r, pk_un (by decide)]; exact h3
        · rw [eR]
          rw [uF_r, pk_un (by decide)]; exact h4
        · rw [eR]
          rw [uF_r, pk_un (by decide)]; exact hG
        · rw [eR]
          rw [uF_r, pk_us, eK]
          rfl
    · exact absurd (lt_nI h13 rfl (by omega) (by omega)) (by omega)
  | succ r ih =>
    intro e F G her hpe hT h3 h4 hG hN
    have hlen := hT.2.1
    refine d_run 1 rfl ?_
    refine d_gI k71_6 (by first | assumption | exact Nat.le_of_ble_eq_true rfl | omega) ⟨rfl, rfl, Or.inl rfl⟩ ?_
    rw [h4]
    refine d_run 1 rfl ?_
    refine d_gI k71_10 (by first | assumption | exact Nat.le_of_ble_eq_true rfl | omega) ⟨rfl, rfl, Or.inl rfl⟩ ?_
    rw [hT.1]
    refine d_ic_ge k71_13 (fun h13 => ?_) (fun h13 => ?_)
    · exact absurd (ge_nI h13 rfl (by omega) (by omega)) (by omega)
    · refine d_run 1 rfl ?_
      refine d_gR k71_17 (by first | assumption | exact Nat.le_of_ble_eq_true rfl | omega) ⟨rfl, rfl, rfl⟩ rfl ?_
      refine d_run 1 rfl ?_
      refine d_gI k71_21 (by first | assumption | exact Nat.le_of_ble_eq_true rfl | omega) ⟨rfl, rfl, Or.inl rfl⟩ ?_
      rw [h4]
      refine d_ia (N := 1000) (j := e) k71_24 (by decide) (by first | assumption | exact Nat.le_of_ble_eq_true rfl | omega) ⟨⟨rfl, rfl⟩, rfl, rfl⟩ (show e < 1000 by omega) rfl ?_
      rw [(show F 6 0 e = nI (cAt t e) from (hT.2.2 e (by omega)).trans (cAt_c hw (by omega)).1)]
      refine d_callT 1 k71_25 (by omega) (Nat.le_of_ble_eq_true rfl) rfl (Nat.le_of_ble_eq_true rfl) (Nat.le_of_ble_eq_true rfl) recv_st rfl (c_isDig (cAt_c hw (show e < t.1 by omega)).2) rfl ?_
      refine d_if_eq k71_28 (fun h28 => ?_) (fun h28 => ?_)
      · rw [b2i0] at h28
        have eR : scn t isDc (r + 1) e = e := by simp only [scn]; rw [if_neg (by rw [h28]; decide)]
        refine d_run 2 rfl ?_
        refine d_gI k71_70 (by first | assumption | exact Nat.le_of_ble_eq_true rfl | omega) ⟨rfl, rfl, Or.inl rfl⟩ ?_
        rw [h4]
        refine d_run 1 rfl ?_
        refine d_gI k71_74 (by first | assumption | exact Nat.le_of_ble_eq_true rfl | omega) ⟨rfl, rfl, Or.inl rfl⟩ ?_
        rw [h3]
        refine d_run 2 rfl ?_
        rw [show ibop 1 (nI e) (nI p) = nI (e - p) from pk_sub hpe]
        refine d_ic_gt k71_79 (fun h79 => ?_) (fun h79 => ?_)
        · have hk := gt_nI (a := e - p) (b := 4) h79 rfl (by omega) (by omega)
          have eK : (if e - p ≤ 4 then 2 else 4) = 4 := if_neg (by omega)
          refine d_run 1 rfl ?_
          refine d_pI k71_87 (by first | assumption | exact Nat.le_of_ble_eq_true rfl | omega) ⟨rfl, rfl⟩ ?_
          refine d_ret k71_90 ?_
          refine ⟨hT.u5 (by decide), ?_, ?_, ?_, ?_, hN.tr (CNx.u (by decide))⟩
          · skip
            rw [uF_r, pk_un (by decide)]; exact h3
          · rw [eR]
            rw [uF_r, pk_un (by decide)]; exact h4
          · rw [eR]
            rw [uF_r, pk_un (by decide)]; exact hG
          · rw [eR]
            rw [uF_r, pk_us, eK]
            rfl
        · have hk := le_nI (a := e - p) (b := 4) h79 rfl (by omega) (by omega)
          have eK : (if e - p ≤ 4 then 2 else 4) = 2 := if_pos (by omega)
          refine d_run 2 rfl ?_
          refine d_pI k71_87 (by first | assumption | exact Nat.le_of_ble_eq_true rfl | omega) ⟨rfl, rfl⟩ ?_
          refine d_ret k71_90 ?_
          refine ⟨hT.u5 (by decide), ?_, ?_, ?_, ?_, hN.tr (CNx.u (by decide))⟩
          · skip
            rw [uF_r, pk_un (by decide)]; exact h3
          · rw [eR]
            rw [uF_r, pk_un (by decide)]; exact h4
          · rw [eR]
            rw [uF_r, pk_un (by decide)]; exact hG
          · rw [eR]
            rw [uF_r, pk_us, eK]
            rfl
      · rw [b2i0, Bool.not_eq_false] at h28
        have eR : scn t isDc (r + 1) e = scn t isDc r (e + 1) := by simp only [scn]; rw [if_pos h28]
        rw [eR]
        refine d_run 2 rfl ?_
        refine d_gI k71_33 (by first | assumption | exact Nat.le_of_ble_eq_true rfl | omega) ⟨rfl, rfl, Or.inl rfl⟩ ?_
        rw [hG]
        refine d_run 3 rfl ?_
        refine d_gR k71_40 (by first | assumption | exact Nat.le_of_ble_eq_true rfl | omega) ⟨rfl, rfl, rfl⟩ rfl ?_
        refine d_run 1 rfl ?_
        refine d_gI k71_44 (by first | assumption | exact Nat.le_of_ble_eq_true rfl | omega) ⟨rfl, rfl, Or.inl rfl⟩ ?_
        rw [h4]
        refine d_ia (N := 1000) (j := e) k71_47 (by decide) (by first | assumption | exact Nat.le_of_ble_eq_true rfl | omega) ⟨⟨rfl, rfl⟩, rfl, rfl⟩ (show e < 1000 by omega) rfl ?_
        rw [(show F 6 0 e = nI (cAt t e) from (hT.2.2 e (by omega)).trans (cAt_c hw (by omega)).1)]
        refine d_run 3 rfl ?_
        have hlc : 48 ≤ cAt t e ∧ cAt t e ≤ 57 := by simpa [isDc] using h28
        rw [dig_c (cAt t e) (by omega) hlc.1]
        have eW : ibop 0 (ibop 2 (nI (vlt t p (e - p))) 10) (nI (cAt t e - 48)) = nI (vlt t p (e + 1 - p)) := by
          rw [show e + 1 - p = (e - p) + 1 by omega, vlt_s, show p + (e - p) = e by omega]
          show nI _ * 10 + nI _ = _
          rw [show (10 : Int32) = nI 10 from rfl, pk_mul, nI_add]
        rw [eW]
        refine d_pI k71_52 (by first | assumption | exact Nat.le_of_ble_eq_true rfl | omega) ⟨rfl, rfl⟩ ?_
        refine d_run 2 rfl ?_
        refine d_gI k71_57 (by first | assumption | exact Nat.le_of_ble_eq_true rfl | omega) ⟨rfl, rfl, Or.inl rfl⟩ ?_
        rw [uF_r, pk_un (by decide), h4]
        refine d_run 2 rfl ?_
        rw [show ibop 0 (nI e) 1 = nI (e + 1) from nI_1 e]
        refine d_pI k71_62 (by first | assumption | exact Nat.le_of_ble_eq_true rfl | omega) ⟨rfl, rfl⟩ ?_
        refine d_run 1 rfl ?_
        exact ih (e + 1) _ _ (by omega) (by omega) ((hT.u5 (by decide)).u5 (by decide)) (by rw [uF_r, pk_un (by decide), uF_r, pk_un (by decide)]; exact h3) (by rw [uF_r, pk_us]) (by rw [uF_r, pk_un (by decide), uF_r, pk_us]) (hN.tr ((CNx.u (by decide)).tr (CNx.u (by decide))))
theorem c_scW (hw : wfTp t) (hd : 1 ≤ d) (hT : CTp F t) (hp : p ≤ t.1) (h3 : F 5 0 3 = nI p) (h4 : F 5 0 4 = nI p) : Td E d 70 0 [some (vr 5 0)] [] x F G b none (fun F2 G2 => CTp F2 t ∧ F2 5 0 3 = nI p ∧ F2 5 0 4 = nI (scn t isLc (t.1 - p) p) ∧ G2 5 0 6 = w32 (wlt t p (scn t isLc (t.1 - p) p - p)) ∧ F2 5 0 2 = nI (if scn t isLc (t.1 - p) p - p ≤ 8 then 1 else 4) ∧ CNx F G F2 G2) := by
  refine d_run 2 rfl ?_
  refine d_pL k70_2 (by first | assumption | exact Nat.le_of_ble_eq_true rfl | omega) ⟨rfl, rfl⟩ ?_
  exact l_scW hw hd (t.1 - p) p F _ (by omega) (by omega) hT h3 h4 (by rw [uG_s, Nat.sub_self]; rfl) CNx.g
theorem c_scN (hw : wfTp t) (hd : 1 ≤ d) (hT : CTp F t) (hp : p ≤ t.1) (h3 : F 5 0 3 = nI p) (h4 : F 5 0 4 = nI p) : Td E d 71 0 [some (vr 5 0)] [] x F G b none (fun F2 G2 => CTp F2 t ∧ F2 5 0 3 = nI p ∧ F2 5 0 4 = nI (scn t isDc (t.1 - p) p) ∧ F2 5 0 5 = nI (vlt t p (scn t isDc (t.1 - p) p - p)) ∧ F2 5 0 2 = nI (if scn t isDc (t.1 - p) p - p ≤ 4 then 2 else 4) ∧ CNx F G F2 G2) := by
  refine d_run 2 rfl ?_
  refine d_pI k71_2 (by first | assumption | exact Nat.le_of_ble_eq_true rfl | omega) ⟨rfl, rfl⟩ ?_
  exact l_scN hw hd (t.1 - p) p _ G (by omega) (by omega) (hT.u5 (by decide)) (by rw [uF_r, pk_un (by decide)]; exact h3) (by rw [uF_r, pk_un (by decide)]; exact h4) (by rw [uF_r, pk_us, Nat.sub_self]; rfl) (CNx.u (by decide))
theorem l_skip {F0 : FT} {QQ : FT → GT → Prop} (hw : wfTp t) : ∀ (r e : Nat) (F : FT), e + r = t.1 → CTp F t → F 5 0 3 = nI e → CNx F0 G F G → (∀ F2, CTp F2 t → F2 5 0 3 = nI (scn t isBc r e) → CNx F0 G F2 G → Td E d 69 60 [some (vr 5 0)] [] x F2 G b none QQ) → Td E d 69 8 [some (vr 5 0)] [] x F G b none QQ := by
  intro r
  induction r with
  | zero =>
    intro e F her hT h3 hN kk
    have hlen := hT.2.1
    refine d_run 1 rfl ?_
    refine d_gI k69_9 (by first | assumption | exact Nat.le_of_ble_eq_true rfl | omega) ⟨rfl, rfl, Or.inl rfl⟩ ?_
    rw [h3]
    refine d_run 1 rfl ?_
    refine d_gI k69_13 (by first | assumption | exact Nat.le_of_ble_eq_true rfl | omega) ⟨rfl, rfl, Or.inl rfl⟩ ?_
    rw [hT.1]
    refine d_ic_ge k69_16 (fun h16 => ?_) (fun h16 => ?_)
    · exact kk F hT h3 hN
    · exact absurd (lt_nI h16 rfl (by omega) (by omega)) (by omega)
  | succ r ih =>
    intro e F her hT h3 hN kk
    have hlen := hT.2.1
    refine d_run 1 rfl ?_
    refine d_gI k69_9 (by first | assumption | exact Nat.le_of_ble_eq_true rfl | omega) ⟨rfl, rfl, Or.inl rfl⟩ ?_
    rw [h3]
    refine d_run 1 rfl ?_
    refine d_gI k69_13 (by first | assumption | exact Nat.le_of_ble_eq_true rfl | omega) ⟨rfl, rfl, Or.inl rfl⟩ ?_
    rw [hT.1]
    refine d_ic_ge k69_16 (fun h16 => ?_) (fun h16 => ?_)
    · exact absurd (ge_nI h16 rfl (by omega) (by omega)) (by omega)
    · refine d_run 1 rfl ?_
      refine d_gR k69_20 (by first | assumption | exact Nat.le_of_ble_eq_true rfl | omega) ⟨rfl, rfl, rfl⟩ rfl ?_
      refine d_run 1 rfl ?_
      refine d_gI k69_24 (by first | assumption | exact Nat.le_of_ble_eq_true rfl | omega) ⟨rfl, rfl, Or.inl rfl⟩ ?_
      rw [h3]
      refine d_ia (N := 1000) (j := e) k69_27 (by decide) (by first | assumption | exact Nat.le_of_ble_eq_true rfl | omega) ⟨⟨rfl, rfl⟩, rfl, rfl⟩ (show e < 1000 by omega) rfl ?_
      rw [(show F 6 0 e = nI (cAt t e) from (hT.2.2 e (by omega)).trans (cAt_c hw (by omega)).1)]
      have hcc := (cAt_c hw (show e < t.1 by omega)).2
      refine d_run 1 rfl ?_
      refine d_ic_eq k69_30 (fun h30 => ?_) (fun h30 => ?_)
      · have eB : isBc (cAt t e) = true := by simp only [isBc]; rw [decide_eq_true (nI_inj (b := 10) h30 (by omega) (by omega))]; rfl
        refine d_run 2 rfl ?_
        refine d_gI k69_49 (by first | assumption | exact Nat.le_of_ble_eq_true rfl | omega) ⟨rfl, rfl, Or.inl rfl⟩ ?_
        rw [h3]
        refine d_run 2 rfl ?_
        rw [show ibop 0 (nI e) 1 = nI (e + 1) from nI_1 e]
        refine d_pI k69_54 (by first | assumption | exact Nat.le_of_ble_eq_true rfl | omega) ⟨rfl, rfl⟩ ?_
        refine d_run 1 rfl ?_
        have eR : scn t isBc (r + 1) e = scn t isBc r (e + 1) := by simp only [scn]; rw [if_pos eB]
        rw [eR] at kk
        exact ih (e + 1) _ (by omega) (hT.u5 (by decide)) (by rw [uF_r, pk_us]) (hN.tr (CNx.u (by decide))) kk
      · have e30 : ¬ cAt t e = 10 := fun e2 => h30 (by rw [e2]; rfl)
        refine d_run 1 rfl ?_
        refine d_gR k69_34 (by first | assumption | exact Nat.le_of_ble_eq_true rfl | omega) ⟨rfl, rfl, rfl⟩ rfl ?_
        refine d_run 1 rfl ?_
        refine d_gI k69_38 (by first | assumption | exact Nat.le_of_ble_eq_true rfl | omega) ⟨rfl, rfl, Or.inl rfl⟩ ?_
        rw [h3]
        refine d_ia (N := 1000) (j := e) k69_41 (by decide) (by first | assumption | exact Nat.le_of_ble_eq_true rfl | omega) ⟨⟨rfl, rfl⟩, rfl, rfl⟩ (show e < 1000 by omega) rfl ?_
        rw [(show F 6 0 e = nI (cAt t e) from (hT.2.2 e (by omega)).trans (cAt_c hw (by omega)).1)]
        refine d_run 1 rfl ?_
        refine d_ic_ne k69_44 (fun h44 => ?_) (fun h44 => ?_)
        · have e44 : ¬ cAt t e = 32 := fun e2 => h44 (by rw [e2]; rfl)
          have eB : isBc (cAt t e) = false := by simp only [isBc]; rw [decide_eq_false e30, decide_eq_false e44]; rfl
          have eR : scn t isBc (r + 1) e = e := by simp only [scn]; rw [if_neg (by rw [eB]; decide)]
          rw [eR] at kk
          exact kk F hT h3 hN
        · have eB : isBc (cAt t e) = true := by simp only [isBc]; rw [decide_eq_true (nI_inj (b := 32) h44 (by omega) (by omega)), Bool.or_true]
          refine d_run 2 rfl ?_
          refine d_gI k69_49 (by first | assumption | exact Nat.le_of_ble_eq_true rfl | omega) ⟨rfl, rfl, Or.inl rfl⟩ ?_
          rw [h3]
          refine d_run 2 rfl ?_
          rw [show ibop 0 (nI e) 1 = nI (e + 1) from nI_1 e]
          refine d_pI k69_54 (by first | assumption | exact Nat.le_of_ble_eq_true rfl | omega) ⟨rfl, rfl⟩ ?_
          refine d_run 1 rfl ?_
          have eR : scn t isBc (r + 1) e = scn t isBc r (e + 1) := by simp only [scn]; rw [if_pos eB]
          rw [eR] at kk
          exact ih (e + 1) _ (by omega) (hT.u5 (by decide)) (by rw [uF_r, pk_us]) (hN.tr (CNx.u (by decide))) kk
theorem l_nx {F0 : FT} (hw : wfTp t) (hd : 5 ≤ d) (hT : CTp F t) (hp : p ≤ t.1) (h3 : F 5 0 3 = nI p) (hN : CNx F0 G F G) : Td E d 69 60 [some (vr 5 0)] [] x F G b none (fun F2 G2 => CRd F2 G2 t p ∧ CNx F0 G F2 G2) := by
  have hlen := hT.2.1
  have hT4 : CTp (uF F 5 0 4 (nI p)) t := hT.u5 (by decide)
  have h34 : uF F 5 0 4 (nI p) 5 0 3 = nI p := by rw [uF_r, pk_un (by decide)]; exact h3
  have h44 : uF F 5 0 4 (nI p) 5 0 4 = nI p := by rw [uF_r, pk_us]
  have hN4 : CNx F0 G (uF F 5 0 4 (nI p)) G := hN.tr (CNx.u (by decide))
  have hSg : p < t.1 → uF F 5 0 4 (nI p) 6 0 p = nI (cAt t p) := fun h => by rw [uF_k (by decide)]; exact (hT.2.2 p h).trans (cAt_c hw h).1
  refine d_run 2 rfl ?_
  refine d_gI k69_62 (by first | assumption | exact Nat.le_of_ble_eq_true rfl | omega) ⟨rfl, rfl, Or.inl rfl⟩ ?_
  rw [h3]
  refine d_pI k69_65 (by first | assumption | exact Nat.le_of_ble_eq_true rfl | omega) ⟨rfl, rfl⟩ ?_
  refine d_run 1 rfl ?_
  refine d_gI k69_69 (by first | assumption | exact Nat.le_of_ble_eq_true rfl | omega) ⟨rfl, rfl, Or.inl rfl⟩ ?_
  rw [h34]
  refine d_run 1 rfl ?_
  refine d_gI k69_73 (by first | assumption | exact Nat.le_of_ble_eq_true rfl | omega) ⟨rfl, rfl, Or.inl rfl⟩ ?_
  rw [hT4.1]
  refine d_ic_lt k69_76 (fun h76 => ?_) (fun h76 => ?_)
  · have h76 := gt_nI (a := t.1) (b := p) h76 rfl (by omega) (by omega)
    have hcc := (cAt_c hw h76).2
    refine d_run 1 rfl ?_
    refine d_gR k69_88 (by first | assumption | exact Nat.le_of_ble_eq_true rfl | omega) ⟨rfl, rfl, rfl⟩ rfl ?_
    refine d_run 1 rfl ?_
    refine d_gI k69_92 (by first | assumption | exact Nat.le_of_ble_eq_true rfl | omega) ⟨rfl, rfl, Or.inl rfl⟩ ?_
    rw [h34]
    refine d_ia (N := 1000) (j := p) k69_95 (by decide) (by first | assumption | exact Nat.le_of_ble_eq_true rfl | omega) ⟨⟨rfl, rfl⟩, rfl, rfl⟩ (show p < 1000 by omega) rfl ?_
    rw [hSg h76]
    refine d_callT 1 k69_96 (by omega) (Nat.le_of_ble_eq_true rfl) rfl (Nat.le_of_ble_eq_true rfl) (Nat.le_of_ble_eq_true rfl) recv_st rfl (c_isLet hcc) rfl ?_
    refine d_if_eq k69_99 (fun h99 => ?_) (fun h99 => ?_)
    · rw [b2i0] at h99
      refine d_run 1 rfl ?_
      refine d_gR k69_110 (by first | assumption | exact Nat.le_of_ble_eq_true rfl | omega) ⟨rfl, rfl, rfl⟩ rfl ?_
      refine d_run 1 rfl ?_
      refine d_gI k69_114 (by first | assumption | exact Nat.le_of_ble_eq_true rfl | omega) ⟨rfl, rfl, Or.inl rfl⟩ ?_
      rw [h34]
      refine d_ia (N := 1000) (j := p) k69_117 (by decide) (by first | assumption | exact Nat.le_of_ble_eq_true rfl | omega) ⟨⟨rfl, rfl⟩, rfl, rfl⟩ (show p < 1000 by omega) rfl ?_
      rw [hSg h76]
      refine d_callT 1 k69_118 (by omega) (Nat.le_of_ble_eq_true rfl) rfl (Nat.le_of_ble_eq_true rfl) (Nat.le_of_ble_eq_true rfl) recv_st rfl (c_isDig hcc) rfl ?_
      refine d_if_eq k69_121 (fun h121 => ?_) (fun h121 => ?_)
      · rw [b2i0] at h121
        refine d_run 3 rfl ?_
        refine d_gR k69_135 (by first | assumption | exact Nat.le_of_ble_eq_true rfl | omega) ⟨rfl, rfl, rfl⟩ rfl ?_
        refine d_run 1 rfl ?_
        refine d_gI k69_139 (by first | assumption | exact Nat.le_of_ble_eq_true rfl | omega) ⟨rfl, rfl, Or.inl rfl⟩ ?_
        rw [h34]
        refine d_ia (N := 1000) (j := p) k69_142 (by decide) (by first | assumption | exact Nat.le_of_ble_eq_true rfl | omega) ⟨⟨rfl, rfl⟩, rfl, rfl⟩ (show p < 1000 by omega) rfl ?_
        rw [hSg h76]
        refine d_callT 2 k69_143 (by omega) (Nat.le_of_ble_eq_true rfl) rfl (Nat.le_of_ble_eq_true rfl) (Nat.le_of_ble_eq_true rfl) (recv_s (by first | assumption | decide)) rfl (c_ix (n := 0) (by decide) hcc (by decide) (by omega)) rfl ?_
        refine d_if_lt k69_146 (fun h146 => ?_) (fun h146 => ?_)
        · rw [isSc_ix _ hcc] at h146
          have eK : tK t p = 4 := by unfold tK; rw [if_neg (by omega), if_neg (by rw [h99]; decide), if_neg (by rw [h121]; decide), if_neg (by rw [h146]; decide)]
          refine d_run 1 rfl ?_
          refine d_pI k69_154 (by first | assumption | exact Nat.le_of_ble_eq_true rfl | omega) ⟨rfl, rfl⟩ ?_
          refine d_run 2 rfl ?_
          refine d_gR k69_159 (by first | assumption | exact Nat.le_of_ble_eq_true rfl | omega) ⟨rfl, rfl, rfl⟩ rfl ?_
          refine d_run 1 rfl ?_
          refine d_gI k69_163 (by first | assumption | exact Nat.le_of_ble_eq_true rfl | omega) ⟨rfl, rfl, Or.inl rfl⟩ ?_
          rw [uF_r, pk_un (by decide), h34]
          refine d_ia (N := 1000) (j := p) k69_166 (by decide) (by first | assumption | exact Nat.le_of_ble_eq_true rfl | omega) ⟨⟨rfl, rfl⟩, rfl, rfl⟩ (show p < 1000 by omega) rfl ?_
          rw [uF_k (by decide), hSg h76]
          refine d_pI k69_167 (by first | assumption | exact Nat.le_of_ble_eq_true rfl | omega) ⟨rfl, rfl⟩ ?_
          refine d_run 2 rfl ?_
          refine d_gI k69_172 (by first | assumption | exact Nat.le_of_ble_eq_true rfl | omega) ⟨rfl, rfl, Or.inl rfl⟩ ?_
          rw [uF_r, pk_un (by decide), uF_r, pk_un (by decide), h34]
          refine d_run 2 rfl ?_
          rw [show ibop 0 (nI p) 1 = nI (p + 1) from nI_1 p]
          refine d_pI k69_177 (by first | assumption | exact Nat.le_of_ble_eq_true rfl | omega) ⟨rfl, rfl⟩ ?_
          refine d_ret k69_180 ?_
          first
          | (have eK : tK t p = 0 := tK_0.mpr h76
             have eE : tE t p = p := by unfold tE; rw [if_pos h76]
             refine ⟨⟨hT4.u5 (by decide), hw, ?_, ?_, ?_, fun e => absurd e (by omega), fun e => absurd e (by omega), fun e => absurd e (by omega), hp⟩, hN4.tr (CNx.u (by decide))⟩
             · rw [uF_r, pk_us, eK]; rfl
             · rw [uF_r, pk_un (by decide)]; exact h34
             · rw [uF_r, pk_un (by decide), eE]; exact h44)
          | (have eE : tE t p = scn t isLc (t.1 - p) p := by unfold tE; rw [if_neg (by omega), if_pos h99]
             have eK : tK t p = if tE t p - p ≤ 8 then 1 else 4 := by unfold tK; rw [if_neg (by omega), if_pos h99]
             have n2 : tK t p ≠ 2 ∧ tK t p ≠ 3 := by rw [eK]; split <;> decide
             refine ⟨⟨a1, hw, ?_, a2, ?_, fun _ => ?_, fun e => absurd e n2.1, fun e => absurd e n2.2, hp⟩, hN4.tr a6⟩
             · rw [eK, eE]; exact a5
             · rw [eE]; exact a3
             · rw [a4, tW, eE])
          | (have eE : tE t p = scn t isDc (t.1 - p) p := by unfold tE; rw [if_neg (by omega), if_neg (by rw [h99]; decide), if_pos h121]
             have eK : tK t p = if tE t p - p ≤ 4 then 2 else 4 := by unfold tK; rw [if_neg (by omega), if_neg (by rw [h99]; decide), if_pos h121]
             have n2 : tK t p ≠ 1 ∧ tK t p ≠ 3 := by rw [eK]; split <;> decide
             refine ⟨⟨a1, hw, ?_, a2, ?_, fun e => absurd e n2.1, fun _ => ?_, fun e => absurd e n2.2, hp⟩, hN4.tr a6⟩
             · rw [eK, eE]; exact a5
             · rw [eE]; exact a3
             · rw [a4, tV, eE])
          | (have eE : tE t p = p + 1 := by unfold tE; rw [if_neg (by omega), if_neg (by rw [h99]; decide), if_neg (by rw [h121]; decide)]
             refine ⟨⟨((hT4.u5 (by decide)).u5 (by decide)).u5 (by decide), hw, ?_, ?_, ?_, fun e => absurd e (by rw [eK]; decide), fun e => absurd e (by rw [eK]; decide), fun e => ?_, hp⟩, hN4.tr ((CNx.u (by decide)).tr ((CNx.u (by decide)).tr (CNx.u (by decide))))⟩
             · rw [uF_r, pk_un (by decide), uF_r, pk_un (by decide), uF_r, pk_us, eK]; rfl
             · rw [uF_r, pk_un (by decide), uF_r, pk_un (by decide), uF_r, pk_un (by decide)]; exact h34
             · rw [uF_r, pk_us, eE]
             · rw [uF_r, pk_un (by decide), uF_r, pk_us])
        · rw [isSc_ix _ hcc, Bool.not_eq_false] at h146
          have eK : tK t p = 3 := by unfold tK; rw [if_neg (by omega), if_neg (by rw [h99]; decide), if_neg (by rw [h121]; decide), if_pos h146]
          refine d_run 2 rfl ?_
          refine d_pI k69_154 (by first | assumption | exact Nat.le_of_ble_eq_true rfl | omega) ⟨rfl, rfl⟩ ?_
          refine d_run 2 rfl ?_
          refine d_gR k69_159 (by first | assumption | exact Nat.le_of_ble_eq_true rfl | omega) ⟨rfl, rfl, rfl⟩ rfl ?_
          refine d_run 1 rfl ?_
          refine d_gI k69_163 (by first | assumption | exact Nat.le_of_ble_eq_true rfl | omega) ⟨rfl, rfl, Or.inl rfl⟩ ?_
          rw [uF_r, pk_un (by decide), h34]
          refine d_ia (N := 1000) (j := p) k69_166 (by decide) (by first | assumption | exact Nat.le_of_ble_eq_true rfl | omega) ⟨⟨rfl, rfl⟩, rfl, rfl⟩ (show p < 1000 by omega) rfl ?_
          rw [uF_k (by decide), hSg h76]
          refine d_pI k69_167 (by first | assumption | exact Nat.le_of_ble_eq_true rfl | omega) ⟨rfl, rfl⟩ ?_
          refine d_run 2 rfl ?_
          refine d_gI k69_172 (by first | assumption | exact Nat.le_of_ble_eq_true rfl | omega) ⟨rfl, rfl, Or.inl rfl⟩ ?_
          rw [uF_r, pk_un (by decide), uF_r, pk_un (by decide), h34]
          refine d_run 2 rfl ?_
          rw [show ibop 0 (nI p) 1 = nI (p + 1) from nI_1 p]
          refine d_pI k69_177 (by first | assumption | exact Nat.le_of_ble_eq_true rfl | omega) ⟨rfl, rfl⟩ ?_
          refine d_ret k69_180 ?_
          first
          | (have eK : tK t p = 0 := tK_0.mpr h76
             have eE : tE t p = p := by unfold tE; rw [if_pos h76]
             refine ⟨⟨hT4.u5 (by decide), hw, ?_, ?_, ?_, fun e => absurd e (by omega), fun e => absurd e (by omega), fun e => absurd e (by omega), hp⟩, hN4.tr (CNx.u (by decide))⟩
             · rw [uF_r, pk_us, eK]; rfl
             · rw [uF_r, pk_un (by decide)]; exact h34
             · rw [uF_r, pk_un (by decide), eE]; exact h44)
          | (have eE : tE t p = scn t isLc (t.1 - p) p := by unfold tE; rw [if_neg (by omega), if_pos h99]
             have eK : tK t p = if tE t p - p ≤ 8 then 1 else 4 := by unfold tK; rw [if_neg (by omega), if_pos h99]
             have n2 : tK t p ≠ 2 ∧ tK t p ≠ 3 := by rw [eK]; split <;> decide
             refine ⟨⟨a1, hw, ?_, a2, ?_, fun _ => ?_, fun e => absurd e n2.1, fun e => absurd e n2.2, hp⟩, hN4.tr a6⟩
             · rw [eK, eE]; exact a5
             · rw [eE]; exact a3
             · rw [a4, tW, eE])
          | (have eE : tE t p = scn t isDc (t.1 - p) p := by unfold tE; rw [if_neg (by omega), if_neg (by rw [h99]; decide), if_pos h121]
             have eK : tK t p = if tE t p - p ≤ 4 then 2 else 4 := by unfold tK; rw [if_neg (by omega), if_neg (by rw [h99]; decide), if_pos h121]
             have n2 : tK t p ≠ 1 ∧ tK t p ≠ 3 := by rw [eK]; split <;> decide
             refine ⟨⟨a1, hw, ?_, a2, ?_, fun e => absurd e n2.1, fun _ => ?_, fun e => absurd e n2.2, hp⟩, hN4.tr a6⟩
             · rw [eK, eE]; exact a5
             · rw [eE]; exact a3
             · rw [a4, tV, eE])
          | (have eE : tE t p = p + 1 := by unfold tE; rw [if_neg (by omega), if_neg (by rw [h99]; decide), if_neg (by rw [h121]; decide)]
             refine ⟨⟨((hT4.u5 (by decide)).u5 (by decide)).u5 (by decide), hw, ?_, ?_, ?_, fun e => absurd e (by rw [eK]; decide), fun e => absurd e (by rw [eK]; decide), fun e => ?_, hp⟩, hN4.tr ((CNx.u (by decide)).tr ((CNx.u (by decide)).tr (CNx.u (by decide))))⟩
             · rw [uF_r, pk_un (by decide), uF_r, pk_un (by decide), uF_r, pk_us, eK]; rfl
             · rw [uF_r, pk_un (by decide), uF_r, pk_un (by decide), uF_r, pk_un (by decide)]; exact h34
             · rw [uF_r, pk_us, eE]
             · rw [uF_r, pk_un (by decide), uF_r, pk_us])
      · rw [b2i0, Bool.not_eq_false] at h121
        refine d_run 1 rfl ?_
        refine d_call 1 k69_125 (by omega) (Nat.le_of_ble_eq_true rfl) rfl (Nat.le_of_ble_eq_true rfl) (Nat.le_of_ble_eq_true rfl) (recv_ok rfl (by first | assumption | exact Nat.le_of_ble_eq_true rfl | omega)) rfl (c_scN hw (by omega) hT4 hp h34 h44) rfl ?_
        rintro F2 G2 ⟨a1, a2, a3, a4, a5, a6⟩
        refine d_run 1 rfl ?_
        refine d_ret k69_180 ?_
        first
        | (have eK : tK t p = 0 := tK_0.mpr h76
           have eE : tE t p = p := by unfold tE; rw [if_pos h76]
           refine ⟨⟨hT4.u5 (by decide), hw, ?_, ?_, ?_, fun e => absurd e (by omega), fun e => absurd e (by omega), fun e => absurd e (by omega), hp⟩, hN4.tr (CNx.u (by decide))⟩
           · rw [uF_r, pk_us, eK]; rfl
           · rw [uF_r, pk_un (by decide)]; exact h34
           · rw [uF_r, pk_un (by decide), eE]; exact h44)
        | (have eE : tE t p = scn t isLc (t.1 - p) p := by unfold tE; rw [if_neg (by omega), if_pos h99]
           have eK : tK t p = if tE t p - p ≤ 8 then 1 else 4 := by unfold tK; rw [if_neg (by omega), if_pos h99]
           have n2 : tK t p ≠ 2 ∧ tK t p ≠ 3 := by rw [eK]; split <;> decide
           refine ⟨⟨a1, hw, ?_, a2, ?_, fun _ => ?_, fun e => absurd e n2.1, fun e => absurd e n2.2, hp⟩, hN4.tr a6⟩
           · rw [eK, eE]; exact a5
           · rw [eE]; exact a3
           · rw [a4, tW, eE])
        | (have eE : tE t p = scn t isDc (t.1 - p) p := by unfold tE; rw [if_neg (by omega), if_neg (by rw [h99]; decide), if_pos h121]
           have eK : tK t p = if tE t p - p ≤ 4 then 2 else 4 := by unfold tK; rw [if_neg (by omega), if_neg (by rw [h99]; decide), if_pos h121]
           have n2 : tK t p ≠ 1 ∧ tK t p ≠ 3 := by rw [eK]; split <;> decide
           refine ⟨⟨a1, hw, ?_, a2, ?_, fun e => absurd e n2.1, fun _ => ?_, fun e => absurd e n2.2, hp⟩, hN4.tr a6⟩
           · rw [eK, eE]; exact a5
           · rw [eE]; exact a3
           · rw [a4, tV, eE])
        | (have eE : tE t p = p + 1 := by unfold tE; rw [if_neg (by omega), if_neg (by rw [h99]; decide), if_neg (by rw [h121]; decide)]
           refine ⟨⟨((hT4.u5 (by decide)).u5 (by decide)).u5 (by decide), hw, ?_, ?_, ?_, fun e => absurd e (by rw [eK]; decide), fun e => absurd e (by rw [eK]; decide), fun e => ?_, hp⟩, hN4.tr ((CNx.u (by decide)).tr ((CNx.u (by decide)).tr (CNx.u (by decide))))⟩
           · rw [uF_r, pk_un (by decide), uF_r, pk_un (by decide), uF_r, pk_us, eK]; rfl
           · rw [uF_r, pk_un (by decide), uF_r, pk_un (by decide), uF_r, pk_un (by decide)]; exact h34
           · rw [uF_r, pk_us, eE]
           · rw [uF_r, pk_un (by decide), uF_r, pk_us])
    · rw [b2i0, Bool.not_eq_false] at h99
      refine d_run 1 rfl ?_
      refine d_call 1 k69_103 (by omega) (Nat.le_of_ble_eq_true rfl) rfl (Nat.le_of_ble_eq_true rfl) (Nat.le_of_ble_eq_true rfl) (recv_ok rfl (by first | assumption | exact Nat.le_of_ble_eq_true rfl | omega)) rfl (c_scW hw (by omega) hT4 hp h34 h44) rfl ?_
      rintro F2 G2 ⟨a1, a2, a3, a4, a5, a6⟩
      refine d_run 1 rfl ?_
      refine d_ret k69_180 ?_
      first
      | (have eK : tK t p = 0 := tK_0.mpr h76
         have eE : tE t p = p := by unfold tE; rw [if_pos h76]
         refine ⟨⟨hT4.u5 (by decide), hw, ?_, ?_, ?_, fun e => absurd e (by omega), fun e => absurd e (by omega), fun e => absurd e (by omega), hp⟩, hN4.tr (CNx.u (by decide))⟩
         · rw [uF_r, pk_us, eK]; rfl
         · rw [uF_r, pk_un (by decide)]; exact h34
         · rw [uF_r, pk_un (by decide), eE]; exact h44)
      | (have eE : tE t p = scn t isLc (t.1 - p) p := by unfold tE; rw [if_neg (by omega), if_pos h99]
         have eK : tK t p = if tE t p - p ≤ 8 then 1 else 4 := by unfold tK; rw [if_neg (by omega), if_pos h99]
         have n2 : tK t p ≠ 2 ∧ tK t p ≠ 3 := by rw [eK]; split <;> decide
         refine ⟨⟨a1, hw, ?_, a2, ?_, fun _ => ?_, fun e => absurd e n2.1, fun e => absurd e n2.2, hp⟩, hN4.tr a6⟩
         · rw [eK, eE]; exact a5
         · rw [eE]; exact a3
         · rw [a4, tW, eE])
      | (have eE : tE t p = scn t isDc (t.1 - p) p := by unfold tE; rw [if_neg (by omega), if_neg (by rw [h99]; decide), if_pos h121]
         have eK : tK t p = if tE t p - p ≤ 4 then 2 else 4 := by unfold tK; rw [if_neg (by omega), if_neg (by rw [h99]; decide), if_pos h121]
         have n2 : tK t p ≠ 1 ∧ tK t p ≠ 3 := by rw [eK]; split <;> decide
         refine ⟨⟨a1, hw, ?_, a2, ?_, fun e => absurd e n2.1, fun _ => ?_, fun e => absurd e n2.2, hp⟩, hN4.tr a6⟩
         · rw [eK, eE]; exact a5
         · rw [eE]; exact a3
         · rw [a4, tV, eE])
      | (have eE : tE t p = p + 1 := by unfold tE; rw [if_neg (by omega), if_neg (by rw [h99]; decide), if_neg (by rw [h121]; decide)]
         refine ⟨⟨((hT4.u5 (by decide)).u5 (by decide)).u5 (by decide), hw, ?_, ?_, ?_, fun e => absurd e (by rw [eK]; decide), fun e => absurd e (by rw [eK]; decide), fun e => ?_, hp⟩, hN4.tr ((CNx.u (by decide)).tr ((CNx.u (by decide)).tr (CNx.u (by decide))))⟩
         · rw [uF_r, pk_un (by decide), uF_r, pk_un (by decide), uF_r, pk_us, eK]; rfl
         · rw [uF_r, pk_un (by decide), uF_r, pk_un (by decide), uF_r, pk_un (by decide)]; exact h34
         · rw [uF_r, pk_us, eE]
         · rw [uF_r, pk_un (by decide), uF_r, pk_us])
  · have h76 := le_nI (a := t.1) (b := p) h76 rfl (by omega) (by omega)
    refine d_run 2 rfl ?_
    refine d_pI k69_81 (by first | assumption | exact Nat.le_of_ble_eq_true rfl | omega) ⟨rfl, rfl⟩ ?_
    refine d_run 1 rfl ?_
    refine d_ret k69_180 ?_
    first
    | (have eK : tK t p = 0 := tK_0.mpr h76
       have eE : tE t p = p := by unfold tE; rw [if_pos h76]
       refine ⟨⟨hT4.u5 (by decide), hw, ?_, ?_, ?_, fun e => absurd e (by omega), fun e => absurd e (by omega), fun e => absurd e (by omega), hp⟩, hN4.tr (CNx.u (by decide))⟩
       · rw [uF_r, pk_us, eK]; rfl
       · rw [uF_r, pk_un (by decide)]; exact h34
       · rw [uF_r, pk_un (by decide), eE]; exact h44)
    | (have eE : tE t p = scn t isLc (t.1 - p) p := by unfold tE; rw [if_neg (by omega), if_pos h99]
       have eK : tK t p = if tE t p - p ≤ 8 then 1 else 4 := by unfold tK; rw [if_neg (by omega), if_pos h99]
       have n2 : tK t p ≠ 2 ∧ tK t p ≠ 3 := by rw [eK]; split <;> decide
       refine ⟨⟨a1, hw, ?_, a2, ?_, fun _ => ?_, fun e => absurd e n2.1, fun e => absurd e n2.2, hp⟩, hN4.tr a6⟩
       · rw [eK, eE]; exact a5
       · rw [eE]; exact a3
       · rw [a4, tW, eE])
    | (have eE : tE t p = scn t isDc (t.1 - p) p := by unfold tE; rw [if_neg (by omega), if_neg (by rw [h99]; decide), if_pos h121]
       have eK : tK t p = if tE t p - p ≤ 4 then 2 else 4 := by unfold tK; rw [if_neg (by omega), if_neg (by rw [h99]; decide), if_pos h121]
       have n2 : tK t p ≠ 1 ∧ tK t p ≠ 3 := by rw [eK]; split <;> decide
       refine ⟨⟨a1, hw, ?_, a2, ?_, fun e => absurd e n2.1, fun _ => ?_, fun e => absurd e n2.2, hp⟩, hN4.tr a6⟩
       · rw [eK, eE]; exact a5
       · rw [eE]; exact a3
       · rw [a4, tV, eE])
    | (have eE : tE t p = p + 1 := by unfold tE; rw [if_neg (by omega), if_neg (by rw [h99]; decide), if_neg (by rw [h121]; decide)]
       refine ⟨⟨((hT4.u5 (by decide)).u5 (by decide)).u5 (by decide), hw, ?_, ?_, ?_, fun e => absurd e (by rw [eK]; decide), fun e => absurd e (by rw [eK]; decide), fun e => ?_, hp⟩, hN4.tr ((CNx.u (by decide)).tr ((CNx.u (by decide)).tr (CNx.u (by decide))))⟩
       · rw [uF_r, pk_un (by decide), uF_r, pk_un (by decide), uF_r, pk_us, eK]; rfl
       · rw [uF_r, pk_un (by decide), uF_r, pk_un (by decide), uF_r, pk_un (by decide)]; exact h34
       · rw [uF_r, pk_us, eE]
       · rw [uF_r, pk_un (by decide), uF_r, pk_us])
theorem c_next (hw : wfTp t) (hd : 5 ≤ d) (hT : CTp F t) (hp : p ≤ t.1) (h4 : F 5 0 4 = nI p) : Td E d 69 0 [some (vr 5 0)] [] x F G b none (fun F2 G2 => CRd F2 G2 t (tB t p) ∧ CNx F G F2 G2) := by
  refine d_run 2 rfl ?_
  refine d_gI k69_2 (by first | assumption | exact Nat.le_of_ble_eq_true rfl | omega) ⟨rfl, rfl, Or.inl rfl⟩ ?_
  rw [h4]
  refine d_pI k69_5 (by first | assumption | exact Nat.le_of_ble_eq_true rfl | omega) ⟨rfl, rfl⟩ ?_
  exact l_skip (F0 := F) hw (t.1 - p) p _ (by omega) (hT.u5 (by decide)) (by rw [uF_r, pk_us]) (CNx.u (by decide)) (fun F2 a1 a2 a3 => l_nx hw hd a1 (tB_le hp).2 a2 a3)
theorem c_nx (hd : 5 ≤ d) (h : CRd F G t p) : Td E d 69 0 [some (vr 5 0)] [] x F G b none (fun F2 G2 => CRd F2 G2 t (tN t p) ∧ CNx F G F2 G2) := c_next h.2.1 hd h.1 (tE_le h.2.2.2.2.2.2.2.2).2 h.2.2.2.2.1
end T1
