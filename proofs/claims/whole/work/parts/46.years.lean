/-! YEARS OF THE CLASS -/
theorem lN_bv0 (n : Nat) : (Int64.ofNat n).toBitVec = BitVec.ofNat 64 n := by
  rfl
theorem rnd_ex : ∃ f : Nat → Nat, ∀ g, f g = (g * 1103515245 + 12345) % 2147483648 := ⟨fun g => (g * 1103515245 + 12345) % 2147483648, fun _ => rfl⟩
noncomputable def rnd : Nat → Nat := Classical.choose rnd_ex
theorem rnd_eq (g : Nat) : rnd g = (g * 1103515245 + 12345) % 2147483648 := Classical.choose_spec rnd_ex g
theorem rnd_lt (g : Nat) : rnd g < 2147483648 := by
  rw [rnd_eq]
  exact Nat.mod_lt _ (by decide)
theorem lN_mask31 (n : Nat) : lN n &&& 2147483647 = lN (n % 2147483648) := by
  show Int64.ofNat n &&& _ = Int64.ofNat _
  rw [← Int64.toBitVec_inj]
  apply BitVec.eq_of_toNat_eq
  rw [Int64.toBitVec_and, BitVec.toNat_and]
  have e1 : (Int64.ofNat n).toBitVec = BitVec.ofNat 64 n := lN_bv0 n
  have e2 : (Int64.ofNat (n % 2147483648)).toBitVec = BitVec.ofNat 64 (n % 2147483648) := lN_bv0 _
  rw [e1, e2, BitVec.toNat_ofNat, BitVec.toNat_ofNat]
  have e3 : (2147483647 : Int64).toBitVec.toNat = 2 ^ 31 - 1 := by decide
  rw [e3, Nat.and_two_pow_sub_one_eq_mod]
  omega
theorem rnd_L (g : Nat) (hg : g < 2147483648) : lbop 3 (lbop 0 (lbop 2 (lN g) 1103515245) 12345) 2147483647 = lN (rnd g) := by
  show (lN g * 1103515245 + 12345) &&& 2147483647 = _
  rw [show (1103515245 : Int64) = lN 1103515245 from rfl, show (12345 : Int64) = lN 12345 from rfl, lN_mul, lN_add, lN_mask31, rnd_eq]
theorem drw_L {g m : Nat} (hm : 0 < m) (hm2 : m ≤ 1000) : (lN (rnd g) / 65536 - lN (rnd g) / 65536 / (nI m).toInt64 * (nI m).toInt64).toInt32 = nI (rnd g / 65536 % m) := by
  have h1 := rnd_lt g
  have h2 : rnd g / 65536 < 2147483648 := Nat.lt_of_le_of_lt (Nat.div_le_self _ _) h1
  rw [nI_l (by omega), show (65536 : Int64) = lN 65536 from rfl, pk_lDiv (by omega) (by decide) (by decide), pk_lRem (by omega) hm (by omega), lN_i]
def lifF (p : Nat) (s : ST) : ST := if bit (sSn s) p = true then repA s p else s
noncomputable def lifW (A : LA) (j : ST × Nat) : ST × Nat := if 0 < lP A then (if cwkA A j.1 (rnd j.2 / 65536 % lP A) (rnd (rnd j.2) / 65536 % lS A) = true then wlkA j.1 (rnd j.2 / 65536 % lP A) (rnd (rnd j.2) / 65536 % lS A) else j.1, rnd (rnd j.2)) else j
noncomputable def lifM (A : LA) (j : ST × Nat) : ST × Nat := (if rnd j.2 / 65536 % 9 = 0 then lpN lifF 0 (lP A) (hourA A j.1) else hourA A j.1, rnd j.2)
noncomputable def lifH (A : LA) (_ : Nat) (j : ST × Nat) : ST × Nat := lifM A (lifW A j)
noncomputable def q_years (o : SG) (u v w : Int32) : Int32 := if (isW2 u 0 9999 && isW2 v 1 99 && isW2 w 0 2) = true then (if w = 0 then sWi (lpN (lifH (gA o)) 0 (ix v) (gS o, ix u)).1 - sWi (gS o) else if w = 1 then sSp (lpN (lifH (gA o)) 0 (ix v) (gS o, ix u)).1 - sSp (gS o) else bset (sitA (lpN (lifH (gA o)) 0 (ix v) (gS o, ix u)).1) (lP (gA o))) else -1
theorem lifF_wf {A : LA} {s : ST} {p : Nat} (hA : wfL A) (h : wfS A s) (hp : p < lP A) : wfS A (lifF p s) := by
  unfold lifF
  split
  · exact wfS_rep hA h hp
  · exact h
theorem lpF_wf {A : LA} (hA : wfL A) : ∀ (k i : Nat) (s : ST), i + k ≤ lP A → wfS A s → wfS A (lpN lifF i k s)
  | 0, _, _, _, h => h
  | k + 1, i, s, hi, h => lpF_wf hA k (i + 1) _ (by omega) (lifF_wf hA h (by omega))
theorem lifH_wf {A : LA} {j : ST × Nat} {i : Nat} (hA : wfL A) (h : wfS A j.1) : wfS A (lifH A i j).1 := by
  have h1 : wfS A (lifW A j).1 := by
    unfold lifW
    split
    · rename_i hp
      simp only
      split
      · exact wfS_wlk h (Nat.mod_lt _ (hA.2.2.1 hp))
      · exact h
    · exact h
  unfold lifH lifM
  simp only
  split
  · exact lpF_wf hA _ _ _ (by omega) (wfS_hour hA h1)
  · exact wfS_hour hA h1
theorem lifH_lt {A : LA} {j : ST × Nat} {i : Nat} : (lifH A i j).2 < 2147483648 := rnd_lt _
theorem lifW_lt {A : LA} {j : ST × Nat} (h : j.2 < 2147483648) : (lifW A j).2 < 2147483648 := by
  unfold lifW
  split
  · exact rnd_lt _
  · exact h
theorem lifW_wf {A : LA} {j : ST × Nat} (hA : wfL A) (h : wfS A j.1) : wfS A (lifW A j).1 := by
  unfold lifW
  split
  · rename_i hp
    simp only
    split
    · exact wfS_wlk h (Nat.mod_lt _ (hA.2.2.1 hp))
    · exact h
  · exact h
theorem uG_k {G : GT} {k n i k2 : Nat} {v : Int64} (h : k2 ≠ k) : uG G k n i v k2 = G k2 := by
  funext n2 i2
  simp [uG, h]
theorem uG_s {G : GT} {k n i : Nat} {v : Int64} : uG G k n i v k n i = v := by simp [uG]
theorem CPost.qg {b : Bool} {o : SG} {F F2 : FT} {G G2 : GT} (h : CInv F G b o) (hf : FrD dQ F F2) (hG : ∀ k, k ≠ 1 → G2 k = G k) : CPost b o F G F2 G2 := ⟨h.fr hf hG, dQ_Cl hf, fun k hk => hG k (by omega)⟩
theorem CPost.q3 {b : Bool} {o : SG} {F F1 F2 : FT} {G G1 G2 : GT} (hf : FrD dQ F F1) (hG : ∀ k, k ≠ 1 → G1 k = G k) (k : CPost b o F1 G1 F2 G2) : CPost b o F G F2 G2 := ⟨k.1, (dQ_Cl hf).tr k.2.1, fun j hj => (k.2.2 j hj).trans (hG j (by omega))⟩
theorem isW2_ex {u lo hi : Int32} {H : Nat} (h : isW2 u lo hi = true) (h0 : 0 ≤ lo ∧ hi = nI H ∧ H ≤ 100000) : ∃ p, p ≤ H ∧ u = nI p := by
  simp only [isW2, Bool.and_eq_true, decide_eq_true_eq] at h
  obtain ⟨p, hp, rfl⟩ := nI_of (Int32.not_lt.mpr (Int32.le_trans h0.1 h.1))
  refine ⟨p, ?_, rfl⟩
  have h2 := h.2
  rw [h0.2.1] at h2
  exact (nI_leI hp (by omega)).mp h2
section P6
variable {E : EV} {d x gg : Nat} {F : FT} {G : GT} {b : Bool} {o : SG} {u v w : Int32}
theorem a_draw {m : Nat} (hm : 0 < m) (hm2 : m ≤ 1000) (hG : G 1 0 14 = lN gg) (hg : gg < 2147483648) : Td E d 126 0 [some (vr 1 0), some (vi (nI m))] [] x F G b (some (vi (nI (rnd gg / 65536 % m)))) (fun F2 G2 => F2 = F ∧ G2 = uG G 1 0 14 (lN (rnd gg))) := by
  have hm0 : ¬ (nI m).toInt64 = 0 := by rw [nI_l (by omega), show (0 : Int64) = lN 0 from rfl, lN_eq (by omega) (by decide)]; omega
  refine d_run 2 rfl ?_
  refine d_gL k126_2 (by first | assumption | exact Nat.le_of_ble_eq_true rfl | omega) ⟨rfl, rfl, rfl⟩ ?_
  rw [hG]
  refine d_run 6 rfl ?_
  refine d_pL k126_17 (by first | assumption | exact Nat.le_of_ble_eq_true rfl | omega) ⟨rfl, rfl⟩ ?_
  rw [rnd_L gg hg]
  refine d_run 1 rfl ?_
  refine d_if_le k126_21 (fun h21 => ?_) (fun h21 => ?_)
  · exact absurd (ge_nI (b := m) (a := 0) h21 rfl (by omega) (by omega)) (by omega)
  · refine d_run 1 rfl ?_
    refine d_gL k126_25 (by first | assumption | exact Nat.le_of_ble_eq_true rfl | omega) ⟨rfl, rfl, rfl⟩ ?_
    rw [uG_s]
    refine d_run 4 rfl ?_
    refine d_p k126_34 (by decide) (if_neg hm0) ?_
    refine d_run 2 rfl ?_
    refine d_ir k126_40 rfl (by exact drw_L hm hm2) ?_
    exact ⟨rfl, rfl⟩
theorem l_drawn (hw : WF o) (hd : 50 ≤ d) : ∀ (r i : Nat) (iv : Int32) (s : ST) (F : FT), iv = nI i → i + r = lP (gA o) → CInv F G b o → CS F 21 (lP (gA o)) s → Td E d 127 71 [some (vr 1 0), some (vi iv), none] [] x F G b none (fun F2 G2 => G2 = G ∧ CS F2 21 (lP (gA o)) (lpN lifF i r s) ∧ FrD (dSt 21) F F2) := by
  intro r
  induction r with
  | zero =>
    intro i iv s F hiv hir h hT
    subst hiv
    have hi : i = lP (gA o) := by omega
    have hL := h.2.1
    have hA := hw.1
    have hS := h.2.2.2.1.1
    have hwS := hw.2.1.1
    have hP6 := hA.2.1
    have hS5 := hA.1
    refine d_run 2 rfl ?_
    refine d_gR k127_73 (by first | assumption | exact Nat.le_of_ble_eq_true rfl | omega) ⟨rfl, rfl, rfl⟩ (Rs_land _) ?_
    refine d_gI k127_76 (by first | assumption | exact lx2 _ | exact Nat.le_of_ble_eq_true rfl | omega | exact Nat.lt_of_lt_of_le (m := 2) (by omega) (Nat.le_of_ble_eq_true rfl)) ⟨rfl, rfl, Or.inl rfl⟩ ?_
    refine d_ic_ge k127_79 (fun h79 => ?_) (fun h79 => ?_)
    · refine d_ret k127_107 ?_
      exact ⟨rfl, hT, FrD.rf⟩
    · exact absurd (lt_nI h79 hL.2.1 (by omega) (by omega)) (by omega)
  | succ r ih =>
    intro i iv s F hiv hir h hT
    subst hiv
    have hi : i < lP (gA o) := by omega
    have hL := h.2.1
    have hA := hw.1
    have hS := h.2.2.2.1.1
    have hwS := hw.2.1.1
    have hP6 := hA.2.1
    have hS5 := hA.1
    refine d_run 2 rfl ?_
    refine d_gR k127_73 (by first | assumption | exact Nat.le_of_ble_eq_true rfl | omega) ⟨rfl, rfl, rfl⟩ (Rs_land _) ?_
    refine d_gI k127_76 (by first | assumption | exact lx2 _ | exact Nat.le_of_ble_eq_true rfl | omega | exact Nat.lt_of_lt_of_le (m := 2) (by omega) (Nat.le_of_ble_eq_true rfl)) ⟨rfl, rfl, Or.inl rfl⟩ ?_
    refine d_ic_ge k127_79 (fun h79 => ?_) (fun h79 => ?_)
    · exact absurd (ge_nI h79 hL.2.1 (by omega) (by omega)) (by omega)
    · refine d_run 1 rfl ?_
      refine d_gR k127_83 (by first | assumption | exact Nat.le_of_ble_eq_true rfl | omega) ⟨rfl, rfl, rfl⟩ rfl ?_
      refine d_run 1 rfl ?_
      refine d_callT 2 k127_87 (by omega) (Nat.le_of_ble_eq_true rfl) rfl (Nat.le_of_ble_eq_true rfl) (Nat.le_of_ble_eq_true rfl) (recv_ok rfl (by first | assumption | exact Nat.le_of_ble_eq_true rfl | omega | exact Nat.lt_of_lt_of_le (m := 27) (by omega) (Nat.le_of_ble_eq_true rfl))) rfl (a_snapped (n := 21) (by omega) hT) rfl ?_
      refine d_if_eq k127_90 (fun h90 => ?_) (fun h90 => ?_)
      · rw [b2i0] at h90
        refine d_run 2 rfl ?_
        first
        | (rw [show lpN lifF i (r + 1) s = lpN lifF (i + 1) r (repA s i) by simp [lpN, lifF, h90]]
           exact td_mo (ih (i + 1) _ _ F1 (nI_1 i) (by omega) (h.fr (dSt_Q (by omega) f1) (fun _ _ => rfl)) k1) (fun F2 G2 e => ⟨e.1, e.2.1, f1.tr e.2.2⟩))
        | (rw [show lpN lifF i (r + 1) s = lpN lifF (i + 1) r s by simp [lpN, lifF, h90]]
           exact ih (i + 1) _ _ F (nI_1 i) (by omega) h hT)
      · rw [b2i0, Bool.not_eq_false] at h90
        refine d_run 1 rfl ?_
        refine d_gR k127_94 (by first | assumption | exact Nat.le_of_ble_eq_true rfl | omega) ⟨rfl, rfl, rfl⟩ rfl ?_
        refine d_run 1 rfl ?_
        refine d_call 2 k127_98 (by omega) (Nat.le_of_ble_eq_true rfl) rfl (Nat.le_of_ble_eq_true rfl) (Nat.le_of_ble_eq_true rfl) (recv_ok rfl (by first | assumption | exact Nat.le_of_ble_eq_true rfl | omega | exact Nat.lt_of_lt_of_le (m := 27) (by omega) (Nat.le_of_ble_eq_true rfl))) rfl (a_repair (n := 21) (by omega) hT hP6 hi) rfl ?_
        rintro F1 G1 ⟨rfl, k1, f1⟩
        refine d_run 2 rfl ?_
        first
        | (rw [show lpN lifF i (r + 1) s = lpN lifF (i + 1) r (repA s i) by simp [lpN, lifF, h90]]
           exact td_mo (ih (i + 1) _ _ F1 (nI_1 i) (by omega) (h.fr (dSt_Q (by omega) f1) (fun _ _ => rfl)) k1) (fun F2 G2 e => ⟨e.1, e.2.1, f1.tr e.2.2⟩))
        | (rw [show lpN lifF i (r + 1) s = lpN lifF (i + 1) r s by simp [lpN, lifF, h90]]
           exact ih (i + 1) _ _ F (nI_1 i) (by omega) h hT)
theorem a_drawn2 (hw : WF o) (hd : 50 ≤ d) {j : ST × Nat} (h : CInv F G b o) (hT : CS F 21 (lP (gA o)) j.1) (hG : G 1 0 14 = lN j.2) (hg : j.2 < 2147483648) : Td E d 127 48 [some (vr 1 0), none, none] [] x F G b none (fun F2 G2 => CS F2 21 (lP (gA o)) (lifM (gA o) j).1 ∧ FrD (dSt 21) F F2 ∧ G2 1 0 14 = lN (lifM (gA o) j).2 ∧ ∀ k, k ≠ 1 → G2 k = G k) := by
  have hL := h.2.1
  have hA := hw.1
  have hS := h.2.2.2.1.1
  have hwS := hw.2.1.1
  have hP6 := hA.2.1
  have hS5 := hA.1
  refine d_run 1 rfl ?_
  refine d_gR k127_49 (by first | assumption | exact Nat.le_of_ble_eq_true rfl | omega) ⟨rfl, rfl, rfl⟩ rfl ?_
  refine d_run 1 rfl ?_
  refine d_gR k127_53 (by first | assumption | exact Nat.le_of_ble_eq_true rfl | omega) ⟨rfl, rfl, rfl⟩ (Rs_land _) ?_
  refine d_call 2 k127_56 (by omega) (Nat.le_of_ble_eq_true rfl) rfl (Nat.le_of_ble_eq_true rfl) (Nat.le_of_ble_eq_true rfl) (recv_ok rfl (by first | assumption | exact Nat.le_of_ble_eq_true rfl | omega | exact Nat.lt_of_lt_of_le (m := 27) (by omega) (Nat.le_of_ble_eq_true rfl))) rfl (a_hour (n := 21) (by omega) (lx2 b) hL hA hT (by omega)) rfl ?_
  rintro F1 G1 ⟨rfl, k1, f1⟩
  refine d_run 3 rfl ?_
  refine d_call 2 k127_63 (by omega) (Nat.le_of_ble_eq_true rfl) rfl (Nat.le_of_ble_eq_true rfl) (Nat.le_of_ble_eq_true rfl) (recv_ok rfl (by first | assumption | exact Nat.le_of_ble_eq_true rfl | omega)) rfl (a_draw (m := 9) (gg := j.2) (by omega) (by omega) hG hg) rfl ?_
  rintro F2 G2 ⟨rfl, rfl⟩
  refine d_if_ne k127_66 (fun h66 => ?_) (fun h66 => ?_)
  · have h66 : ¬ rnd j.2 / 65536 % 9 = 0 := fun e => h66 (by rw [e]; rfl)
    simp only [lifM, if_neg h66]
    refine d_ret k127_107 ?_
    exact ⟨k1, f1, uG_s, fun k hk => uG_k hk⟩
  · have h66 : rnd j.2 / 65536 % 9 = 0 := nI_inj (b := 0) h66 (by omega) (by omega)
    simp only [lifM, if_pos h66]
    refine d_run 2 rfl ?_
    refine td_mo (l_drawn hw hd (lP (gA o)) 0 _ _ F2 rfl (by omega) (h.fr (dSt_Q (by omega) f1) (fun k hk => uG_k hk)) k1) ?_
    rintro F3 G3 ⟨rfl, k3, f3⟩
    exact ⟨k3, f1.tr f3, uG_s, fun k hk => uG_k hk⟩
theorem a_drawn (hw : WF o) (hd : 50 ≤ d) {j : ST × Nat} (h : CInv F G b o) (hT : CS F 21 (lP (gA o)) j.1) (hwT : wfS (gA o) j.1) (hG : G 1 0 14 = lN j.2) (hg : j.2 < 2147483648) (i : Nat) : Td E d 127 0 [some (vr 1 0), none, none] [] x F G b none (fun F2 G2 => CS F2 21 (lP (gA o)) (lifH (gA o) i j).1 ∧ FrD (dSt 21) F F2 ∧ G2 1 0 14 = lN (lifH (gA o) i j).2 ∧ ∀ k, k ≠ 1 → G2 k = G k) := by
  have hL := h.2.1
  have hA := hw.1
  have hS := h.2.2.2.1.1
  have hwS := hw.2.1.1
  have hP6 := hA.2.1
  have hS5 := hA.1
  refine d_run 1 rfl ?_
  refine d_gR k127_1 (by first | assumption | exact Nat.le_of_ble_eq_true rfl | omega) ⟨rfl, rfl, rfl⟩ (Rs_land _) ?_
  refine d_gI k127_4 (by first | assumption | exact lx2 _ | exact Nat.le_of_ble_eq_true rfl | omega | exact Nat.lt_of_lt_of_le (m := 2) (by omega) (Nat.le_of_ble_eq_true rfl)) ⟨rfl, rfl, Or.inl rfl⟩ ?_
  rw [hL.2.1]
  refine d_if_le k127_7 (fun h7 => ?_) (fun h7 => ?_)
  · have h7 := ge_nI (b := lP (gA o)) (a := 0) h7 rfl (by omega) (by omega)
    rw [show lifH (gA o) i j = lifM (gA o) j by simp only [lifH, lifW, if_neg (show ¬ 0 < lP (gA o) by omega)]]
    first
    | exact a_drawn2 hw hd h hT hG hg
    | (refine d_dr100 ?_
       refine td_mo (a_drawn2 (j := (if cwkA (gA o) j.1 (rnd j.2 / 65536 % lP (gA o)) (rnd (rnd j.2) / 65536 % lS (gA o)) = true then wlkA j.1 (rnd j.2 / 65536 % lP (gA o)) (rnd (rnd j.2) / 65536 % lS (gA o)) else j.1, rnd (rnd j.2))) hw hd (h.fr (dSt_Q (by omega) f4) (fun k hk => by rw [uG_k hk, uG_k hk])) k4 uG_s (rnd_lt _)) ?_
       rintro F5 G5 ⟨q1, q2, q3, q4⟩
       exact ⟨q1, f4.tr q2, q3, fun k hk => by rw [q4 k hk, uG_k hk, uG_k hk]⟩)
  · have h7 : 0 < lP (gA o) := by
      apply Decidable.byContradiction
      intro e
      have e : lP (gA o) = 0 := by omega
      exact h7 (by rw [e]; decide)
    have hs0 := hA.2.2.1 h7
    have hpm : rnd j.2 / 65536 % lP (gA o) < lP (gA o) := Nat.mod_lt _ h7
    have hqm : rnd (rnd j.2) / 65536 % lS (gA o) < lS (gA o) := Nat.mod_lt _ hs0
    rw [show lifH (gA o) i j = lifM (gA o) (if cwkA (gA o) j.1 (rnd j.2 / 65536 % lP (gA o)) (rnd (rnd j.2) / 65536 % lS (gA o)) = true then wlkA j.1 (rnd j.2 / 65536 % lP (gA o)) (rnd (rnd j.2) / 65536 % lS (gA o)) else j.1, rnd (rnd j.2)) by simp only [lifH, lifW, if_pos h7]]
    refine d_run 2 rfl ?_
    refine d_gR k127_12 (by first | assumption | exact Nat.le_of_ble_eq_true rfl | omega) ⟨rfl, rfl, rfl⟩ (Rs_land _) ?_
    refine d_gI k127_15 (by first | assumption | exact lx2 _ | exact Nat.le_of_ble_eq_true rfl | omega | exact Nat.lt_of_lt_of_le (m := 2) (by omega) (Nat.le_of_ble_eq_true rfl)) ⟨rfl, rfl, Or.inl rfl⟩ ?_
    rw [hL.2.1]
    refine d_call 2 k127_18 (by omega) (Nat.le_of_ble_eq_true rfl) rfl (Nat.le_of_ble_eq_true rfl) (Nat.le_of_ble_eq_true rfl) (recv_ok rfl (by first | assumption | exact Nat.le_of_ble_eq_true rfl | omega)) rfl (a_draw (gg := j.2) h7 (by omega) hG hg) rfl ?_
    rintro F2 G2 ⟨rfl, rfl⟩
    refine d_run 3 rfl ?_
    refine d_gR k127_24 (by first | assumption | exact Nat.le_of_ble_eq_true rfl | omega) ⟨rfl, rfl, rfl⟩ (Rs_land _) ?_
    refine d_gI k127_27 (by first | assumption | exact lx2 _ | exact Nat.le_of_ble_eq_true rfl | omega | exact Nat.lt_of_lt_of_le (m := 2) (by omega) (Nat.le_of_ble_eq_true rfl)) ⟨rfl, rfl, Or.inl rfl⟩ ?_
    rw [hL.1]
    refine d_call 2 k127_30 (by omega) (Nat.le_of_ble_eq_true rfl) rfl (Nat.le_of_ble_eq_true rfl) (Nat.le_of_ble_eq_true rfl) (recv_ok rfl (by first | assumption | exact Nat.le_of_ble_eq_true rfl | omega)) rfl (a_draw (gg := rnd j.2) hs0 (by omega) uG_s (rnd_lt _)) rfl ?_
    rintro F3 G3 ⟨rfl, rfl⟩
    refine d_run 2 rfl ?_
    refine d_gR k127_35 (by first | assumption | exact Nat.le_of_ble_eq_true rfl | omega) ⟨rfl, rfl, rfl⟩ rfl ?_
    refine d_run 1 rfl ?_
    refine d_gR k127_39 (by first | assumption | exact Nat.le_of_ble_eq_true rfl | omega) ⟨rfl, rfl, rfl⟩ (Rs_land _) ?_
    refine d_run 2 rfl ?_
    refine d_call 4 k127_44 (by omega) (Nat.le_of_ble_eq_true rfl) rfl (Nat.le_of_ble_eq_true rfl) (Nat.le_of_ble_eq_true rfl) (recv_ok rfl (by first | assumption | exact Nat.le_of_ble_eq_true rfl | omega | exact Nat.lt_of_lt_of_le (m := 27) (by omega) (Nat.le_of_ble_eq_true rfl))) rfl (a_walkIf (n := 21) (by omega) (lx2 b) hL hA hT hwT hpm (by omega)) rfl ?_
    rintro F4 G4 ⟨rfl, k4, f4⟩
    refine d_run 1 rfl ?_
    first
    | exact a_drawn2 hw hd h hT hG hg
    | (refine d_dr100 ?_
       refine td_mo (a_drawn2 (j := (if cwkA (gA o) j.1 (rnd j.2 / 65536 % lP (gA o)) (rnd (rnd j.2) / 65536 % lS (gA o)) = true then wlkA j.1 (rnd j.2 / 65536 % lP (gA o)) (rnd (rnd j.2) / 65536 % lS (gA o)) else j.1, rnd (rnd j.2))) hw hd (h.fr (dSt_Q (by omega) f4) (fun k hk => by rw [uG_k hk, uG_k hk])) k4 uG_s (rnd_lt _)) ?_
       rintro F5 G5 ⟨q1, q2, q3, q4⟩
       exact ⟨q1, f4.tr q2, q3, fun k hk => by rw [q4 k hk, uG_k hk, uG_k hk]⟩)
theorem l_years (hw : WF o) (hd : 100 ≤ d) {N : Nat} (hN : N ≤ 99) : ∀ (r i : Nat) (iv : Int32) (j : ST × Nat) (F : FT) (G : GT), iv = nI i → i + r = N → CInv F G b o → CS F 21 (lP (gA o)) j.1 → wfS (gA o) j.1 → G 1 0 14 = lN j.2 → j.2 < 2147483648 → Td E d 111 55 [some (vr 1 0), some (vi u), some (vi (nI N)), some (vi w), some (vi iv)] [] x F G b (some (vi (if w = 0 then sWi (lpN (lifH (gA o)) i r j).1 - sWi (gS o) else if w = 1 then sSp (lpN (lifH (gA o)) i r j).1 - sSp (gS o) else bset (sitA (lpN (lifH (gA o)) i r j).1) (lP (gA o))))) (CPost b o F G) := by
  intro r
  induction r with
  | zero =>
    intro i iv j F G hiv hir h hT hwT hG hg
    subst hiv
    have hi : i = N := by omega
    have hL := h.2.1
    have hA := hw.1
    have hS := h.2.2.2.1.1
    have hwS := hw.2.1.1
    have hP6 := hA.2.1
    have hS5 := hA.1
    refine d_run 2 rfl ?_
    refine d_ic_ge k111_58 (fun h58 => ?_) (fun h58 => ?_)
    · refine d_run 1 rfl ?_
      refine d_if_ne k111_72 (fun h72 => ?_) (fun h72 => ?_)
      · refine d_run 2 rfl ?_
        refine d_ic_ne k111_96 (fun h96 => ?_) (fun h96 => ?_)
        · refine d_run 1 rfl ?_
          refine d_gR k111_121 (by first | assumption | exact Nat.le_of_ble_eq_true rfl | omega) ⟨rfl, rfl, rfl⟩ rfl ?_
          refine d_run 1 rfl ?_
          refine d_gR k111_125 (by first | assumption | exact Nat.le_of_ble_eq_true rfl | omega) ⟨rfl, rfl, rfl⟩ (Rs_land _) ?_
          refine d_callT 2 k111_128 (by omega) (Nat.le_of_ble_eq_true rfl) rfl (Nat.le_of_ble_eq_true rfl) (Nat.le_of_ble_eq_true rfl) (recv_ok rfl (by first | assumption | exact Nat.le_of_ble_eq_true rfl | omega | exact Nat.lt_of_lt_of_le (m := 27) (by omega) (Nat.le_of_ble_eq_true rfl))) rfl (a_sitters (n := 21) (by omega) (lx2 b) hL hA hT (by omega)) rfl ?_
          refine d_ir k111_131 rfl (by simp [lpN, h72, h96]; try rfl) ?_
          exact CPost.q h FrD.rf
        · refine d_run 1 rfl ?_
          refine d_gR k111_100 (by first | assumption | exact Nat.le_of_ble_eq_true rfl | omega) ⟨rfl, rfl, rfl⟩ rfl ?_
          refine d_gI k111_103 (by first | assumption | exact Nat.le_of_ble_eq_true rfl | omega | exact Nat.lt_of_lt_of_le (m := 27) (by omega) (Nat.le_of_ble_eq_true rfl)) ⟨rfl, rfl, Or.inl rfl⟩ ?_
          rw [show F 25 21 6 = sSp j.1 from hT.2.2.2.2.2.2.trans (Int32.add_zero _)]
          refine d_run 1 rfl ?_
          refine d_gR k111_107 (by first | assumption | exact Nat.le_of_ble_eq_true rfl | omega) ⟨rfl, rfl, rfl⟩ rfl ?_
          refine d_gR k111_110 (by first | assumption | exact Nat.le_of_ble_eq_true rfl | omega | exact Nat.lt_of_lt_of_le (m := 5) (by omega) (Nat.le_of_ble_eq_true rfl)) ⟨rfl, rfl, rfl⟩ rfl ?_
          refine d_gI k111_113 (by first | assumption | exact Nat.le_of_ble_eq_true rfl | omega | exact Nat.lt_of_lt_of_le (m := 27) (by omega) (Nat.le_of_ble_eq_true rfl)) ⟨rfl, rfl, Or.inl rfl⟩ ?_
          rw [show F 25 0 6 = sSp (gS o) from hS.2.2.2.2.2.2.trans (Int32.add_zero _)]
          refine d_run 2 rfl ?_
          refine d_ir k111_131 rfl (by simp [lpN, h72, h96]; try rfl) ?_
          exact CPost.q h FrD.rf
      · refine d_run 1 rfl ?_
        refine d_gR k111_76 (by first | assumption | exact Nat.le_of_ble_eq_true rfl | omega) ⟨rfl, rfl, rfl⟩ rfl ?_
        refine d_gI k111_79 (by first | assumption | exact Nat.le_of_ble_eq_true rfl | omega | exact Nat.lt_of_lt_of_le (m := 27) (by omega) (Nat.le_of_ble_eq_true rfl)) ⟨rfl, rfl, Or.inl rfl⟩ ?_
        rw [show F 25 21 5 = sWi j.1 from hT.2.2.2.2.2.1]
        refine d_run 1 rfl ?_
        refine d_gR k111_83 (by first | assumption | exact Nat.le_of_ble_eq_true rfl | omega) ⟨rfl, rfl, rfl⟩ rfl ?_
        refine d_gR k111_86 (by first | assumption | exact Nat.le_of_ble_eq_true rfl | omega | exact Nat.lt_of_lt_of_le (m := 5) (by omega) (Nat.le_of_ble_eq_true rfl)) ⟨rfl, rfl, rfl⟩ rfl ?_
        refine d_gI k111_89 (by first | assumption | exact Nat.le_of_ble_eq_true rfl | omega | exact Nat.lt_of_lt_of_le (m := 27) (by omega) (Nat.le_of_ble_eq_true rfl)) ⟨rfl, rfl, Or.inl rfl⟩ ?_
        rw [show F 25 0 5 = sWi (gS o) from hS.2.2.2.2.2.1]
        refine d_run 1 rfl ?_
        refine d_ir k111_93 rfl (by simp [lpN, h72]; rfl) ?_
        exact CPost.q h FrD.rf
    · exact absurd (lt_nI h58 rfl (by omega) (by omega)) (by omega)
  | succ r ih =>
    intro i iv j F G hiv hir h hT hwT hG hg
    subst hiv
    have hi : i < N := by omega
    have hL := h.2.1
    have hA := hw.1
    have hS := h.2.2.2.1.1
    have hwS := hw.2.1.1
    have hP6 := hA.2.1
    have hS5 := hA.1
    refine d_run 2 rfl ?_
    refine d_ic_ge k111_58 (fun h58 => ?_) (fun h58 => ?_)
    · exact absurd (ge_nI h58 rfl (by omega) (by omega)) (by omega)
    · refine d_run 1 rfl ?_
      refine d_call 1 k111_62 (by omega) (Nat.le_of_ble_eq_true rfl) rfl (Nat.le_of_ble_eq_true rfl) (Nat.le_of_ble_eq_true rfl) (recv_ok rfl (by first | assumption | exact Nat.le_of_ble_eq_true rfl | omega)) rfl (a_drawn hw (by omega) h hT hwT hG hg i) rfl ?_
      rintro F1 G1 ⟨q1, q2, q3, q4⟩
      refine d_run 2 rfl ?_
      exact td_mo (ih (i + 1) _ (lifH (gA o) i j) F1 G1 (nI_1 i) (by omega) (h.fr (dSt_Q (by omega) q2) q4) q1 (lifH_wf hA hwT) q3 lifH_lt) (fun F2 G2 e => e.q3 (dSt_Q (by omega) q2) q4)
theorem a_years (h : CInv F G b o) (hw : WF o) (hd : 100 ≤ d) : Td E d 111 0 [some (vr 1 0), some (vi u), some (vi v), some (vi w), none] [] x F G b (some (vi (q_years o u v w))) (CPost b (o) F G) := by
  have hL := h.2.1
  have hA := hw.1
  have hS := h.2.2.2.1.1
  have hwS := hw.2.1.1
  have hP6 := hA.2.1
  have hS5 := hA.1
  cases hN1 : isW2 u 0 9999 with
  | false =>
    rw [show q_years o u v w = -1 by simp [q_years, hN1]]
    refine d_run 3 rfl ?_
    refine d_callT 3 k111_5 (by omega) (Nat.le_of_ble_eq_true rfl) rfl (Nat.le_of_ble_eq_true rfl) (Nat.le_of_ble_eq_true rfl) recv_st rfl c_within rfl ?_
    rw [hN1]
    refine d_if_eq k111_8 (fun h8 => ?_) (fun h8 => ?_)
    · refine d_run 1 rfl ?_
      refine d_ir k111_31 rfl (by rfl) ?_
      exact CPost.q h FrD.rf
    · exact absurd h8 (by decide)
  | true =>
    cases hN2 : isW2 v 1 99 with
    | false =>
      rw [show q_years o u v w = -1 by simp [q_years, hN2]]
      refine d_run 3 rfl ?_
      refine d_callT 3 k111_5 (by omega) (Nat.le_of_ble_eq_true rfl) rfl (Nat.le_of_ble_eq_true rfl) (Nat.le_of_ble_eq_true rfl) recv_st rfl c_within rfl ?_
      rw [hN1]
      refine d_if_eq k111_8 (fun h8 => ?_) (fun h8 => ?_)
      · exact absurd h8 (by decide)
      · refine d_run 3 rfl ?_
        refine d_callT 3 k111_15 (by omega) (Nat.le_of_ble_eq_true rfl) rfl (Nat.le_of_ble_eq_true rfl) (Nat.le_of_ble_eq_true rfl) recv_st rfl c_within rfl ?_
        rw [hN2]
        refine d_if_eq k111_18 (fun h18 => ?_) (fun h18 => ?_)
        · refine d_run 1 rfl ?_
          refine d_ir k111_31 rfl (by rfl) ?_
          exact CPost.q h FrD.rf
        · exact absurd h18 (by decide)
    | true =>
      cases hN3 : isW2 w 0 2 with
      | false =>
        rw [show q_years o u v w = -1 by simp [q_years, hN3]]
        refine d_run 3 rfl ?_
        refine d_callT 3 k111_5 (by omega) (Nat.le_of_ble_eq_true rfl) rfl (Nat.le_of_ble_eq_true rfl) (Nat.le_of_ble_eq_true rfl) recv_st rfl c_within rfl ?_
        rw [hN1]
        refine d_if_eq k111_8 (fun h8 => ?_) (fun h8 => ?_)
        · exact absurd h8 (by decide)
        · refine d_run 3 rfl ?_
          refine d_callT 3 k111_15 (by omega) (Nat.le_of_ble_eq_true rfl) rfl (Nat.le_of_ble_eq_true rfl) (Nat.le_of_ble_eq_true rfl) recv_st rfl c_within rfl ?_
          rw [hN2]
          refine d_if_eq k111_18 (fun h18 => ?_) (fun h18 => ?_)
          · exact absurd h18 (by decide)
          · refine d_run 3 rfl ?_
            refine d_callT 3 k111_24 (by omega) (Nat.le_of_ble_eq_true rfl) rfl (Nat.le_of_ble_eq_true rfl) (Nat.le_of_ble_eq_true rfl) recv_st rfl c_within rfl ?_
            rw [hN3]
            refine d_if_ne k111_27 (fun h27 => ?_) (fun h27 => ?_)
            · exact absurd h27 (by decide)
            · refine d_run 1 rfl ?_
              refine d_ir k111_31 rfl (by rfl) ?_
              exact CPost.q h FrD.rf
      | true =>
        rw [show q_years o u v w = (if w = 0 then sWi (lpN (lifH (gA o)) 0 (ix v) (gS o, ix u)).1 - sWi (gS o) else if w = 1 then sSp (lpN (lifH (gA o)) 0 (ix v) (gS o, ix u)).1 - sSp (gS o) else bset (sitA (lpN (lifH (gA o)) 0 (ix v) (gS o, ix u)).1) (lP (gA o))) by simp [q_years, hN1, hN2, hN3]]
        obtain ⟨p, hp, rfl⟩ := isW2_ex (H := 9999) hN1 ⟨by decide, rfl, by decide⟩
        obtain ⟨n, hn, rfl⟩ := isW2_ex (H := 99) hN2 ⟨by decide, rfl, by decide⟩
        rw [ix_nI (show p < 100000 by omega), ix_nI (show n < 100000 by omega)]
        refine d_run 3 rfl ?_
        refine d_callT 3 k111_5 (by omega) (Nat.le_of_ble_eq_true rfl) rfl (Nat.le_of_ble_eq_true rfl) (Nat.le_of_ble_eq_true rfl) recv_st rfl c_within rfl ?_
        rw [hN1]
        refine d_if_eq k111_8 (fun h8 => ?_) (fun h8 => ?_)
        · exact absurd h8 (by decide)
        · refine d_run 3 rfl ?_
          refine d_callT 3 k111_15 (by omega) (Nat.le_of_ble_eq_true rfl) rfl (Nat.le_of_ble_eq_true rfl) (Nat.le_of_ble_eq_true rfl) recv_st rfl c_within rfl ?_
          rw [hN2]
          refine d_if_eq k111_18 (fun h18 => ?_) (fun h18 => ?_)
          · exact absurd h18 (by decide)
          · refine d_run 3 rfl ?_
            refine d_callT 3 k111_24 (by omega) (Nat.le_of_ble_eq_true rfl) rfl (Nat.le_of_ble_eq_true rfl) (Nat.le_of_ble_eq_true rfl) recv_st rfl c_within rfl ?_
            rw [hN3]
            refine d_if_ne k111_27 (fun h27 => ?_) (fun h27 => ?_)
            · refine d_run 3 rfl ?_
              refine d_pL k111_35 (by first | assumption | exact Nat.le_of_ble_eq_true rfl | omega) ⟨rfl, rfl⟩ ?_
              rw [nI_l (show p < 2 ^ 31 by omega)]
              refine d_run 1 rfl ?_
              refine d_gR k111_39 (by first | assumption | exact Nat.le_of_ble_eq_true rfl | omega) ⟨rfl, rfl, rfl⟩ rfl ?_
              refine d_run 1 rfl ?_
              refine d_gR k111_43 (by first | assumption | exact Nat.le_of_ble_eq_true rfl | omega) ⟨rfl, rfl, rfl⟩ rfl ?_
              refine d_gR k111_46 (by first | assumption | exact Nat.le_of_ble_eq_true rfl | omega | exact Nat.lt_of_lt_of_le (m := 5) (by omega) (Nat.le_of_ble_eq_true rfl)) ⟨rfl, rfl, rfl⟩ rfl ?_
              refine d_call 2 k111_49 (by omega) (Nat.le_of_ble_eq_true rfl) rfl (Nat.le_of_ble_eq_true rfl) (Nat.le_of_ble_eq_true rfl) (recv_ok rfl (by first | assumption | exact Nat.le_of_ble_eq_true rfl | omega | exact Nat.lt_of_lt_of_le (m := 27) (by omega) (Nat.le_of_ble_eq_true rfl))) rfl (a_copyS (n := 21) (m := 0) (by omega) (by omega) (by omega) (by omega) hP6 hS) rfl ?_
              rintro F1 G1 ⟨rfl, k1, f1⟩
              refine d_run 2 rfl ?_
              exact td_mo (l_years hw hd hn n 0 _ (gS o, p) F1 _ rfl (by omega) (h.fr (dSt_Q (by omega) f1) (fun k hk => uG_k hk)) k1 hwS uG_s (show p < 2147483648 by omega)) (fun F2 G2 e => e.q3 (dSt_Q (by omega) f1) (fun k hk => uG_k hk))
            · exact absurd h27 (by decide)
end P6
