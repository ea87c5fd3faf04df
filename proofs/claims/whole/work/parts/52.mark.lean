/-! MARK AND FEED OF THE CLASS (the wb_ rows begin as the kit's BITS) -/
theorem wb_tb (n : Nat) : (lN n).toBitVec = BitVec.ofNat 64 n := rfl
theorem wb_inj {a b : Int64} (h : a.toBitVec = b.toBitVec) : a = b := Int64.toBitVec_inj.mp h
theorem wb_tn {n : Nat} (h : n < 2 ^ 64) : (lN n).toBitVec.toNat = n := by rw [wb_tb, BitVec.toNat_ofNat, Nat.mod_eq_of_lt h]
theorem wb_of (x : Int64) : ∃ n, n < 2 ^ 64 ∧ x = lN n := ⟨x.toBitVec.toNat, x.toBitVec.isLt, wb_inj (by rw [wb_tb]; simp)⟩
theorem wb_of32 (x : Int32) : ∃ n, n < 2 ^ 32 ∧ x = nI n := ⟨x.toBitVec.toNat, x.toBitVec.isLt, Int32.toBitVec_inj.mp (by show _ = BitVec.ofNat 32 _; simp)⟩
theorem wb_c : ∀ k, k < 64 → ((nI k).toInt64 &&& 63) = lN k := by decide +kernel
theorem wb_cu : ∀ k, k < 64 → ((nI k).toInt64.toUInt64 &&& Int64.toUInt64 63) = UInt64.ofNat k := by decide +kernel
theorem wb_pw {a b : Nat} (h : a ≤ b) : 2 ^ b = 2 ^ a * 2 ^ (b - a) := by rw [← Nat.pow_add]; congr 1; omega
theorem wb_lt2 {a b : Nat} (h : a < b) : 2 ^ a < 2 ^ b := Nat.pow_lt_pow_right (by decide) h
theorem wb_mod (n : Nat) : lN n = lN (n % 2 ^ 64) := wb_inj (by rw [wb_tb, wb_tb]; apply BitVec.eq_of_toNat_eq; rw [BitVec.toNat_ofNat, BitVec.toNat_ofNat, Nat.mod_mod])
theorem wb_shr {n k : Nat} (hn : n < 2 ^ 64) (hk : k < 64) : ((lN n).toUInt64 >>> ((nI k).toInt64.toUInt64 &&& Int64.toUInt64 63)).toInt64 = lN (n / 2 ^ k) := by
  rw [wb_cu k hk]
  apply wb_inj
  apply BitVec.eq_of_toNat_eq
  show ((lN n).toUInt64 >>> UInt64.ofNat k).toNat = (BitVec.ofNat 64 _).toNat
  have h1 : (UInt64.ofNat k).toNat = k := by
    show (BitVec.ofNat 64 k).toNat = k
    rw [BitVec.toNat_ofNat, Nat.mod_eq_of_lt (by omega)]
  have h2 : (lN n).toUInt64.toNat = n := wb_tn hn
  rw [UInt64.toNat_shiftRight, h1, h2, Nat.mod_eq_of_lt hk, Nat.shiftRight_eq_div_pow, BitVec.toNat_ofNat, Nat.mod_eq_of_lt (Nat.lt_of_le_of_lt (Nat.div_le_self _ _) hn)]
theorem Rs_marks {b : Bool} {j : Nat} : Rs b 2 0 j = some (j + 1) := by
  simp [Rs, Nat.add_comm]
theorem dSc_no {n k m : Nat} (h : k < 25 ∨ 28 < k ∨ m ≠ n) (h18 : k ≠ 18) (h19 : k < 19 ∨ 22 < k ∨ m ≠ n + 1) (h24 : k ≠ 24 ∨ m ≠ n) : dSc n k m = false := by
  have e1 := dSt_no (n := n) (k := k) (m := m) h h18
  simp only [dSc, e1, dWk, Bool.false_or, Bool.or_eq_false_iff, Bool.and_eq_false_iff, decide_eq_false_iff_not]
  omega
theorem CMk.set {F F2 : FT} {P p : Nat} {mk : Nat → Bool × SC} {c : SC} (h : CMk F P mk) (hf : FrD (dSc (p + 1)) F F2) (hp : p < 4) (hc : CSc F2 (p + 1) P c) : CMk (uF F2 23 (p + 1) 3 1) P (updM mk p (true, c)) := by
  intro j hj
  have hcs : ∀ {n : Nat} {c : SC}, CSc F2 n P c → CSc (uF F2 23 (p + 1) 3 1) n P c := fun k => k.fr (fun k _ _ => by rw [uF_k (by omega)]) (fun k _ _ => by rw [uF_k (by omega)])
  by_cases e : j = p
  · subst e
    refine ⟨by simp [uF, updM, b2i], fun _ => ?_⟩
    simp only [updM, if_true]
    exact hcs hc
  · obtain ⟨h1, h2⟩ := h j hj
    simp only [updM, if_neg e]
    refine ⟨?_, fun q => hcs ((h2 q).fr (fun k a b => hf k _ (dSc_no (by omega) (by omega) (by omega) (by omega))) (fun k a b => hf k _ (dSc_no (by omega) (by omega) (by omega) (by omega))))⟩
    rw [uF_n (by omega), hf 23 _ (dSc_no (by omega) (by omega) (by omega) (by omega))]
    exact h1
/-- the j-th sign of eight -/
def byt (w : Int64) (j : Nat) : Nat := w.toBitVec.toNat / 2 ^ (56 - 8 * j) % 256
def okc (c : Nat) : Bool := decide (c = 10) || (decide (32 ≤ c) && decide (c ≤ 126))
def pshT (c : Nat) (t : TP) : TP := if (okc c && decide (t.1 < 1000)) = true then (t.1 + 1, upd t.2 t.1 (nI c)) else t
def psh8 (w : Int64) (t : TP) : TP := lpN (fun j t => pshT (byt w j) t) 0 8 t
def n_feed (o : SG) (a c e : Int64) : SG := (psh8 e (psh8 c (psh8 a (gT o))), o.2)
theorem byt_lt (w : Int64) (j : Nat) : byt w j < 256 := Nat.mod_lt _ (by decide)
theorem and255 (n : Nat) : nI n &&& 255 = nI (n % 256) := by
  show Int32.ofNat n &&& _ = Int32.ofNat _
  rw [← Int32.toBitVec_inj]
  apply BitVec.eq_of_toNat_eq
  have e1 : (Int32.ofNat n).toBitVec = BitVec.ofNat 32 n := rfl
  have e2 : (Int32.ofNat (n % 256)).toBitVec = BitVec.ofNat 32 (n % 256) := rfl
  rw [Int32.toBitVec_and, BitVec.toNat_and, e1, e2, BitVec.toNat_ofNat, BitVec.toNat_ofNat]
  have e3 : (255 : Int32).toBitVec.toNat = 2 ^ 8 - 1 := by decide
  rw [e3, Nat.and_two_pow_sub_one_eq_mod]
  omega
theorem byt_c (w : Int64) {j : Nat} (hj : j < 8) : ibop 3 (w.toUInt64 >>> ((nI (56 - 8 * j)).toInt64.toUInt64 &&& Int64.toUInt64 63)).toInt64.toInt32 255 = nI (byt w j) := by
  obtain ⟨n, hn, rfl⟩ := wb_of w
  rw [wb_shr hn (by omega), lN_i]
  show nI _ &&& 255 = _
  rw [and255, byt, wb_tn hn]
theorem okc_nI {c : Nat} (hc : c < 256) : ((nI c = 10) = (c = 10)) ∧ ((nI c < 32) = (c < 32)) ∧ ((126 < nI c) = (126 < c)) := by
  refine ⟨?_, ?_, ?_⟩
  · rw [show (10 : Int32) = nI 10 from rfl, nI_eq (by omega) (by omega)]
  · rw [show (32 : Int32) = nI 32 from rfl, nI_ltI (by omega) (by omega)]
  · rw [show (126 : Int32) = nI 126 from rfl, nI_ltI (by omega) (by omega)]
theorem nar_c {c : Nat} (hc : c < 256) : vp_nar .char (nI c) = nI c := by
  have h : ∀ c, c < 256 → (nI c).toUInt32.toUInt16.toUInt32.toInt32 = nI c := by decide +kernel
  rw [vp_nar_char]
  exact h c hc
theorem i2c_c {c : Nat} (hc : c < 256) : ((nI c).toUInt32 % 65536).toInt32 = nI c := by
  have h : ∀ c, c < 256 → ((nI c).toUInt32 % 65536).toInt32 = nI c := by decide +kernel
  exact h c hc
theorem psh_le {c : Nat} {t : TP} (h : t.1 ≤ 1000) : (pshT c t).1 ≤ 1000 := by
  unfold pshT
  split
  · rename_i e
    simp only [Bool.and_eq_true, decide_eq_true_eq] at e
    exact e.2
  · exact h
section P12
variable {E : EV} {d x : Nat} {F : FT} {G : GT} {b : Bool} {o : SG} {u v w : Int32} {wl : Int64}
def dTp (k _m : Nat) : Bool := decide (k = 5) || decide (k = 6)
theorem l_addB : ∀ (r i : Nat) (iv : Int32) (t : TP) (F : FT), iv = (if i = 8 then -8 else nI (56 - 8 * i)) → i + r = 8 → CTp F t → Td E d 67 3 [some (vr 5 0), some (vl wl), none, some (vi iv), none] [] x F G b none (fun F2 G2 => G2 = G ∧ CTp F2 (lpN (fun j t => pshT (byt wl j) t) i r t) ∧ FrD dTp F F2) := by
  intro r
  induction r with
  | zero =>
    intro i iv t F hiv hir hT
    have hi : i = 8 := by omega
    subst hi
    rw [if_pos rfl] at hiv
    subst hiv
    refine d_run 1 rfl ?_
    refine d_if_lt k67_4 (fun h4 => ?_) (fun h4 => ?_)
    · refine d_ret k67_76 ?_
      exact ⟨rfl, hT, FrD.rf⟩
    · exact absurd (show (-8 : Int32) < 0 by decide) h4
  | succ r ih =>
    intro i iv t F hiv hir hT
    have hi : i < 8 := by omega
    rw [if_neg (by omega)] at hiv
    subst hiv
    have hb := byt_c wl hi
    have hlt := byt_lt wl i
    obtain ⟨o1, o2, o3⟩ := okc_nI hlt
    obtain ⟨t1, t2, t3⟩ := hT
    have hnx : nI (56 - 8 * i) + (-8) = (if i + 1 = 8 then -8 else nI (56 - 8 * (i + 1))) := by
      have h : ∀ i, i < 8 → nI (56 - 8 * i) + (-8) = (if i + 1 = 8 then -8 else nI (56 - 8 * (i + 1))) := by decide
      exact h i hi
    have h0 : ¬ nI (56 - 8 * i) < 0 := Int32.not_lt.mpr (nI_pos' (by omega))
    simp only [lpN]
    refine d_run 1 rfl ?_
    refine d_if_lt k67_4 (fun h4 => ?_) (fun h4 => ?_)
    · exact absurd h4 h0
    · refine d_run 6 rfl ?_
      rw [hb]
      refine d_run 3 rfl ?_
      refine d_ic_eq k67_21 (fun h21 => ?_) (fun h21 => ?_)
      · have hok : okc (byt wl i) = true := by simp only [o1] at h21; simp [okc, h21]
        refine d_run 1 rfl ?_
        refine d_gI k67_39 (by first | assumption | exact Nat.le_of_ble_eq_true rfl | omega) ⟨rfl, rfl, Or.inl rfl⟩ ?_
        rw [t1]
        refine d_run 1 rfl ?_
        refine d_ic_ge k67_45 (fun h45 => ?_) (fun h45 => ?_)
        · have h45 := ge_nI h45 (b := 1000) rfl (by omega) (by omega)
          have hno : ¬ (okc (byt wl i) && decide (t.1 < 1000)) = true := by simp [show ¬ t.1 < 1000 by omega]
          refine d_run 2 rfl ?_
          rw [hnx]
          refine d_dr11110 ?_
          first
          | (have e1 : pshT (byt wl i) t = t := by simp only [pshT]; rw [if_neg hno]
             rw [e1]
             exact ih (i + 1) _ t F rfl (by omega) ⟨t1, t2, t3⟩)
          | (have hyes : (okc (byt wl i) && decide (t.1 < 1000)) = true := by simp [hok, h45]
             have e1 : pshT (byt wl i) t = (t.1 + 1, upd t.2 t.1 (nI (byt wl i))) := by simp only [pshT]; rw [if_pos hyes]
             rw [e1]
             refine td_mo (ih (i + 1) _ (t.1 + 1, upd t.2 t.1 (nI (byt wl i))) _ rfl (by omega) ⟨?_, (show t.1 + 1 ≤ 1000 by omega), ?_⟩) (fun F2 G2 e => ⟨e.1, e.2.1, ((FrD.rf.u rfl).u rfl).tr e.2.2⟩)
             · simp [uF, ibop, t1, nI_1]
             · intro j hj
               rw [uF_k (by decide), uF_r]
               by_cases e : j = t.1
               · rw [e, pk_us]
                 exact pk_us.symm
               · rw [pk_un e]
                 show _ = upd t.2 t.1 (nI (byt wl i)) j
                 rw [pk_un e]
                 exact t3 j (show j < t.1 by have : j < t.1 + 1 := hj; omega))
        · have h45 := lt_nI h45 (b := 1000) rfl (by omega) (by omega)
          refine d_run 1 rfl ?_
          refine d_gR k67_49 (by first | assumption | exact Nat.le_of_ble_eq_true rfl | omega) ⟨rfl, rfl, rfl⟩ rfl ?_
          refine d_run 1 rfl ?_
          refine d_gI k67_53 (by first | assumption | exact Nat.le_of_ble_eq_true rfl | omega) ⟨rfl, rfl, Or.inl rfl⟩ ?_
          rw [t1]
          refine d_run 2 rfl ?_
          rw [i2c_c hlt]
          refine d_cs (N := 1000) k67_59 (by first | assumption | exact Nat.le_of_ble_eq_true rfl | omega) ⟨rfl, rfl⟩ h45 rfl ?_
          rw [nar_c hlt]
          refine d_run 2 rfl ?_
          refine d_gI k67_62 (by first | assumption | exact Nat.le_of_ble_eq_true rfl | omega) ⟨rfl, rfl, Or.inl rfl⟩ ?_
          refine d_run 2 rfl ?_
          refine d_pI k67_67 (by first | assumption | exact Nat.le_of_ble_eq_true rfl | omega) ⟨rfl, rfl⟩ ?_
          refine d_run 2 rfl ?_
          rw [hnx]
          refine d_dr11110 ?_
          first
          | (have e1 : pshT (byt wl i) t = t := by simp only [pshT]; rw [if_neg hno]
             rw [e1]
             exact ih (i + 1) _ t F rfl (by omega) ⟨t1, t2, t3⟩)
          | (have hyes : (okc (byt wl i) && decide (t.1 < 1000)) = true := by simp [hok, h45]
             have e1 : pshT (byt wl i) t = (t.1 + 1, upd t.2 t.1 (nI (byt wl i))) := by simp only [pshT]; rw [if_pos hyes]
             rw [e1]
             refine td_mo (ih (i + 1) _ (t.1 + 1, upd t.2 t.1 (nI (byt wl i))) _ rfl (by omega) ⟨?_, (show t.1 + 1 ≤ 1000 by omega), ?_⟩) (fun F2 G2 e => ⟨e.1, e.2.1, ((FrD.rf.u rfl).u rfl).tr e.2.2⟩)
             · simp [uF, ibop, t1, nI_1]
             · intro j hj
               rw [uF_k (by decide), uF_r]
               by_cases e : j = t.1
               · rw [e, pk_us]
                 exact pk_us.symm
               · rw [pk_un e]
                 show _ = upd t.2 t.1 (nI (byt wl i)) j
                 rw [pk_un e]
                 exact t3 j (show j < t.1 by have : j < t.1 + 1 := hj; omega))
      · simp only [o1] at h21
        refine d_run 2 rfl ?_
        refine d_ic_lt k67_28 (fun h28 => ?_) (fun h28 => ?_)
        · simp only [o2] at h28
          have hno : ¬ (okc (byt wl i) && decide (t.1 < 1000)) = true := by simp [okc, h21, show ¬ 32 ≤ byt wl i by omega]
          refine d_run 2 rfl ?_
          rw [hnx]
          refine d_dr11110 ?_
          first
          | (have e1 : pshT (byt wl i) t = t := by simp only [pshT]; rw [if_neg hno]
             rw [e1]
             exact ih (i + 1) _ t F rfl (by omega) ⟨t1, t2, t3⟩)
          | (have hyes : (okc (byt wl i) && decide (t.1 < 1000)) = true := by simp [hok, h45]
             have e1 : pshT (byt wl i) t = (t.1 + 1, upd t.2 t.1 (nI (byt wl i))) := by simp only [pshT]; rw [if_pos hyes]
             rw [e1]
             refine td_mo (ih (i + 1) _ (t.1 + 1, upd t.2 t.1 (nI (byt wl i))) _ rfl (by omega) ⟨?_, (show t.1 + 1 ≤ 1000 by omega), ?_⟩) (fun F2 G2 e => ⟨e.1, e.2.1, ((FrD.rf.u rfl).u rfl).tr e.2.2⟩)
             · simp [uF, ibop, t1, nI_1]
             · intro j hj
               rw [uF_k (by decide), uF_r]
               by_cases e : j = t.1
               · rw [e, pk_us]
                 exact pk_us.symm
               · rw [pk_un e]
                 show _ = upd t.2 t.1 (nI (byt wl i)) j
                 rw [pk_un e]
                 exact t3 j (show j < t.1 by have : j < t.1 + 1 := hj; omega))
        · simp only [o2] at h28
          refine d_run 2 rfl ?_
          refine d_ic_gt k67_35 (fun h35 => ?_) (fun h35 => ?_)
          · simp only [o3] at h35
            have hno : ¬ (okc (byt wl i) && decide (t.1 < 1000)) = true := by simp [okc, h21, show ¬ byt wl i ≤ 126 by omega]
            refine d_run 2 rfl ?_
            rw [hnx]
            refine d_dr11110 ?_
            first
            | (have e1 : pshT (byt wl i) t = t := by simp only [pshT]; rw [if_neg hno]
               rw [e1]
               exact ih (i + 1) _ t F rfl (by omega) ⟨t1, t2, t3⟩)
            | (have hyes : (okc (byt wl i) && decide (t.1 < 1000)) = true := by simp [hok, h45]
               have e1 : pshT (byt wl i) t = (t.1 + 1, upd t.2 t.1 (nI (byt wl i))) := by simp only [pshT]; rw [if_pos hyes]
               rw [e1]
               refine td_mo (ih (i + 1) _ (t.1 + 1, upd t.2 t.1 (nI (byt wl i))) _ rfl (by omega) ⟨?_, (show t.1 + 1 ≤ 1000 by omega), ?_⟩) (fun F2 G2 e => ⟨e.1, e.2.1, ((FrD.rf.u rfl).u rfl).tr e.2.2⟩)
               · simp [uF, ibop, t1, nI_1]
               · intro j hj
                 rw [uF_k (by decide), uF_r]
                 by_cases e : j = t.1
                 · rw [e, pk_us]
                   exact pk_us.symm
                 · rw [pk_un e]
                   show _ = upd t.2 t.1 (nI (byt wl i)) j
                   rw [pk_un e]
                   exact t3 j (show j < t.1 by have : j < t.1 + 1 := hj; omega))
          · simp only [o3] at h35
            have hok : okc (byt wl i) = true := by simp [okc, show 32 ≤ byt wl i by omega, show byt wl i ≤ 126 by omega]
            refine d_run 1 rfl ?_
            refine d_gI k67_39 (by first | assumption | exact Nat.le_of_ble_eq_true rfl | omega) ⟨rfl, rfl, Or.inl rfl⟩ ?_
            rw [t1]
            refine d_run 1 rfl ?_
            refine d_ic_ge k67_45 (fun h45 => ?_) (fun h45 => ?_)
            · have h45 := ge_nI h45 (b := 1000) rfl (by omega) (by omega)
              have hno : ¬ (okc (byt wl i) && decide (t.1 < 1000)) = true := by simp [show ¬ t.1 < 1000 by omega]
              refine d_run 2 rfl ?_
              rw [hnx]
              refine d_dr11110 ?_
              first
              | (have e1 : pshT (byt wl i) t = t := by simp only [pshT]; rw [if_neg hno]
                 rw [e1]
                 exact ih (i + 1) _ t F rfl (by omega) ⟨t1, t2, t3⟩)
              | (have hyes : (okc (byt wl i) && decide (t.1 < 1000)) = true := by simp [hok, h45]
                 have e1 : pshT (byt wl i) t = (t.1 + 1, upd t.2 t.1 (nI (byt wl i))) := by simp only [pshT]; rw [if_pos hyes]
                 rw [e1]
                 refine td_mo (ih (i + 1) _ (t.1 + 1, upd t.2 t.1 (nI (byt wl i))) _ rfl (by omega) ⟨?_, (show t.1 + 1 ≤ 1000 by omega), ?_⟩) (fun F2 G2 e => ⟨e.1, e.2.1, ((FrD.rf.u rfl).u rfl).tr e.2.2⟩)
                 · simp [uF, ibop, t1, nI_1]
                 · intro j hj
                   rw [uF_k (by decide), uF_r]
                   by_cases e : j = t.1
                   · rw [e, pk_us]
                     exact pk_us.symm
                   · rw [pk_un e]
                     show _ = upd t.2 t.1 (nI (byt wl i)) j
                     rw [pk_un e]
                     exact t3 j (show j < t.1 by have : j < t.1 + 1 := hj; omega))
            · have h45 := lt_nI h45 (b := 1000) rfl (by omega) (by omega)
              refine d_run 1 rfl ?_
              refine d_gR k67_49 (by first | assumption | exact Nat.le_of_ble_eq_true rfl | omega) ⟨rfl, rfl, rfl⟩ rfl ?_
              refine d_run 1 rfl ?_
              refine d_gI k67_53 (by first | assumption | exact Nat.le_of_ble_eq_true rfl | omega) ⟨rfl, rfl, Or.inl rfl⟩ ?_
              rw [t1]
              refine d_run 2 rfl ?_
              rw [i2c_c hlt]
              refine d_cs (N := 1000) k67_59 (by first | assumption | exact Nat.le_of_ble_eq_true rfl | omega) ⟨rfl, rfl⟩ h45 rfl ?_
              rw [nar_c hlt]
              refine d_run 2 rfl ?_
              refine d_gI k67_62 (by first | assumption | exact Nat.le_of_ble_eq_true rfl | omega) ⟨rfl, rfl, Or.inl rfl⟩ ?_
              refine d_run 2 rfl ?_
              refine d_pI k67_67 (by first | assumption | exact Nat.le_of_ble_eq_true rfl | omega) ⟨rfl, rfl⟩ ?_
              refine d_run 2 rfl ?_
              rw [hnx]
              refine d_dr11110 ?_
              first
              | (have e1 : pshT (byt wl i) t = t := by simp only [pshT]; rw [if_neg hno]
                 rw [e1]
                 exact ih (i + 1) _ t F rfl (by omega) ⟨t1, t2, t3⟩)
              | (have hyes : (okc (byt wl i) && decide (t.1 < 1000)) = true := by simp [hok, h45]
                 have e1 : pshT (byt wl i) t = (t.1 + 1, upd t.2 t.1 (nI (byt wl i))) := by simp only [pshT]; rw [if_pos hyes]
                 rw [e1]
                 refine td_mo (ih (i + 1) _ (t.1 + 1, upd t.2 t.1 (nI (byt wl i))) _ rfl (by omega) ⟨?_, (show t.1 + 1 ≤ 1000 by omega), ?_⟩) (fun F2 G2 e => ⟨e.1, e.2.1, ((FrD.rf.u rfl).u rfl).tr e.2.2⟩)
                 · simp [uF, ibop, t1, nI_1]
                 · intro j hj
                   rw [uF_k (by decide), uF_r]
                   by_cases e : j = t.1
                   · rw [e, pk_us]
                     exact pk_us.symm
                   · rw [pk_un e]
                     show _ = upd t.2 t.1 (nI (byt wl i)) j
                     rw [pk_un e]
                     exact t3 j (show j < t.1 by have : j < t.1 + 1 := hj; omega))
theorem a_addB {t : TP} (hT : CTp F t) : Td E d 67 0 [some (vr 5 0), some (vl wl), none, none, none] [] x F G b none (fun F2 G2 => G2 = G ∧ CTp F2 (psh8 wl t) ∧ FrD dTp F F2) := by
  refine d_run 2 rfl ?_
  exact l_addB 8 0 _ t F rfl (by omega) hT
theorem CInv.tp {F F2 : FT} {G : GT} {b : Bool} {o : SG} {t : TP} (h : CInv F G b o) (hf : FrD dTp F F2) (hT : CTp F2 t) : CInv F2 G b (t, o.2) := by
  obtain ⟨h1, h2, h3, h4, h5, h6⟩ := h
  have hn : ∀ k m, 7 ≤ k → F2 k m = F k m := fun k m hk => hf k m (by simp only [dTp, Bool.or_eq_false_iff, decide_eq_false_iff_not]; omega)
  exact ⟨hT, h2.fr (fun k _ _ => hn k _ (by omega)), h3, h4.fr (fun k _ _ => hn k _ (by omega)) (fun k _ _ => hn k _ (by omega)), h5.fr (fun m _ => hn 23 m (by omega)) (fun k m _ _ _ _ => hn k m (by omega)) (fun k m _ _ _ => hn k m (by omega)), h6.fr (fun k m _ _ _ _ => hn k m (by omega)) (hn 29 0 (by omega))⟩
theorem dTp_Cl {F F2 : FT} (h : FrD dTp F F2) : FrD dCl F F2 := h.mo (fun k m e => by
  simp only [decide_eq_false_iff_not] at e
  simp only [dTp, Bool.or_eq_false_iff, decide_eq_false_iff_not]
  omega)
theorem a_feed (h : CInv F G b o) (hd : 100 ≤ d) {wa wc we : Int64} : Td E d 86 0 [some (vr 1 0), some (vl wa), none, some (vl wc), none, some (vl we), none] [] x F G b (some (vi (nI (n_feed o wa wc we).1.1))) (CPost b (n_feed o wa wc we) F G) := by
  refine d_run 1 rfl ?_
  refine d_gR k86_1 (by first | assumption | exact Nat.le_of_ble_eq_true rfl | omega) ⟨rfl, rfl, rfl⟩ rfl ?_
  refine d_run 1 rfl ?_
  refine d_call 2 k86_5 (by omega) (Nat.le_of_ble_eq_true rfl) rfl (Nat.le_of_ble_eq_true rfl) (Nat.le_of_ble_eq_true rfl) (recv_ok rfl (by first | assumption | exact Nat.le_of_ble_eq_true rfl | omega)) rfl (a_addB h.1) rfl ?_
  rintro F1 G1 ⟨rfl, k1, f1⟩
  refine d_run 1 rfl ?_
  refine d_gR k86_9 (by first | assumption | exact Nat.le_of_ble_eq_true rfl | omega) ⟨rfl, rfl, rfl⟩ rfl ?_
  refine d_run 1 rfl ?_
  refine d_call 2 k86_13 (by omega) (Nat.le_of_ble_eq_true rfl) rfl (Nat.le_of_ble_eq_true rfl) (Nat.le_of_ble_eq_true rfl) (recv_ok rfl (by first | assumption | exact Nat.le_of_ble_eq_true rfl | omega)) rfl (a_addB k1) rfl ?_
  rintro F2 G2 ⟨rfl, k2, f2⟩
  refine d_run 1 rfl ?_
  refine d_gR k86_17 (by first | assumption | exact Nat.le_of_ble_eq_true rfl | omega) ⟨rfl, rfl, rfl⟩ rfl ?_
  refine d_run 1 rfl ?_
  refine d_call 2 k86_22 (by omega) (Nat.le_of_ble_eq_true rfl) rfl (Nat.le_of_ble_eq_true rfl) (Nat.le_of_ble_eq_true rfl) (recv_ok rfl (by first | assumption | exact Nat.le_of_ble_eq_true rfl | omega)) rfl (a_addB k2) rfl ?_
  rintro F3 G3 ⟨rfl, k3, f3⟩
  refine d_run 1 rfl ?_
  refine d_gR k86_26 (by first | assumption | exact Nat.le_of_ble_eq_true rfl | omega) ⟨rfl, rfl, rfl⟩ rfl ?_
  refine d_gI k86_29 (by first | assumption | exact Nat.le_of_ble_eq_true rfl | omega) ⟨rfl, rfl, Or.inl rfl⟩ ?_
  refine d_ir k86_32 rfl (by exact k3.1) ?_
  exact ⟨h.tp (f1.tr (f2.tr f3)) k3, dTp_Cl (f1.tr (f2.tr f3)), fun _ _ => rfl⟩
theorem a_forget : Td E d 20 0 [some (vr 29 0)] [] x F G b none (fun F2 G2 => G2 = G ∧ F2 = uF F 29 0 2 0) := by
  refine d_run 2 rfl ?_
  refine d_pI k20_2 (by first | assumption | exact Nat.le_of_ble_eq_true rfl | omega) ⟨rfl, rfl⟩ ?_
  refine d_ret k20_5 ?_
  exact ⟨rfl, rfl⟩
theorem a_mark (h : CInv F G b o) (hw : WF o) (hd : 100 ≤ d) : Td E d 112 0 [some (vr 1 0), some (vi u), some (vi v)] [] x F G b (some (vi (b2i (g_mark o u v)))) (CPost b (n_mark o u v) F G) := by
  have hL := h.2.1
  have hA := hw.1
  have hS := h.2.2.2.1.1
  have hwS := hw.2.1.1
  have hP6 := hA.2.1
  have hS5 := hA.1
  cases hN : isW2 u 0 3 with
  | false =>
    rw [show n_mark o u v = o by simp [n_mark, g_mark, hN], show g_mark o u v = false by simp [g_mark, hN]]
    refine d_run 3 rfl ?_
    refine d_callT 3 k112_3 (by omega) (Nat.le_of_ble_eq_true rfl) rfl (Nat.le_of_ble_eq_true rfl) (Nat.le_of_ble_eq_true rfl) recv_st rfl c_within rfl ?_
    rw [hN]
    refine d_if_ne k112_6 (fun h6 => ?_) (fun h6 => ?_)
    · exact absurd h6 (by decide)
    · refine d_run 1 rfl ?_
      refine d_ib k112_10 (by rfl) ?_
      exact CPost.q h FrD.rf
  | true =>
    obtain ⟨p, hp, rfl⟩ := isW2_ex (H := 3) hN ⟨by decide, rfl, by decide⟩
    by_cases hv : v = 0
    · rw [show n_mark o (nI p) v = (gT o, gN o, gA o, gC o, updM (gM o) p (true, gC o), gP o) by simp [n_mark, g_mark, hN, hv, ix_nI (show p < 100000 by omega)], show g_mark o (nI p) v = true by simp [g_mark, hN, hv]]
      refine d_run 3 rfl ?_
      refine d_callT 3 k112_3 (by omega) (Nat.le_of_ble_eq_true rfl) rfl (Nat.le_of_ble_eq_true rfl) (Nat.le_of_ble_eq_true rfl) recv_st rfl c_within rfl ?_
      rw [hN]
      refine d_if_ne k112_6 (fun h6 => ?_) (fun h6 => ?_)
      · refine d_run 1 rfl ?_
        refine d_if_ne k112_12 (fun h12 => ?_) (fun h12 => ?_)
        · exact absurd hv h12
        · refine d_run 1 rfl ?_
          refine d_gR k112_16 (by first | assumption | exact Nat.le_of_ble_eq_true rfl | omega) ⟨rfl, rfl, rfl⟩ rfl ?_
          refine d_run 1 rfl ?_
          refine d_ra (N := 4) k112_20 (by first | assumption | exact Nat.le_of_ble_eq_true rfl | omega) ⟨⟨rfl, rfl⟩, rfl, rfl, rfl⟩ (show p < 4 by omega) rfl Rs_marks ?_
          refine d_run 1 rfl ?_
          refine d_gR k112_22 (by first | assumption | exact Nat.le_of_ble_eq_true rfl | omega) ⟨rfl, rfl, rfl⟩ rfl ?_
          refine d_call 2 k112_25 (by omega) (Nat.le_of_ble_eq_true rfl) rfl (Nat.le_of_ble_eq_true rfl) (Nat.le_of_ble_eq_true rfl) (recv_ok rfl (by first | assumption | exact Nat.le_of_ble_eq_true rfl | omega | exact Nat.lt_of_lt_of_le (m := 5) (by omega) (Nat.le_of_ble_eq_true rfl))) rfl (a_copySc (n := p + 1) (m := 0) (by omega) (by omega) (by omega) hP6 h.2.2.2.1 (by omega)) rfl ?_
          rintro F1 G1 ⟨rfl, k1, f1⟩
          refine d_run 1 rfl ?_
          refine d_gR k112_29 (by first | assumption | exact Nat.le_of_ble_eq_true rfl | omega) ⟨rfl, rfl, rfl⟩ rfl ?_
          refine d_run 1 rfl ?_
          refine d_ra (N := 4) k112_33 (by first | assumption | exact Nat.le_of_ble_eq_true rfl | omega) ⟨⟨rfl, rfl⟩, rfl, rfl, rfl⟩ (show p < 4 by omega) rfl Rs_marks ?_
          refine d_run 1 rfl ?_
          refine d_pZ k112_35 (by first | assumption | exact Nat.le_of_ble_eq_true rfl | omega | exact Nat.lt_of_lt_of_le (m := 5) (by omega) (Nat.le_of_ble_eq_true rfl)) ⟨rfl, rfl⟩ (by first | exact Or.inl rfl | exact Or.inr rfl) ?_
          refine d_run 1 rfl ?_
          refine d_ib k112_39 (by rfl) ?_
          obtain ⟨h1, h2, h3, h4, h5, h6⟩ := h
          have hn : ∀ k m, (k < 25 ∨ 28 < k ∨ m ≠ p + 1) → k ≠ 18 → (k < 19 ∨ 22 < k ∨ m ≠ p + 1 + 1) → (k ≠ 24 ∨ m ≠ p + 1) → (k ≠ 23 ∨ m ≠ p + 1) → uF F1 23 (p + 1) 3 1 k m = F k m := by
            intro k m a1 a2 a3 a4 a5
            rw [← f1 k m (dSc_no a1 a2 a3 a4)]
            rcases a5 with a5 | a5
            · rw [uF_k a5]
            · rw [uF_n a5]
          refine ⟨⟨h1.fr (hn 5 0 (by omega) (by omega) (by omega) (by omega) (by omega)) (hn 6 0 (by omega) (by omega) (by omega) (by omega) (by omega)), h2.fr (fun k a b => hn k _ (by omega) (by omega) (by omega) (by omega) (by omega)), h3, h4.fr (fun k a b => hn k _ (by omega) (by omega) (by omega) (by omega) (by omega)) (fun k a b => hn k _ (by omega) (by omega) (by omega) (by omega) (by omega)), h5.set f1 (by omega) k1, h6.fr (fun k m a b c d => hn k m (by omega) (by omega) (by omega) (by omega) (by omega)) (hn 29 0 (by omega) (by omega) (by omega) (by omega) (by omega))⟩, ?_, fun _ _ => rfl⟩
          intro k m e
          simp only [decide_eq_false_iff_not] at e
          exact hn k m (by omega) (by omega) (by omega) (by omega) (by omega)
      · exact absurd h6 (by decide)
    · cases hm : (gM o p).1 with
      | false =>
        rw [show n_mark o (nI p) v = o by simp [n_mark, g_mark, hm, hv, ix_nI (show p < 100000 by omega)], show g_mark o (nI p) v = false by simp [g_mark, hm, hv, ix_nI (show p < 100000 by omega)]]
        have hl := (h.2.2.2.2.1 p (by omega)).1
        rw [hm] at hl
        refine d_run 3 rfl ?_
        refine d_callT 3 k112_3 (by omega) (Nat.le_of_ble_eq_true rfl) rfl (Nat.le_of_ble_eq_true rfl) (Nat.le_of_ble_eq_true rfl) recv_st rfl c_within rfl ?_
        rw [hN]
        refine d_if_ne k112_6 (fun h6 => ?_) (fun h6 => ?_)
        · refine d_run 1 rfl ?_
          refine d_if_ne k112_12 (fun h12 => ?_) (fun h12 => ?_)
          · refine d_run 1 rfl ?_
            refine d_gR k112_41 (by first | assumption | exact Nat.le_of_ble_eq_true rfl | omega) ⟨rfl, rfl, rfl⟩ rfl ?_
            refine d_run 1 rfl ?_
            refine d_ra (N := 4) k112_45 (by first | assumption | exact Nat.le_of_ble_eq_true rfl | omega) ⟨⟨rfl, rfl⟩, rfl, rfl, rfl⟩ (show p < 4 by omega) rfl Rs_marks ?_
            refine d_gI k112_46 (by first | assumption | exact Nat.le_of_ble_eq_true rfl | omega | exact Nat.lt_of_lt_of_le (m := 5) (by omega) (Nat.le_of_ble_eq_true rfl)) ⟨rfl, rfl, Or.inr rfl⟩ ?_
            rw [hl]
            refine d_if_ne k112_49 (fun h49 => ?_) (fun h49 => ?_)
            · exact absurd h49 (by decide)
            · refine d_run 1 rfl ?_
              refine d_ib k112_53 (by rfl) ?_
              exact CPost.q h FrD.rf
          · exact absurd h12 hv
        · exact absurd h6 (by decide)
      | true =>
        rw [show n_mark o (nI p) v = (gT o, gN o, gA o, (gM o p).2, gM o, []) by simp [n_mark, g_mark, hN, hm, hv, ix_nI (show p < 100000 by omega)], show g_mark o (nI p) v = true by simp [g_mark, hN, hm, ix_nI (show p < 100000 by omega)]]
        obtain ⟨hl, hc⟩ := h.2.2.2.2.1 p (by omega)
        have hc := hc hm
        rw [hm] at hl
        refine d_run 3 rfl ?_
        refine d_callT 3 k112_3 (by omega) (Nat.le_of_ble_eq_true rfl) rfl (Nat.le_of_ble_eq_true rfl) (Nat.le_of_ble_eq_true rfl) recv_st rfl c_within rfl ?_
        rw [hN]
        refine d_if_ne k112_6 (fun h6 => ?_) (fun h6 => ?_)
        · refine d_run 1 rfl ?_
          refine d_if_ne k112_12 (fun h12 => ?_) (fun h12 => ?_)
          · refine d_run 1 rfl ?_
            refine d_gR k112_41 (by first | assumption | exact Nat.le_of_ble_eq_true rfl | omega) ⟨rfl, rfl, rfl⟩ rfl ?_
            refine d_run 1 rfl ?_
            refine d_ra (N := 4) k112_45 (by first | assumption | exact Nat.le_of_ble_eq_true rfl | omega) ⟨⟨rfl, rfl⟩, rfl, rfl, rfl⟩ (show p < 4 by omega) rfl Rs_marks ?_
            refine d_gI k112_46 (by first | assumption | exact Nat.le_of_ble_eq_true rfl | omega | exact Nat.lt_of_lt_of_le (m := 5) (by omega) (Nat.le_of_ble_eq_true rfl)) ⟨rfl, rfl, Or.inr rfl⟩ ?_
            rw [hl]
            refine d_if_ne k112_49 (fun h49 => ?_) (fun h49 => ?_)
            · refine d_run 1 rfl ?_
              refine d_gR k112_55 (by first | assumption | exact Nat.le_of_ble_eq_true rfl | omega) ⟨rfl, rfl, rfl⟩ rfl ?_
              refine d_run 1 rfl ?_
              refine d_gR k112_59 (by first | assumption | exact Nat.le_of_ble_eq_true rfl | omega) ⟨rfl, rfl, rfl⟩ rfl ?_
              refine d_run 1 rfl ?_
              refine d_ra (N := 4) k112_63 (by first | assumption | exact Nat.le_of_ble_eq_true rfl | omega) ⟨⟨rfl, rfl⟩, rfl, rfl, rfl⟩ (show p < 4 by omega) rfl Rs_marks ?_
              refine d_call 2 k112_64 (by omega) (Nat.le_of_ble_eq_true rfl) rfl (Nat.le_of_ble_eq_true rfl) (Nat.le_of_ble_eq_true rfl) (recv_ok rfl (by first | assumption | exact Nat.le_of_ble_eq_true rfl | omega | exact Nat.lt_of_lt_of_le (m := 5) (by omega) (Nat.le_of_ble_eq_true rfl))) rfl (a_copySc (n := 0) (m := p + 1) (by omega) (by omega) (by omega) hP6 hc (by omega)) rfl ?_
              rintro F1 G1 ⟨rfl, k1, f1⟩
              refine d_run 1 rfl ?_
              refine d_gR k112_68 (by first | assumption | exact Nat.le_of_ble_eq_true rfl | omega) ⟨rfl, rfl, rfl⟩ rfl ?_
              refine d_call 1 k112_71 (by omega) (Nat.le_of_ble_eq_true rfl) rfl (Nat.le_of_ble_eq_true rfl) (Nat.le_of_ble_eq_true rfl) (recv_ok rfl (by first | assumption | exact Nat.le_of_ble_eq_true rfl | omega)) rfl a_forget rfl ?_
              rintro F2 G2 ⟨rfl, rfl⟩
              refine d_run 1 rfl ?_
              refine d_ib k112_75 (by rfl) ?_
              obtain ⟨h1, h2, h3, h4, h5, nw, n1, n2, n3, n4, n5⟩ := h
              have hn : ∀ k m, (k < 25 ∨ 28 < k ∨ m ≠ 0) → k ≠ 18 → (k < 19 ∨ 22 < k ∨ m ≠ 0 + 1) → (k ≠ 24 ∨ m ≠ 0) → k ≠ 29 → uF F1 29 0 2 0 k m = F k m := by
                intro k m a1 a2 a3 a4 a5
                rw [← f1 k m (dSc_no a1 a2 a3 a4), uF_k a5]
              refine ⟨⟨h1.fr (hn 5 0 (by omega) (by omega) (by omega) (by omega) (by omega)) (hn 6 0 (by omega) (by omega) (by omega) (by omega) (by omega)), h2.fr (fun k a b => hn k _ (by omega) (by omega) (by omega) (by omega) (by omega)), h3, k1.fr (fun k a b => by rw [uF_k (by omega)]) (fun k a b => by rw [uF_k (by omega)]), h5.fr (fun m a => hn 23 m (by omega) (by omega) (by omega) (by omega) (by omega)) (fun k m a b c d => hn k m (by omega) (by omega) (by omega) (by omega) (by omega)) (fun k m a b c => hn k m (by omega) (by omega) (by omega) (by omega) (by omega)), nw, n1, ?_, ?_, Nat.le_of_ble_eq_true rfl, fun j hj => absurd hj (Nat.not_lt_zero _)⟩, ?_, fun _ _ => rfl⟩
              · have : F1 29 0 1 = nI nw := by rw [f1 29 0 (dSc_no (by omega) (by omega) (by omega) (by omega))]; exact n2
                simp [uF, this]
              · simp [uF]; rfl
              · intro k m e
                simp only [decide_eq_false_iff_not] at e
                exact hn k m (by omega) (by omega) (by omega) (by omega) (by omega)
            · exact absurd h49 (by decide)
          · exact absurd h12 hv
        · exact absurd h6 (by decide)
end P12
