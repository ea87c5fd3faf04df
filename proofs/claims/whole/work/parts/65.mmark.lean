theorem d_dr11111111000 {E : EV} {d m pc x : Nat} {st : List PV} {F : FT} {G : GT} {b : Bool} {r : Option PV} {Q : FT → GT → Prop} {a0 a1 a2 a3 a4 a5 a6 a7 a8 a9 a10 : Option PV} (kk : Td E d m pc [a0, a1, a2, a3, a4, a5, a6, a7, none, none, none] st x F G b r Q) : Td E d m pc [a0, a1, a2, a3, a4, a5, a6, a7, a8, a9, a10] st x F G b r Q := d_le (by simp [leL]) kk
/-! FEED, MARK OF THE REFERENCE -/
theorem lN_and255 (n : Nat) : lN n &&& 255 = lN (n % 256) := by
  show Int64.ofNat n &&& _ = Int64.ofNat _
  rw [← Int64.toBitVec_inj]
  apply BitVec.eq_of_toNat_eq
  rw [Int64.toBitVec_and, BitVec.toNat_and]
  have e1 : (Int64.ofNat n).toBitVec = BitVec.ofNat 64 n := lN_bv0 n
  have e2 : (Int64.ofNat (n % 256)).toBitVec = BitVec.ofNat 64 (n % 256) := lN_bv0 _
  rw [e1, e2, BitVec.toNat_ofNat, BitVec.toNat_ofNat]
  have e3 : (255 : Int64).toBitVec.toNat = 2 ^ 8 - 1 := by decide
  rw [e3, Nat.and_two_pow_sub_one_eq_mod]
  omega
theorem sh_m8 : ∀ k, k < 24 → ibop 1 56 (ibop 2 8 (ibop 3 (nI k) 7)) = nI (56 - 8 * (k % 8)) := by decide +kernel
theorem byt_m (w : Int64) {k : Nat} (hk : k < 24) : (lbop 3 (w.toUInt64 >>> ((ibop 1 56 (ibop 2 8 (ibop 3 (nI k) 7))).toInt64.toUInt64 &&& Int64.toUInt64 63)).toInt64 255).toInt32 = nI (byt w (k % 8)) := by
  rw [sh_m8 k hk]
  obtain ⟨n, hn, rfl⟩ := wb_of w
  rw [wb_shr hn (by omega)]
  show (lN _ &&& 255).toInt32 = _
  rw [lN_and255, lN_i, byt, wb_tn hn]
def sel3 (a c e : Int64) (k : Nat) : Int64 := if k < 8 then a else if k < 16 then c else e
theorem fed24 (a c e : Int64) (t : TP) : lpN (fun k t => pshT (byt (sel3 a c e k) (k % 8)) t) 0 24 t = psh8 e (psh8 c (psh8 a t)) := by
  simp [lpN, psh8, sel3]
def dFd (k : Nat) : Bool := decide (k = 40) || decide (k = 41)
theorem MPost.fd {F F2 : FT} {G : GT} {o : SG} {t : TP} (h : MInv F G o) (hT : MTp F2 t) (hi : ∀ i, i ≠ 1 → F2 40 0 i = F 40 0 i) (hf : FrK dFd F F2) : MPost (t, o.2) F G F2 G := by
  obtain ⟨i1, i2, i3, i4, i5, i6⟩ := h
  have hn : ∀ k, k ≠ 40 → k ≠ 41 → F2 k = F k := fun k a b => hf k (by simp only [dFd, Bool.or_eq_false_iff, decide_eq_false_iff_not]; omega)
  refine ⟨⟨hT, i2.fr (fun k a b => hn k (by omega) (by omega)), i3, ⟨?_, i4.2.1.fr (fun k a b => hn k (by omega) (by omega)), ?_⟩, i5.fr (fun k a b => hn k (by omega) (by omega)) (hn 73 (by decide) (by decide)) (hn 75 (by decide) (by decide)), i6.fr (hi 49 (by decide)) (hn 74 (by decide) (by decide))⟩, hf.mo (fun k e => ?_), fun _ _ => rfl⟩
  · rw [hn 70 (by decide) (by decide)]; exact i4.1
  · rw [hn 69 (by decide) (by decide)]; exact i4.2.2
  · simp only [dMo, Bool.and_eq_false_iff, Bool.not_eq_false', Bool.and_eq_true, decide_eq_false_iff_not, decide_eq_true_eq] at e
    simp only [dFd, Bool.or_eq_false_iff, decide_eq_false_iff_not]
    omega
theorem ix40 (a c : Nat) : ibop 0 (ibop 2 40 (nI a)) (nI c) = nI (40 * a + c) := by
  show 40 * nI a + nI c = _
  rw [show (40 : Int32) = nI 40 from rfl, pk_mul, nI_add]
theorem ix6b (a c : Nat) : ibop 0 (ibop 2 6 (nI a)) (nI c) = nI (6 * a + c) := by
  show 6 * nI a + nI c = _
  rw [show (6 : Int32) = nI 6 from rfl, pk_mul, nI_add]
def dLy (k : Nat) : Bool := decide (65 ≤ k) && decide (k ≤ 68)
/-- lines laid from f to t -/
def LyQ (F F2 : FT) (f t : Nat) : Prop := (∀ w, MW F f w → MW F2 t w) ∧ (∀ n w, n ≠ t → MW F n w → MW F2 n w) ∧ FrK dLy F F2
def LyR (F0 F : FT) (K f t i : Nat) : Prop := (∀ j, j < i → F K 0 (40 * t + j) = F0 K 0 (40 * f + j)) ∧ ∀ j, (j < 40 * t ∨ 40 * t + i ≤ j) → F K 0 j = F0 K 0 j
theorem LyR.u {F0 F : FT} {K f t i : Nat} (h : LyR F0 F K f t i) {v : Int32} (hv : v = F0 K 0 (40 * f + i)) : LyR F0 (uF F K 0 (40 * t + i) v) K f t (i + 1) := by
  refine ⟨fun j hj => ?_, fun j hj => ?_⟩
  · rw [uF_r]
    by_cases e : j = i
    · subst e
      rw [pk_us, hv]
    · rw [pk_un (by omega)]
      exact h.1 j (by omega)
  · rw [uF_r, pk_un (by omega)]
    exact h.2 j (by omega)
theorem LyR.k {F0 F : FT} {K f t i K2 n2 j2 : Nat} {v : Int32} (h : LyR F0 F K f t i) (hk : K ≠ K2) : LyR F0 (uF F K2 n2 j2 v) K f t i := by
  unfold LyR
  rw [uF_k hk]
  exact h
theorem LyQ.of {F0 F : FT} {f t : Nat} (h65 : F 65 0 t = F0 65 0 f) (h65b : ∀ i, i ≠ t → F 65 0 i = F0 65 0 i) (h66 : LyR F0 F 66 f t 40) (h67 : LyR F0 F 67 f t 40) (h68 : LyR F0 F 68 f t 40) (hf : FrK dLy F0 F) : LyQ F0 F f t := by
  refine ⟨fun w hw => ?_, fun n w hn hw => ?_, hf⟩
  · obtain ⟨a, c, e⟩ := hw
    refine ⟨h65.trans a, c, fun i hi => ?_⟩
    rw [h66.1 i (by omega), h67.1 i (by omega), h68.1 i (by omega)]
    exact e i hi
  · obtain ⟨a, c, e⟩ := hw
    refine ⟨(h65b n hn).trans a, c, fun i hi => ?_⟩
    rw [h66.2 _ (by omega), h67.2 _ (by omega), h68.2 _ (by omega)]
    exact e i hi
section M18
variable {E : EV} {d x : Nat} {F : FT} {G : GT} {b : Bool} {o : SG} {u v w : Int32}
theorem l_mfd1 {wa wc we wl : Int64} {i : Nat} {t : TP} {R : Option PV} {QQ : FT → GT → Prop} (hi : i < 24) (hT : MTp F t) (kk : ∀ F2, MTp F2 (pshT (byt wl (i % 8)) t) → (∀ j, j ≠ 1 → F2 40 0 j = F 40 0 j) → FrK dFd F F2 → Td E d 133 114 [some (vr 40 0), some (vl wa), none, some (vl wc), none, some (vl we), none, some (vi (nI i)), none, none, none] [] x F2 G b R (QQ)) : Td E d 133 39 [some (vr 40 0), some (vl wa), none, some (vl wc), none, some (vl we), none, some (vi (nI i)), none, none, none] [vl wl] x F G b R (QQ) := by
  have hc := byt_lt wl (i % 8)
  have ho := okc_nI hc
  obtain ⟨t1, t2, t3⟩ := hT
  refine d_run 15 rfl ?_
  rw [byt_m wl hi]
  refine d_gI k133_63 (by first | assumption | exact Nat.le_of_ble_eq_true rfl | omega) ⟨rfl, rfl, Or.inl rfl⟩ ?_
  rw [t1]
  refine d_run 1 rfl ?_
  refine d_ic_ge k133_69 (fun h69 => ?_) (fun h69 => ?_)
  · have e69 : ¬ t.1 < 1000 := by have := ge_nI (a := t.1) (b := 1000) h69 rfl (by omega) (by omega); omega
    have eO : (okc (byt wl (i % 8)) && decide (t.1 < 1000)) = false := by rw [decide_eq_false e69, Bool.and_false]
    refine d_dr11111111000 ?_
    first
    | (have e : pshT (byt wl (i % 8)) t = t := by simp only [pshT]; rw [eO]; rfl
       rw [e] at kk
       exact kk F ⟨t1, t2, t3⟩ (fun _ _ => rfl) FrK.rf)
    | (have e : pshT (byt wl (i % 8)) t = (t.1 + 1, upd t.2 t.1 (nI (byt wl (i % 8)))) := by simp only [pshT]; rw [eO]; rfl
       rw [e] at kk
       refine kk _ ⟨?_, by show t.1 + 1 ≤ 1000; omega, fun j hj => ?_⟩ (fun j hj => ?_) ((FrK.rf.u rfl).u rfl)
       · rw [uF_r, pk_us]
       · rw [uF_k (by decide), uF_r]
         simp only [upd]
         split
         · rfl
         · exact t3 j (by have : j < t.1 + 1 := hj; omega)
       · rw [uF_r, pk_un hj, uF_k (by decide)])
  · have e69 : t.1 < 1000 := lt_nI (a := t.1) (b := 1000) h69 rfl (by omega) (by omega)
    refine d_run 2 rfl ?_
    refine d_ic_eq k133_76 (fun h76 => ?_) (fun h76 => ?_)
    · rw [ho.1] at h76
      have eO : (okc (byt wl (i % 8)) && decide (t.1 < 1000)) = true := by rw [decide_eq_true e69, Bool.and_true]; simp only [okc]; rw [decide_eq_true h76]; rfl
      refine d_run 1 rfl ?_
      refine d_gR k133_94 (by first | assumption | exact Nat.le_of_ble_eq_true rfl | omega) ⟨rfl, rfl, rfl⟩ rfl ?_
      refine d_run 1 rfl ?_
      refine d_gI k133_98 (by first | assumption | exact Nat.le_of_ble_eq_true rfl | omega) ⟨rfl, rfl, Or.inl rfl⟩ ?_
      rw [t1]
      refine d_run 1 rfl ?_
      refine d_is (N := 1000) (j := t.1) k133_103 (by first | assumption | exact Nat.le_of_ble_eq_true rfl | omega) ⟨rfl, rfl⟩ (show t.1 < 1000 by omega) rfl ?_
      refine d_run 2 rfl ?_
      refine d_gI k133_106 (by first | assumption | exact Nat.le_of_ble_eq_true rfl | omega) ⟨rfl, rfl, Or.inl rfl⟩ ?_
      rw [uF_k (by decide), t1]
      refine d_run 2 rfl ?_
      rw [show ibop 0 (nI t.1) 1 = nI (t.1 + 1) from nI_1 _]
      refine d_pI k133_111 (by first | assumption | exact Nat.le_of_ble_eq_true rfl | omega) ⟨rfl, rfl⟩ ?_
      refine d_dr11111111000 ?_
      first
      | (have e : pshT (byt wl (i % 8)) t = t := by simp only [pshT]; rw [eO]; rfl
         rw [e] at kk
         exact kk F ⟨t1, t2, t3⟩ (fun _ _ => rfl) FrK.rf)
      | (have e : pshT (byt wl (i % 8)) t = (t.1 + 1, upd t.2 t.1 (nI (byt wl (i % 8)))) := by simp only [pshT]; rw [eO]; rfl
         rw [e] at kk
         refine kk _ ⟨?_, by show t.1 + 1 ≤ 1000; omega, fun j hj => ?_⟩ (fun j hj => ?_) ((FrK.rf.u rfl).u rfl)
         · rw [uF_r, pk_us]
         · rw [uF_k (by decide), uF_r]
           simp only [upd]
           split
           · rfl
           · exact t3 j (by have : j < t.1 + 1 := hj; omega)
         · rw [uF_r, pk_un hj, uF_k (by decide)])
    · rw [ho.1] at h76
      refine d_run 2 rfl ?_
      refine d_ic_lt k133_83 (fun h83 => ?_) (fun h83 => ?_)
      · rw [ho.2.1] at h83
        have eO : (okc (byt wl (i % 8)) && decide (t.1 < 1000)) = false := by simp only [okc]; rw [decide_eq_false h76, decide_eq_false (show ¬ 32 ≤ byt wl (i % 8) by omega)]; rfl
        refine d_dr11111111000 ?_
        first
        | (have e : pshT (byt wl (i % 8)) t = t := by simp only [pshT]; rw [eO]; rfl
           rw [e] at kk
           exact kk F ⟨t1, t2, t3⟩ (fun _ _ => rfl) FrK.rf)
        | (have e : pshT (byt wl (i % 8)) t = (t.1 + 1, upd t.2 t.1 (nI (byt wl (i % 8)))) := by simp only [pshT]; rw [eO]; rfl
           rw [e] at kk
           refine kk _ ⟨?_, by show t.1 + 1 ≤ 1000; omega, fun j hj => ?_⟩ (fun j hj => ?_) ((FrK.rf.u rfl).u rfl)
           · rw [uF_r, pk_us]
           · rw [uF_k (by decide), uF_r]
             simp only [upd]
             split
             · rfl
             · exact t3 j (by have : j < t.1 + 1 := hj; omega)
           · rw [uF_r, pk_un hj, uF_k (by decide)])
      · rw [ho.2.1] at h83
        refine d_run 2 rfl ?_
        refine d_ic_gt k133_90 (fun h90 => ?_) (fun h90 => ?_)
        · rw [ho.2.2] at h90
          have eO : (okc (byt wl (i % 8)) && decide (t.1 < 1000)) = false := by simp only [okc]; rw [decide_eq_false h76, decide_eq_false (show ¬ byt wl (i % 8) ≤ 126 by omega), Bool.and_false]; rfl
          refine d_dr11111111000 ?_
          first
          | (have e : pshT (byt wl (i % 8)) t = t := by simp only [pshT]; rw [eO]; rfl
             rw [e] at kk
             exact kk F ⟨t1, t2, t3⟩ (fun _ _ => rfl) FrK.rf)
          | (have e : pshT (byt wl (i % 8)) t = (t.1 + 1, upd t.2 t.1 (nI (byt wl (i % 8)))) := by simp only [pshT]; rw [eO]; rfl
             rw [e] at kk
             refine kk _ ⟨?_, by show t.1 + 1 ≤ 1000; omega, fun j hj => ?_⟩ (fun j hj => ?_) ((FrK.rf.u rfl).u rfl)
             · rw [uF_r, pk_us]
             · rw [uF_k (by decide), uF_r]
               simp only [upd]
               split
               · rfl
               · exact t3 j (by have : j < t.1 + 1 := hj; omega)
             · rw [uF_r, pk_un hj, uF_k (by decide)])
        · rw [ho.2.2] at h90
          have eO : (okc (byt wl (i % 8)) && decide (t.1 < 1000)) = true := by rw [decide_eq_true e69, Bool.and_true]; simp only [okc]; rw [decide_eq_true (show 32 ≤ byt wl (i % 8) by omega), decide_eq_true (show byt wl (i % 8) ≤ 126 by omega), Bool.and_true, Bool.or_true]
          refine d_run 1 rfl ?_
          refine d_gR k133_94 (by first | assumption | exact Nat.le_of_ble_eq_true rfl | omega) ⟨rfl, rfl, rfl⟩ rfl ?_
          refine d_run 1 rfl ?_
          refine d_gI k133_98 (by first | assumption | exact Nat.le_of_ble_eq_true rfl | omega) ⟨rfl, rfl, Or.inl rfl⟩ ?_
          rw [t1]
          refine d_run 1 rfl ?_
          refine d_is (N := 1000) (j := t.1) k133_103 (by first | assumption | exact Nat.le_of_ble_eq_true rfl | omega) ⟨rfl, rfl⟩ (show t.1 < 1000 by omega) rfl ?_
          refine d_run 2 rfl ?_
          refine d_gI k133_106 (by first | assumption | exact Nat.le_of_ble_eq_true rfl | omega) ⟨rfl, rfl, Or.inl rfl⟩ ?_
          rw [uF_k (by decide), t1]
          refine d_run 2 rfl ?_
          rw [show ibop 0 (nI t.1) 1 = nI (t.1 + 1) from nI_1 _]
          refine d_pI k133_111 (by first | assumption | exact Nat.le_of_ble_eq_true rfl | omega) ⟨rfl, rfl⟩ ?_
          refine d_dr11111111000 ?_
          first
          | (have e : pshT (byt wl (i % 8)) t = t := by simp only [pshT]; rw [eO]; rfl
             rw [e] at kk
             exact kk F ⟨t1, t2, t3⟩ (fun _ _ => rfl) FrK.rf)
          | (have e : pshT (byt wl (i % 8)) t = (t.1 + 1, upd t.2 t.1 (nI (byt wl (i % 8)))) := by simp only [pshT]; rw [eO]; rfl
             rw [e] at kk
             refine kk _ ⟨?_, by show t.1 + 1 ≤ 1000; omega, fun j hj => ?_⟩ (fun j hj => ?_) ((FrK.rf.u rfl).u rfl)
             · rw [uF_r, pk_us]
             · rw [uF_k (by decide), uF_r]
               simp only [upd]
               split
               · rfl
               · exact t3 j (by have : j < t.1 + 1 := hj; omega)
             · rw [uF_r, pk_un hj, uF_k (by decide)])
theorem l_mfd {wa wc we : Int64} {F0 : FT} : ∀ (r i : Nat) (iv : Int32) (t : TP) (F : FT), iv = nI i → i + r = 24 → MTp F t → (∀ j, j ≠ 1 → F 40 0 j = F0 40 0 j) → FrK dFd F0 F → Td E d 133 8 [some (vr 40 0), some (vl wa), none, some (vl wc), none, some (vl we), none, some (vi iv), none, none, none] [] x F G b (some (vi (nI (lpN (fun k t => pshT (byt (sel3 wa wc we k) (k % 8)) t) i r t).1))) (fun F2 G2 => G2 = G ∧ MTp F2 (lpN (fun k t => pshT (byt (sel3 wa wc we k) (k % 8)) t) i r t) ∧ (∀ j, j ≠ 1 → F2 40 0 j = F0 40 0 j) ∧ FrK dFd F0 F2) := by
  intro r
  induction r with
  | zero =>
    intro i iv t F hiv hir hT q1 q3
    subst hiv
    have hi : i = 24 := by omega
    refine d_run 2 rfl ?_
    refine d_ic_ge k133_12 (fun h12 => ?_) (fun h12 => ?_)
    · refine d_run 1 rfl ?_
      refine d_gI k133_121 (by first | assumption | exact Nat.le_of_ble_eq_true rfl | omega) ⟨rfl, rfl, Or.inl rfl⟩ ?_
      refine d_ir k133_124 rfl (by exact hT.1) ?_
      exact ⟨rfl, hT, q1, q3⟩
    · exact absurd (lt_nI h12 (b := 24) rfl (by omega) (by omega)) (by omega)
  | succ r ih =>
    intro i iv t F hiv hir hT q1 q3
    subst hiv
    have hi : i < 24 := by omega
    refine d_run 2 rfl ?_
    refine d_ic_ge k133_12 (fun h12 => ?_) (fun h12 => ?_)
    · exact absurd (ge_nI h12 (b := 24) rfl (by omega) (by omega)) (by omega)
    · refine d_run 2 rfl ?_
      refine d_ic_ge k133_19 (fun h19 => ?_) (fun h19 => ?_)
      · have h19 := ge_nI (a := i) (b := 8) h19 rfl (by omega) (by omega)
        refine d_run 2 rfl ?_
        refine d_ic_ge k133_30 (fun h30 => ?_) (fun h30 => ?_)
        · have h30 := ge_nI (a := i) (b := 16) h30 rfl (by omega) (by omega)
          have eS : sel3 wa wc we i = we := by simp only [sel3]; rw [if_neg (by omega), if_neg (by omega)]
          refine d_run 1 rfl ?_
          simp only [lpN]
          rw [eS]
          refine l_mfd1 hi hT (fun F2 a1 a2 a3 => ?_)
          refine d_run 2 rfl ?_
          exact ih (i + 1) _ _ F2 (nI_1 i) (by omega) a1 (fun j hj => (a2 j hj).trans (q1 j hj)) (q3.tr a3)
        · have h30 := lt_nI (a := i) (b := 16) h30 rfl (by omega) (by omega)
          have eS : sel3 wa wc we i = wc := by simp only [sel3]; rw [if_neg (by omega), if_pos h30]
          refine d_run 2 rfl ?_
          simp only [lpN]
          rw [eS]
          refine l_mfd1 hi hT (fun F2 a1 a2 a3 => ?_)
          refine d_run 2 rfl ?_
          exact ih (i + 1) _ _ F2 (nI_1 i) (by omega) a1 (fun j hj => (a2 j hj).trans (q1 j hj)) (q3.tr a3)
      · have h19 := lt_nI (a := i) (b := 8) h19 rfl (by omega) (by omega)
        have eS : sel3 wa wc we i = wa := by simp only [sel3]; rw [if_pos h19]
        refine d_run 2 rfl ?_
        simp only [lpN]
        rw [eS]
        refine l_mfd1 hi hT (fun F2 a1 a2 a3 => ?_)
        refine d_run 2 rfl ?_
        exact ih (i + 1) _ _ F2 (nI_1 i) (by omega) a1 (fun j hj => (a2 j hj).trans (q1 j hj)) (q3.tr a3)
theorem e_feed (h : MInv F G o) (hw : WF o) (hd : 90 ≤ d) {wa wc we : Int64} : Td E d 133 0 [some (vr 40 0), some (vl wa), none, some (vl wc), none, some (vl we), none, none, none, none, none] [] x F G b (some (vi (nI (n_feed o wa wc we).1.1))) (MPost (n_feed o wa wc we) F G) := by
  rw [show n_feed o wa wc we = (psh8 we (psh8 wc (psh8 wa (gT o))), o.2) from rfl, ← fed24]
  refine d_run 2 rfl ?_
  refine d_pI k133_2 (by first | assumption | exact Nat.le_of_ble_eq_true rfl | omega) ⟨rfl, rfl⟩ ?_
  refine d_run 2 rfl ?_
  have h0 := h.th hw (i := 0) (v := 0) (by decide) (by decide)
  refine td_mo (l_mfd (F0 := uF F 40 0 0 0) 24 0 _ (gT o) _ rfl (by omega) h0.1.1 (fun _ _ => rfl) FrK.rf) ?_
  rintro F2 G2 ⟨rfl, a1, a2, a3⟩
  exact h0.tr (MPost.fd h0.1 a1 a2 a3)
theorem l_lays {F0 : FT} {f t : Nat} (hf5 : f ≤ 5) (ht5 : t ≤ 5) (hft : f ≠ t) : ∀ (r i : Nat) (iv : Int32) (F : FT), iv = nI i → i + r = 40 → F 65 0 t = F0 65 0 f → (∀ i, i ≠ t → F 65 0 i = F0 65 0 i) → LyR F0 F 66 f t i → LyR F0 F 67 f t i → LyR F0 F 68 f t i → FrK dLy F0 F → Td E d 170 14 [some (vr 40 0), some (vi (nI f)), some (vi (nI t)), some (vi iv)] [] x F G b none (fun F2 G2 => G2 = G ∧ LyQ F0 F2 f t) := by
  intro r
  induction r with
  | zero =>
    intro i iv F hiv hir h65 h65b h66 h67 h68 q3
    subst hiv
    have hi : i = 40 := by omega
    refine d_run 2 rfl ?_
    refine d_ic_ge k170_17 (fun h17 => ?_) (fun h17 => ?_)
    · refine d_ret k170_92 ?_
      rw [hi] at h66 h67 h68
      exact ⟨rfl, LyQ.of h65 h65b h66 h67 h68 q3⟩
    · exact absurd (lt_nI h17 (b := 40) rfl (by omega) (by omega)) (by omega)
  | succ r ih =>
    intro i iv F hiv hir h65 h65b h66 h67 h68 q3
    subst hiv
    have hi : i < 40 := by omega
    refine d_run 2 rfl ?_
    refine d_ic_ge k170_17 (fun h17 => ?_) (fun h17 => ?_)
    · exact absurd (ge_nI h17 (b := 40) rfl (by omega) (by omega)) (by omega)
    · refine d_run 1 rfl ?_
      refine d_gR k170_21 (by first | assumption | exact Nat.le_of_ble_eq_true rfl | omega) ⟨rfl, rfl, rfl⟩ rfl ?_
      refine d_run 6 rfl ?_
      refine d_gR k170_31 (by first | assumption | exact Nat.le_of_ble_eq_true rfl | omega) ⟨rfl, rfl, rfl⟩ rfl ?_
      refine d_run 5 rfl ?_
      refine d_ia (N := 240) (j := 40 * f + i) k170_40 (by decide) (by first | assumption | exact Nat.le_of_ble_eq_true rfl | omega) ⟨⟨rfl, rfl⟩, rfl, rfl⟩ (show 40 * f + i < 240 by omega) (ix40 f i) ?_
      rw [h66.2 _ (by omega)]
      refine d_is (N := 240) (j := 40 * t + i) k170_41 (by first | assumption | exact Nat.le_of_ble_eq_true rfl | omega) ⟨rfl, rfl⟩ (show 40 * t + i < 240 by omega) (ix40 t i) ?_
      refine d_run 1 rfl ?_
      refine d_gR k170_43 (by first | assumption | exact Nat.le_of_ble_eq_true rfl | omega) ⟨rfl, rfl, rfl⟩ rfl ?_
      refine d_run 6 rfl ?_
      refine d_gR k170_53 (by first | assumption | exact Nat.le_of_ble_eq_true rfl | omega) ⟨rfl, rfl, rfl⟩ rfl ?_
      refine d_run 5 rfl ?_
      refine d_ia (N := 240) (j := 40 * f + i) k170_62 (by decide) (by first | assumption | exact Nat.le_of_ble_eq_true rfl | omega) ⟨⟨rfl, rfl⟩, rfl, rfl⟩ (show 40 * f + i < 240 by omega) (ix40 f i) ?_
      rw [uF_k (by decide), h67.2 _ (by omega)]
      refine d_is (N := 240) (j := 40 * t + i) k170_63 (by first | assumption | exact Nat.le_of_ble_eq_true rfl | omega) ⟨rfl, rfl⟩ (show 40 * t + i < 240 by omega) (ix40 t i) ?_
      refine d_run 1 rfl ?_
      refine d_gR k170_65 (by first | assumption | exact Nat.le_of_ble_eq_true rfl | omega) ⟨rfl, rfl, rfl⟩ rfl ?_
      refine d_run 6 rfl ?_
      refine d_gR k170_75 (by first | assumption | exact Nat.le_of_ble_eq_true rfl | omega) ⟨rfl, rfl, rfl⟩ rfl ?_
      refine d_run 5 rfl ?_
      refine d_ia (N := 240) (j := 40 * f + i) k170_84 (by decide) (by first | assumption | exact Nat.le_of_ble_eq_true rfl | omega) ⟨⟨rfl, rfl⟩, rfl, rfl⟩ (show 40 * f + i < 240 by omega) (ix40 f i) ?_
      rw [uF_k (by decide), uF_k (by decide), h68.2 _ (by omega)]
      refine d_is (N := 240) (j := 40 * t + i) k170_85 (by first | assumption | exact Nat.le_of_ble_eq_true rfl | omega) ⟨rfl, rfl⟩ (show 40 * t + i < 240 by omega) (ix40 t i) ?_
      refine d_run 2 rfl ?_
      refine ih (i + 1) _ _ (nI_1 i) (by omega) ?_ (fun j hj => ?_) ?_ ?_ ?_ (((q3.u rfl).u rfl).u rfl)
      · rw [uF_k (by decide), uF_k (by decide), uF_k (by decide)]; exact h65
      · rw [uF_k (by decide), uF_k (by decide), uF_k (by decide)]; exact h65b j hj
      · exact ((h66.u rfl).k (by decide)).k (by decide)
      · exact ((h67.k (by decide)).u rfl).k (by decide)
      · exact ((h68.k (by decide)).k (by decide)).u rfl
theorem b_lays {f t : Nat} (hf5 : f ≤ 5) (ht5 : t ≤ 5) (hft : f ≠ t) : Td E d 170 0 [some (vr 40 0), some (vi (nI f)), some (vi (nI t)), none] [] x F G b none (fun F2 G2 => G2 = G ∧ LyQ F F2 f t) := by
  refine d_run 1 rfl ?_
  refine d_gR k170_1 (by first | assumption | exact Nat.le_of_ble_eq_true rfl | omega) ⟨rfl, rfl, rfl⟩ rfl ?_
  refine d_run 2 rfl ?_
  refine d_gR k170_6 (by first | assumption | exact Nat.le_of_ble_eq_true rfl | omega) ⟨rfl, rfl, rfl⟩ rfl ?_
  refine d_run 1 rfl ?_
  refine d_ia (N := 6) (j := f) k170_10 (by decide) (by first | assumption | exact Nat.le_of_ble_eq_true rfl | omega) ⟨⟨rfl, rfl⟩, rfl, rfl⟩ (show f < 6 by omega) rfl ?_
  refine d_is (N := 6) (j := t) k170_11 (by first | assumption | exact Nat.le_of_ble_eq_true rfl | omega) ⟨rfl, rfl⟩ (show t < 6 by omega) rfl ?_
  refine d_run 2 rfl ?_
  refine l_lays (F0 := F) hf5 ht5 hft 40 0 _ _ rfl (by omega) ?_ (fun j hj => ?_) ⟨fun j hj => absurd hj (by omega), fun j _ => ?_⟩ ⟨fun j hj => absurd hj (by omega), fun j _ => ?_⟩ ⟨fun j hj => absurd hj (by omega), fun j _ => ?_⟩ (FrK.rf.u rfl)
  · rw [uF_r, pk_us]
  · rw [uF_r, pk_un hj]
  · rw [uF_k (by decide)]
  · rw [uF_k (by decide)]
  · rw [uF_k (by decide)]
theorem l_mtl {F0 : FT} {f t : Nat} (hf5 : f ≤ 4) (ht5 : t ≤ 4) (hft : f ≠ t) {R : Option PV} {QQ : FT → GT → Prop} : ∀ (r i : Nat) (iv : Int32) (F : FT), iv = nI i → i + r = 6 → (∀ j, j < i → F 69 0 (6 * t + j) = F0 69 0 (6 * f + j)) → (∀ j, (j < 6 * t ∨ 6 * t + i ≤ j) → F 69 0 j = F0 69 0 j) → FrK (fun k => decide (k = 69)) F0 F → (∀ F2, (∀ j, j < 6 → F2 69 0 (6 * t + j) = F0 69 0 (6 * f + j)) → (∀ j, (j < 6 * t ∨ 6 * t + 6 ≤ j) → F2 69 0 j = F0 69 0 j) → FrK (fun k => decide (k = 69)) F0 F2 → Td E d 234 109 [some (vr 40 0), some (vi u), some (vi v), some (vi (nI f)), some (vi (nI t)), none] [] x F2 G b R (QQ)) → Td E d 234 71 [some (vr 40 0), some (vi u), some (vi v), some (vi (nI f)), some (vi (nI t)), some (vi iv)] [] x F G b R (QQ) := by
  intro r
  induction r with
  | zero =>
    intro i iv F hiv hir q1 q2 q3 kk
    subst hiv
    have hi : i = 6 := by omega
    refine d_run 2 rfl ?_
    refine d_ic_ge k234_75 (fun h75 => ?_) (fun h75 => ?_)
    · refine d_dr111110 ?_
      rw [hi] at q1 q2
      exact kk F q1 q2 q3
    · exact absurd (lt_nI h75 (b := 6) rfl (by omega) (by omega)) (by omega)
  | succ r ih =>
    intro i iv F hiv hir q1 q2 q3 kk
    subst hiv
    have hi : i < 6 := by omega
    refine d_run 2 rfl ?_
    refine d_ic_ge k234_75 (fun h75 => ?_) (fun h75 => ?_)
    · exact absurd (ge_nI h75 (b := 6) rfl (by omega) (by omega)) (by omega)
    · refine d_run 1 rfl ?_
      refine d_gR k234_79 (by first | assumption | exact Nat.le_of_ble_eq_true rfl | omega) ⟨rfl, rfl, rfl⟩ rfl ?_
      refine d_run 6 rfl ?_
      refine d_gR k234_91 (by first | assumption | exact Nat.le_of_ble_eq_true rfl | omega) ⟨rfl, rfl, rfl⟩ rfl ?_
      refine d_run 5 rfl ?_
      refine d_ia (N := 30) (j := 6 * f + i) k234_101 (by decide) (by first | assumption | exact Nat.le_of_ble_eq_true rfl | omega) ⟨⟨rfl, rfl⟩, rfl, rfl⟩ (show 6 * f + i < 30 by omega) (ix6b f i) ?_
      rw [q2 _ (by omega)]
      refine d_is (N := 30) (j := 6 * t + i) k234_102 (by first | assumption | exact Nat.le_of_ble_eq_true rfl | omega) ⟨rfl, rfl⟩ (show 6 * t + i < 30 by omega) (ix6b t i) ?_
      refine d_run 2 rfl ?_
      refine ih (i + 1) _ _ (nI_1 i) (by omega) (fun j hj => ?_) (fun j hj => ?_) (q3.u rfl) kk
      · rw [uF_r]
        by_cases e : j = i
        · subst e
          rw [pk_us]
        · rw [pk_un (by omega)]
          exact q1 j (by omega)
      · rw [uF_r, pk_un (by omega)]
        exact q2 j (by omega)
def dMm (k : Nat) : Bool := decide (k = 40) || (decide (65 ≤ k) && decide (k ≤ 70)) || decide (k = 73) || decide (k = 75)
theorem dMm_no {k : Nat} (h : k ≠ 40 ∧ (k < 65 ∨ 70 < k) ∧ k ≠ 73 ∧ k ≠ 75) : dMm k = false := by
  simp only [dMm, Bool.or_eq_false_iff, Bool.and_eq_false_iff, decide_eq_false_iff_not]
  omega
theorem dMm_mo {F F2 : FT} (h : FrK dMm F F2) : FrK dMo F F2 := h.mo (fun k e => by
  simp only [dMo, Bool.and_eq_false_iff, Bool.not_eq_false', Bool.and_eq_true, decide_eq_false_iff_not, decide_eq_true_eq] at e
  exact dMm_no (by omega))
theorem dLy_m {F F2 : FT} (h : FrK dLy F F2) : FrK dMm F F2 := h.mo (fun k e => by
  simp only [dMm, Bool.or_eq_false_iff, Bool.and_eq_false_iff, decide_eq_false_iff_not] at e
  simp only [dLy, Bool.and_eq_false_iff, decide_eq_false_iff_not]
  omega)
theorem d1_m {K : Nat} (hK : dMm K = true) {F F2 : FT} (h : FrK (fun k => decide (k = K)) F F2) : FrK dMm F F2 := h.mo (fun k e => by
  simp only [decide_eq_false_iff_not]
  intro e2
  rw [e2, hK] at e
  cases e)
theorem e_mark0 (h : MInv F G o) (hw : WF o) (hd : 90 ≤ d) (hv : v = 0 ∨ v = 1) : Td E d 234 5 [some (vr 40 0), some (vi u), some (vi v), none, none, none] [] x F G b (some (vi (b2i (g_mark o u v)))) (MPost (n_mark o u v) F G) := by
  have hL := h.2.1
  have hA := hw.1
  have hS := h.2.2.2.1.1
  have hwS := hw.2.1.1
  have hP6 := hA.2.1
  have hS5 := hA.1
  cases hN : isW2 u 0 3 with
  | false =>
    have eg : g_mark o u v = false := by simp [g_mark, hN]
    rw [show n_mark o u v = o by simp [n_mark, eg], eg]
    refine d_run 3 rfl ?_
    refine d_callT 3 k234_8 (by omega) (Nat.le_of_ble_eq_true rfl) rfl (Nat.le_of_ble_eq_true rfl) (Nat.le_of_ble_eq_true rfl) recv_st rfl e_within rfl ?_
    rw [hN]
    refine d_if_eq k234_11 (fun h11 => ?_) (fun h11 => ?_)
    · refine d_run 1 rfl ?_
      refine d_ib k234_28 (by rfl) ?_
      exact MPost.q0 h
    · exact absurd h11 (by decide)
  | true =>
    obtain ⟨p, hp, rfl⟩ := isW2_ex (H := 3) hN ⟨by decide, rfl, by decide⟩
    obtain ⟨i1, i2, i3, i4, i5, i6⟩ := h
    have h5p := i5 p (by omega)
    rcases hv with rfl | rfl
    · have eg : g_mark o (nI p) 0 = true := by simp [g_mark, hN]
      rw [show n_mark o (nI p) 0 = (gT o, gN o, gA o, gC o, updM (gM o) p (true, gC o), gP o) by simp [n_mark, eg, ix_nI (show p < 100000 by omega)], eg]
      refine d_run 3 rfl ?_
      refine d_callT 3 k234_8 (by omega) (Nat.le_of_ble_eq_true rfl) rfl (Nat.le_of_ble_eq_true rfl) (Nat.le_of_ble_eq_true rfl) recv_st rfl e_within rfl ?_
      rw [hN]
      refine d_if_eq k234_11 (fun h11 => ?_) (fun h11 => ?_)
      · exact absurd h11 (by decide)
      · refine d_run 1 rfl ?_
        refine d_if_eq k234_15 (fun h15 => ?_) (fun h15 => ?_)
        · refine d_run 1 rfl ?_
          refine d_gR k234_30 (by first | assumption | exact Nat.le_of_ble_eq_true rfl | omega) ⟨rfl, rfl, rfl⟩ rfl ?_
          refine d_run 2 rfl ?_
          refine d_zs (N := 4) k234_35 (by first | assumption | exact Nat.le_of_ble_eq_true rfl | omega) ⟨rfl, rfl⟩ (show p < 4 by omega) rfl (by first | exact Or.inl rfl | exact Or.inr rfl) ?_
          refine d_run 1 rfl ?_
          refine d_if_eq k234_37 (fun h37 => ?_) (fun h37 => ?_)
          · refine d_run 3 rfl ?_
            refine d_if_eq k234_49 (fun h49 => ?_) (fun h49 => ?_)
            · refine d_run 7 rfl ?_
              rw [show ibop 0 1 (nI p) = nI (p + 1) by rw [Nat.add_comm]; exact nI_add 1 p]
              refine d_call 3 k234_65 (by omega) (Nat.le_of_ble_eq_true rfl) rfl (Nat.le_of_ble_eq_true rfl) (Nat.le_of_ble_eq_true rfl) (recv_ok rfl (by first | assumption | exact Nat.le_of_ble_eq_true rfl | omega)) rfl (b_lays (f := 0) (t := p + 1) (by omega) (by omega) (by omega)) rfl ?_
              rintro F1 G1 ⟨rfl, y1, y2, y3⟩
              refine d_run 2 rfl ?_
              refine l_mtl (F0 := F1) (f := 0) (t := p + 1) (by omega) (by omega) (by omega) 6 0 _ F1 rfl (by omega) (fun j hj => absurd hj (by omega)) (fun _ _ => rfl) FrK.rf ?_
              intro F2 z1 z2 z3
              refine d_run 1 rfl ?_
              refine d_if_eq k234_110 (fun h110 => ?_) (fun h110 => ?_)
              · refine d_run 1 rfl ?_
                refine d_gR k234_138 (by first | assumption | exact Nat.le_of_ble_eq_true rfl | omega) ⟨rfl, rfl, rfl⟩ rfl ?_
                refine d_run 2 rfl ?_
                refine d_gR k234_143 (by first | assumption | exact Nat.le_of_ble_eq_true rfl | omega) ⟨rfl, rfl, rfl⟩ rfl ?_
                refine d_run 3 rfl ?_
                rw [show ibop 2 50 (nI p) = nI (50 * p) from pk_mul 50 _]
                refine d_call 4 k234_150 (by omega) (Nat.le_of_ble_eq_true rfl) rfl (Nat.le_of_ble_eq_true rfl) (Nat.le_of_ble_eq_true rfl) recv_st rfl (b_cp70_73 (a := 0) (c := 50 * p) (by omega) (by omega)) rfl ?_
                rintro F3 G3 ⟨rfl, q1, q2, q3⟩
                refine d_run 1 rfl ?_
                refine d_ib k234_154 (by rfl) ?_
                have hf : FrK dMm F F3 := ((((FrK.rf (F := F)).u (i := p) (k := 75) (n := 0) (v := 1) rfl).tr (dLy_m y3)).tr (d1_m rfl z3)).tr (d1_m rfl q3)
                have hn : ∀ k, k ≠ 40 → (k < 65 ∨ 70 < k) → k ≠ 73 → k ≠ 75 → F3 k = F k := fun k a b c e => hf k (dMm_no ⟨a, b, c, e⟩)
                have e40 : F3 40 = F 40 := by rw [q3 40 rfl, z3 40 rfl, y3 40 rfl, uF_k (by decide)]
                have e41 : F3 41 = F 41 := hn 41 (by decide) (by decide) (by decide) (by decide)
                have e70 : F3 70 = F 70 := by rw [q3 70 rfl, z3 70 rfl, y3 70 rfl, uF_k (by decide)]
                have e74 : F3 74 = F 74 := hn 74 (by decide) (by decide) (by decide) (by decide)
                have e75 : F3 75 0 = upd (F 75 0) p 1 := by rw [q3 75 rfl, z3 75 rfl, y3 75 rfl, uF_r]
                have u65 : ∀ {n w}, MW F n w → MW (uF F 75 0 p 1) n w := fun hm => hm.fr (fun k a b => by rw [uF_k (by omega)])
                have w65 : ∀ {n w}, MW F1 n w → MW F3 n w := fun hm => hm.fr (fun k a b => by rw [q3 k (by simp; omega), z3 k (by simp; omega)])
                refine ⟨⟨⟨?_, i1.2.1, ?_⟩, i2.fr (fun k a b => hn k (by omega) (by omega) (by omega) (by omega)), i3, ⟨?_, w65 (y2 _ _ (by omega) (u65 i4.2.1)), fun q hq => ?_⟩, fun j hj => ?_, i6.fr (by rw [e40]) e74⟩, dMm_mo hf, fun _ _ => rfl⟩
                · rw [e40]; exact i1.1
                · rw [e41]; exact i1.2.2
                · rw [e70]; exact i4.1
                · rw [q3 69 rfl, z2 _ (by omega), y3 69 rfl, uF_k (by decide)]
                  exact i4.2.2 q hq
                · rw [e75]
                  show _ = b2i (updM (gM o) p (true, gC o) j).1 ∧ ((updM (gM o) p (true, gC o) j).1 = true → MSc F3 (fun i => F3 73 0 (50 * j + i)) (j + 1) (lP (gA o)) (updM (gM o) p (true, gC o) j).2)
                  by_cases e : j = p
                  · subst e
                    rw [show updM (gM o) j (true, gC o) j = (true, gC o) from if_pos rfl, pk_us]
                    refine ⟨rfl, fun _ => ⟨?_, w65 (y1 _ (u65 i4.2.1)), fun q hq => ?_⟩⟩
                    · refine rowS.eq i4.1 hP6 (fun i hi => ?_)
                      rw [q1 i hi, Nat.zero_add, z3 70 rfl, y3 70 rfl, uF_k (by decide)]
                    · rw [q3 69 rfl, show 6 * (j + 1) + q = 6 * (j + 1) + q from rfl, z1 q hq, y3 69 rfl, uF_k (by decide)]
                      exact i4.2.2 q hq
                  · rw [show updM (gM o) p (true, gC o) j = gM o j from if_neg e, pk_un e]
                    obtain ⟨a1, a2⟩ := i5 j hj
                    refine ⟨a1, fun e2 => ?_⟩
                    obtain ⟨c1, c2, c3⟩ := a2 e2
                    refine ⟨?_, w65 (y2 _ _ (by omega) (u65 c2)), fun q hq => ?_⟩
                    · refine rowS.eq c1 hP6 (fun i hi => ?_)
                      rw [q2 _ (by omega), z3 73 rfl, y3 73 rfl, uF_k (by decide)]
                    · rw [q3 69 rfl, z2 _ (by omega), y3 69 rfl, uF_k (by decide)]
                      exact c3 q hq
              · exact absurd rfl h110
            · exact absurd rfl h49
          · exact absurd rfl h37
        · exact absurd rfl h15
    · by_cases hm : (gM o p).1 = true
      · have eg : g_mark o (nI p) 1 = true := by simp [g_mark, hN, ix_nI (show p < 100000 by omega), hm]
        rw [show n_mark o (nI p) 1 = (gT o, gN o, gA o, (gM o p).2, gM o, []) by simp [n_mark, eg, ix_nI (show p < 100000 by omega)], eg]
        refine d_run 3 rfl ?_
        refine d_callT 3 k234_8 (by omega) (Nat.le_of_ble_eq_true rfl) rfl (Nat.le_of_ble_eq_true rfl) (Nat.le_of_ble_eq_true rfl) recv_st rfl e_within rfl ?_
        rw [hN]
        refine d_if_eq k234_11 (fun h11 => ?_) (fun h11 => ?_)
        · exact absurd h11 (by decide)
        · refine d_run 1 rfl ?_
          refine d_if_eq k234_15 (fun h15 => ?_) (fun h15 => ?_)
          · exact absurd h15 (by decide)
          · refine d_run 1 rfl ?_
            refine d_gR k234_19 (by first | assumption | exact Nat.le_of_ble_eq_true rfl | omega) ⟨rfl, rfl, rfl⟩ rfl ?_
            refine d_run 1 rfl ?_
            refine d_ia (N := 4) k234_23 (by decide) (by first | assumption | exact Nat.le_of_ble_eq_true rfl | omega) ⟨⟨rfl, rfl⟩, rfl, rfl⟩ (show p < 4 by omega) rfl ?_
            rw [h5p.1]
            refine d_if_ne k234_24 (fun h24 => ?_) (fun h24 => ?_)
            · refine d_run 1 rfl ?_
              refine d_gR k234_30 (by first | assumption | exact Nat.le_of_ble_eq_true rfl | omega) ⟨rfl, rfl, rfl⟩ rfl ?_
              refine d_run 2 rfl ?_
              refine d_zs (N := 4) k234_35 (by first | assumption | exact Nat.le_of_ble_eq_true rfl | omega) ⟨rfl, rfl⟩ (show p < 4 by omega) rfl (by first | exact Or.inl rfl | exact Or.inr rfl) ?_
              refine d_run 1 rfl ?_
              refine d_if_eq k234_37 (fun h37 => ?_) (fun h37 => ?_)
              · exact absurd h37 (by decide)
              · refine d_run 6 rfl ?_
                refine d_if_eq k234_49 (fun h49 => ?_) (fun h49 => ?_)
                · exact absurd h49 (by decide)
                · refine d_run 6 rfl ?_
                  rw [show ibop 0 1 (nI p) = nI (p + 1) by rw [Nat.add_comm]; exact nI_add 1 p]
                  refine d_call 3 k234_65 (by omega) (Nat.le_of_ble_eq_true rfl) rfl (Nat.le_of_ble_eq_true rfl) (Nat.le_of_ble_eq_true rfl) (recv_ok rfl (by first | assumption | exact Nat.le_of_ble_eq_true rfl | omega)) rfl (b_lays (f := p + 1) (t := 0) (by omega) (by omega) (by omega)) rfl ?_
                  rintro F1 G1 ⟨rfl, y1, y2, y3⟩
                  refine d_run 2 rfl ?_
                  refine l_mtl (F0 := F1) (f := p + 1) (t := 0) (by omega) (by omega) (by omega) 6 0 _ F1 rfl (by omega) (fun j hj => absurd hj (by omega)) (fun _ _ => rfl) FrK.rf ?_
                  intro F2 z1 z2 z3
                  refine d_run 1 rfl ?_
                  refine d_if_eq k234_110 (fun h110 => ?_) (fun h110 => ?_)
                  · exact absurd h110 (by decide)
                  · refine d_run 1 rfl ?_
                    refine d_gR k234_114 (by first | assumption | exact Nat.le_of_ble_eq_true rfl | omega) ⟨rfl, rfl, rfl⟩ rfl ?_
                    refine d_run 4 rfl ?_
                    refine d_gR k234_122 (by first | assumption | exact Nat.le_of_ble_eq_true rfl | omega) ⟨rfl, rfl, rfl⟩ rfl ?_
                    refine d_run 1 rfl ?_
                    rw [show ibop 2 50 (nI p) = nI (50 * p) from pk_mul 50 _]
                    refine d_call 4 k234_126 (by omega) (Nat.le_of_ble_eq_true rfl) rfl (Nat.le_of_ble_eq_true rfl) (Nat.le_of_ble_eq_true rfl) recv_st rfl (b_cp73_70 (a := 50 * p) (c := 0) (by omega) (by omega)) rfl ?_
                    rintro F3 G3 ⟨rfl, q1, q2, q3⟩
                    refine d_run 2 rfl ?_
                    refine d_pI k234_131 (by first | assumption | exact Nat.le_of_ble_eq_true rfl | omega) ⟨rfl, rfl⟩ ?_
                    refine d_run 2 rfl ?_
                    refine d_ib k234_154 (by rfl) ?_
                    obtain ⟨c1, c2, c3⟩ := h5p.2 hm
                    have f3 : FrK dMm F F3 := ((((FrK.rf (F := F)).u (i := p) (k := 75) (n := 0) (v := 1) rfl).tr (dLy_m y3)).tr (d1_m rfl z3)).tr (d1_m rfl q3)
                    have hf : FrK dMm F (uF F3 40 0 49 0) := f3.u rfl
                    have hn : ∀ k, k ≠ 40 → (k < 65 ∨ 70 < k) → k ≠ 73 → k ≠ 75 → uF F3 40 0 49 0 k = F k := fun k a b c e => hf k (dMm_no ⟨a, b, c, e⟩)
                    have e40 : F3 40 = F 40 := by rw [q3 40 rfl, z3 40 rfl, y3 40 rfl, uF_k (by decide)]
                    have e73 : F3 73 = F 73 := by rw [q3 73 rfl, z3 73 rfl, y3 73 rfl, uF_k (by decide)]
                    have e75 : F3 75 0 = upd (F 75 0) p 1 := by rw [q3 75 rfl, z3 75 rfl, y3 75 rfl, uF_r]
                    have u65 : ∀ {n w}, MW F n w → MW (uF F 75 0 p 1) n w := fun hm => hm.fr (fun k a b => by rw [uF_k (by omega)])
                    have w65 : ∀ {n w}, MW F1 n w → MW (uF F3 40 0 49 0) n w := fun hm => hm.fr (fun k a b => by rw [uF_k (by omega), q3 k (by simp; omega), z3 k (by simp; omega)])
                    refine ⟨⟨⟨?_, i1.2.1, ?_⟩, i2.fr (fun k a b => hn k (by omega) (by omega) (by omega) (by omega)), i3, ⟨?_, w65 (y1 _ (u65 c2)), fun q hq => ?_⟩, fun j hj => ?_, ?_, Nat.zero_le _, fun j hj => absurd hj (Nat.not_lt_zero j)⟩, dMm_mo hf, fun _ _ => rfl⟩
                    · rw [uF_r, pk_un (by decide), e40]; exact i1.1
                    · rw [hn 41 (by decide) (by decide) (by decide) (by decide)]; exact i1.2.2
                    · rw [uF_k (by decide)]
                      refine rowS.eq c1 hP6 (fun i hi => ?_)
                      have := q1 i hi
                      rw [Nat.zero_add] at this
                      rw [this, z3 73 rfl, y3 73 rfl, uF_k (by decide)]
                    · rw [uF_k (by decide), q3 69 rfl, z1 q hq, y3 69 rfl, uF_k (by decide)]
                      exact c3 q hq
                    · rw [uF_k (by decide), uF_k (by decide), e75, e73]
                      obtain ⟨a1, a2⟩ := i5 j hj
                      refine ⟨?_, fun e2 => ?_⟩
                      · simp only [upd]
                        split
                        · rename_i e; rw [e, hm]; rfl
                        · exact a1
                      · obtain ⟨c1, c2, c3⟩ := a2 e2
                        refine ⟨c1, w65 (y2 _ _ (by omega) (u65 c2)), fun q hq => ?_⟩
                        rw [uF_k (by decide), q3 69 rfl, z2 _ (by omega), y3 69 rfl, uF_k (by decide)]
                        exact c3 q hq
                    · rw [uF_r, pk_us]; rfl
            · rw [hm] at h24
              exact absurd h24 (by decide)
      · have hm : (gM o p).1 = false := by simpa using hm
        have eg : g_mark o (nI p) 1 = false := by simp [g_mark, ix_nI (show p < 100000 by omega), hm]
        rw [show n_mark o (nI p) 1 = o by simp [n_mark, eg], eg]
        refine d_run 3 rfl ?_
        refine d_callT 3 k234_8 (by omega) (Nat.le_of_ble_eq_true rfl) rfl (Nat.le_of_ble_eq_true rfl) (Nat.le_of_ble_eq_true rfl) recv_st rfl e_within rfl ?_
        rw [hN]
        refine d_if_eq k234_11 (fun h11 => ?_) (fun h11 => ?_)
        · exact absurd h11 (by decide)
        · refine d_run 1 rfl ?_
          refine d_if_eq k234_15 (fun h15 => ?_) (fun h15 => ?_)
          · exact absurd h15 (by decide)
          · refine d_run 1 rfl ?_
            refine d_gR k234_19 (by first | assumption | exact Nat.le_of_ble_eq_true rfl | omega) ⟨rfl, rfl, rfl⟩ rfl ?_
            refine d_run 1 rfl ?_
            refine d_ia (N := 4) k234_23 (by decide) (by first | assumption | exact Nat.le_of_ble_eq_true rfl | omega) ⟨⟨rfl, rfl⟩, rfl, rfl⟩ (show p < 4 by omega) rfl ?_
            rw [h5p.1, hm]
            refine d_if_ne k234_24 (fun h24 => ?_) (fun h24 => ?_)
            · exact absurd rfl h24
            · refine d_run 1 rfl ?_
              refine d_ib k234_28 (by rfl) ?_
              exact MPost.q0 ⟨i1, i2, i3, i4, i5, i6⟩
theorem e_mark (h : MInv F G o) (hw : WF o) (hd : 90 ≤ d) (hv : v = 0 ∨ v = 1) : Td E d 234 0 [some (vr 40 0), some (vi u), some (vi v), none, none, none] [] x F G b (some (vi (b2i (g_mark o u v)))) (MPost (n_mark o u v) F G) := by
  refine d_run 2 rfl ?_
  refine d_pI k234_2 (by first | assumption | exact Nat.le_of_ble_eq_true rfl | omega) ⟨rfl, rfl⟩ ?_
  exact MPost.th h hw (fun h => e_mark0 h hw hd hv)
end M18
