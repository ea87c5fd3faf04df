/-! TALE, TINKERS, ENGAGED, STAND, COUNT OF THE REFERENCE -/
theorem MPost.tl {F : FT} {G : GT} {o : SG} {p : Nat} {v : Int32} (h : MInv F G o) (hp : p < 6) : MPost (gT o, gN o, gA o, (gS o, gW o, upd (gTl o) p v), gM o, gP o) F G (uF F 69 0 p v) G := by
  obtain ⟨i1, i2, i3, i4, i5, i6⟩ := h
  refine ⟨⟨⟨?_, i1.2.1, ?_⟩, i2.fr (fun k a b => by rw [uF_k (by omega)]), i3, ⟨?_, i4.2.1.fr (fun k a b => by rw [uF_k (by omega)]), ?_⟩, ?_, i6.fr (by rw [uF_k (by decide)]) (by rw [uF_k (by decide)])⟩, FrK.rf.u rfl, fun _ _ => rfl⟩
  · rw [uF_k (by decide)]; exact i1.1
  · rw [uF_k (by decide)]; exact i1.2.2
  · rw [uF_k (by decide)]; exact i4.1
  · intro q hq
    have e := i4.2.2 q hq
    rw [uF_r]
    simp only [upd, Nat.mul_zero, Nat.zero_add] at e ⊢
    split
    · rfl
    · exact e
  · intro j hj
    obtain ⟨a, c⟩ := i5 j hj
    refine ⟨?_, fun e => ?_⟩
    · rw [uF_k (by decide)]; exact a
    · obtain ⟨c1, c2, c3⟩ := c e
      refine ⟨?_, c2.fr (fun k x y => by rw [uF_k (by omega)]), fun q hq => ?_⟩
      · rw [uF_k (by decide)]; exact c1
      · rw [uF_r, pk_un (by omega)]
        exact c3 q hq
theorem stgA_sym {A : LA} {s : ST} {a c : Nat} (hA : wfL A) (ha : a < lP A) (hc : c < lP A) : stgA A s a c = stgA A s c a := by
  unfold stgA strg
  rw [hA.2.2.2.2.2.2.1 a c ha hc, show tog (sWd s) a c = tog (sWd s) c a from Int32.add_comm _ _]
  by_cases e : a = c
  · subst e; rfl
  · rw [decide_eq_true e, decide_eq_true (show c ≠ a from fun h => e h.symm)]
theorem offA_eq {A : LA} {s : ST} {p : Nat} {st : Int32} {q : Nat} : offA A s p st q = (decide (sAt s q = st) && decide (¬ lKi A q = 1) && !sitA s q && stgA A s p q) := rfl
theorem le2_1 (v : Int32) : (2 ≤ v) = ¬ v ≤ 1 := by
  apply propext
  rw [Int32.le_iff_toInt_le, Int32.le_iff_toInt_le, show (2 : Int32).toInt = 2 from rfl, show (1 : Int32).toInt = 1 from rfl]
  omega
theorem nn_nI {c : Nat} (hc : c ≤ 100000) : ¬ nI c < 0 := by
  have := gt_nI (a := c) (b := 0) (y := 0)
  exact fun h => Int32.not_le.mpr h ((nI_leI (a := 0) (b := c) (by omega) (by omega)).mpr (by omega))
theorem m1_nI {c : Nat} (hc : c ≤ 100000) : (-1 : Int32) < nI c := by
  have h1 : (0 : Int32) ≤ nI c := Int32.not_lt.mp (nn_nI hc)
  exact Int32.lt_of_lt_of_le (by decide) h1
section M10
variable {E : EV} {d x : Nat} {F : FT} {G : GT} {b : Bool} {o : SG} {u v w : Int32}
theorem e_tale0 (h : MInv F G o) (hw : WF o) (hd : 90 ≤ d) : Td E d 214 5 [some (vr 40 0), some (vi u), some (vi v)] [] x F G b (some (vi (b2i (g_tale o u v)))) (MPost (n_tale o u v) F G) := by
  have hL := h.2.1
  have hA := hw.1
  have hS := h.2.2.2.1.1
  have hwS := hw.2.1.1
  have hP6 := hA.2.1
  have hS5 := hA.1
  by_cases hN : isN u (lP (gA o)) = true
  · obtain ⟨p, hp, rfl⟩ := isN_ex hN (by omega)
    by_cases hM : isW2 v 0 99 = true
    · rw [show n_tale o (nI p) v = (gT o, gN o, gA o, (gS o, gW o, upd (gTl o) p v), gM o, gP o) by simp [n_tale, g_tale, hN, hM, ix_nI (show p < 100000 by omega)], show g_tale o (nI p) v = true by simp [g_tale, hN, hM]]
      refine d_run 2 rfl ?_
      refine d_callT 2 k214_7 (by omega) (Nat.le_of_ble_eq_true rfl) rfl (Nat.le_of_ble_eq_true rfl) (Nat.le_of_ble_eq_true rfl) (recv_ok rfl (by first | assumption | exact Nat.le_of_ble_eq_true rfl | omega)) rfl (e_isP hL) rfl ?_
      rw [hN]
      refine d_if_eq k214_10 (fun h10 => ?_) (fun h10 => ?_)
      · exact absurd h10 (by decide)
      · refine d_run 3 rfl ?_
        refine d_callT 3 k214_17 (by omega) (Nat.le_of_ble_eq_true rfl) rfl (Nat.le_of_ble_eq_true rfl) (Nat.le_of_ble_eq_true rfl) recv_st rfl e_within rfl ?_
        rw [hM]
        refine d_if_ne k214_20 (fun h20 => ?_) (fun h20 => ?_)
        · refine d_run 1 rfl ?_
          refine d_gR k214_26 (by first | assumption | exact Nat.le_of_ble_eq_true rfl | omega) ⟨rfl, rfl, rfl⟩ rfl ?_
          refine d_run 2 rfl ?_
          refine d_is (N := 30) k214_31 (by first | assumption | exact Nat.le_of_ble_eq_true rfl | omega) ⟨rfl, rfl⟩ (by first | assumption | omega) rfl ?_
          refine d_run 1 rfl ?_
          refine d_ib k214_33 (by rfl) ?_
          exact MPost.tl h (by omega)
        · exact absurd h20 (by decide)
    · have hM : isW2 v 0 99 = false := by simpa using hM
      rw [show n_tale o (nI p) v = o by simp [n_tale, g_tale, hM], show g_tale o (nI p) v = false by simp [g_tale, hM]]
      refine d_run 2 rfl ?_
      refine d_callT 2 k214_7 (by omega) (Nat.le_of_ble_eq_true rfl) rfl (Nat.le_of_ble_eq_true rfl) (Nat.le_of_ble_eq_true rfl) (recv_ok rfl (by first | assumption | exact Nat.le_of_ble_eq_true rfl | omega)) rfl (e_isP hL) rfl ?_
      rw [hN]
      refine d_if_eq k214_10 (fun h10 => ?_) (fun h10 => ?_)
      · exact absurd h10 (by decide)
      · refine d_run 3 rfl ?_
        refine d_callT 3 k214_17 (by omega) (Nat.le_of_ble_eq_true rfl) rfl (Nat.le_of_ble_eq_true rfl) (Nat.le_of_ble_eq_true rfl) recv_st rfl e_within rfl ?_
        rw [hM]
        refine d_if_ne k214_20 (fun h20 => ?_) (fun h20 => ?_)
        · exact absurd rfl h20
        · refine d_run 1 rfl ?_
          refine d_ib k214_24 (by rfl) ?_
          exact MPost.q0 h
  · have hN : isN u (lP (gA o)) = false := by simpa using hN
    rw [show n_tale o u v = o by simp [n_tale, g_tale, hN], show g_tale o u v = false by simp [g_tale, hN]]
    refine d_run 2 rfl ?_
    refine d_callT 2 k214_7 (by omega) (Nat.le_of_ble_eq_true rfl) rfl (Nat.le_of_ble_eq_true rfl) (Nat.le_of_ble_eq_true rfl) (recv_ok rfl (by first | assumption | exact Nat.le_of_ble_eq_true rfl | omega)) rfl (e_isP hL) rfl ?_
    rw [hN]
    refine d_if_eq k214_10 (fun h10 => ?_) (fun h10 => ?_)
    · refine d_run 1 rfl ?_
      refine d_ib k214_24 (by rfl) ?_
      exact MPost.q0 h
    · exact absurd h10 (by decide)
theorem e_tale (h : MInv F G o) (hw : WF o) (hd : 90 ≤ d) : Td E d 214 0 [some (vr 40 0), some (vi u), some (vi v)] [] x F G b (some (vi (b2i (g_tale o u v)))) (MPost (n_tale o u v) F G) := by
  refine d_run 2 rfl ?_
  refine d_pI k214_2 (by first | assumption | exact Nat.le_of_ble_eq_true rfl | omega) ⟨rfl, rfl⟩ ?_
  exact MPost.th h hw (fun h => e_tale0 h hw hd)
theorem l_mtink (h : MInv F G o) (hw : WF o) (hd : 90 ≤ d) : ∀ (r i : Nat) (iv : Int32) (acc : Int32), iv = nI i → i + r = lP (gA o) → acc = bset (fun p => decide (bset (stgA (gA o) (gS o) p) (lP (gA o)) = 0)) i → Td E d 228 9 [some (vr 40 0), some (vi acc), some (vi iv)] [] x F G b (some (vi (q_tinkers o))) (MPost (o) F G) := by
  intro r
  induction r with
  | zero =>
    intro i iv acc hiv hir ha
    subst hiv
    have hi : i = lP (gA o) := by omega
    have hL := h.2.1
    have hA := hw.1
    have hS := h.2.2.2.1.1
    have hwS := hw.2.1.1
    have hP6 := hA.2.1
    have hS5 := hA.1
    refine d_run 2 rfl ?_
    refine d_gR k228_11 (by first | assumption | exact Nat.le_of_ble_eq_true rfl | omega) ⟨rfl, rfl, rfl⟩ rfl ?_
    refine d_run 1 rfl ?_
    refine d_ia (N := 8) (j := 1) k228_15 (by decide) (by first | assumption | exact Nat.le_of_ble_eq_true rfl | omega) ⟨⟨rfl, rfl⟩, rfl, rfl⟩ (by decide) rfl ?_
    refine d_ic_ge k228_16 (fun h16 => ?_) (fun h16 => ?_)
    · refine d_run 1 rfl ?_
      refine d_ir k228_44 rfl (by rw [ha, hi]; rfl) ?_
      exact MPost.q0 h
    · exact absurd (lt_nI h16 hL.2.1 (by omega) (by omega)) (by omega)
  | succ r ih =>
    intro i iv acc hiv hir ha
    subst hiv
    have hi : i < lP (gA o) := by omega
    have hL := h.2.1
    have hA := hw.1
    have hS := h.2.2.2.1.1
    have hwS := hw.2.1.1
    have hP6 := hA.2.1
    have hS5 := hA.1
    refine d_run 2 rfl ?_
    refine d_gR k228_11 (by first | assumption | exact Nat.le_of_ble_eq_true rfl | omega) ⟨rfl, rfl, rfl⟩ rfl ?_
    refine d_run 1 rfl ?_
    refine d_ia (N := 8) (j := 1) k228_15 (by decide) (by first | assumption | exact Nat.le_of_ble_eq_true rfl | omega) ⟨⟨rfl, rfl⟩, rfl, rfl⟩ (by decide) rfl ?_
    refine d_ic_ge k228_16 (fun h16 => ?_) (fun h16 => ?_)
    · exact absurd (ge_nI h16 hL.2.1 (by omega) (by omega)) (by omega)
    · refine d_run 3 rfl ?_
      refine d_callT 2 k228_22 (by omega) (Nat.le_of_ble_eq_true rfl) rfl (Nat.le_of_ble_eq_true rfl) (Nat.le_of_ble_eq_true rfl) (recv_ok rfl (by first | assumption | exact Nat.le_of_ble_eq_true rfl | omega)) rfl (b_stgOf hL hA hS hi (by omega)) rfl ?_
      refine d_if_ne k228_25 (fun h25 => ?_) (fun h25 => ?_)
      · have e25 := decide_eq_false h25
        refine d_run 5 rfl ?_
        refine ih (i + 1) _ _ (nI_1 i) (by omega) ?_
        rw [ha]
        simp only [bset, e25]
        simp [ibop]
      · have e25 := decide_eq_true h25
        refine d_run 8 rfl ?_
        refine ih (i + 1) _ _ (nI_1 i) (by omega) ?_
        rw [ha]
        simp only [bset, e25]
        simp [ibop]
theorem e_tinkers0 (h : MInv F G o) (hw : WF o) (hd : 90 ≤ d) : Td E d 228 5 [some (vr 40 0), none, none] [] x F G b (some (vi (q_tinkers o))) (MPost (o) F G) := by
  have hL := h.2.1
  have hA := hw.1
  have hS := h.2.2.2.1.1
  have hwS := hw.2.1.1
  have hP6 := hA.2.1
  have hS5 := hA.1
  refine d_run 4 rfl ?_
  exact l_mtink h hw hd (lP (gA o)) 0 _ _ rfl (by omega) rfl
theorem e_tinkers (h : MInv F G o) (hw : WF o) (hd : 90 ≤ d) : Td E d 228 0 [some (vr 40 0), none, none] [] x F G b (some (vi (q_tinkers o))) (MPost (o) F G) := by
  refine d_run 2 rfl ?_
  refine d_pI k228_2 (by first | assumption | exact Nat.le_of_ble_eq_true rfl | omega) ⟨rfl, rfl⟩ ?_
  exact MPost.th h hw (fun h => e_tinkers0 h hw hd)
theorem l_meng2 (h : MInv F G o) (hw : WF o) (hd : 90 ≤ d) {a : Nat} {R : Option PV} (ha : a < lP (gA o)) : ∀ (r i : Nat) (iv : Int32) (acc : Int32), iv = nI i → i + r = lP (gA o) → a < i → (∀ u2, u2 = lpN (engF (sWd (gS o)) a) i r acc → Td E d 224 83 [some (vr 40 0), some (vi u2), some (vi (nI a)), none] [] x F G b R (MPost o F G)) → Td E d 224 23 [some (vr 40 0), some (vi acc), some (vi (nI a)), some (vi iv)] [] x F G b R (MPost o F G) := by
  intro r
  induction r with
  | zero =>
    intro i iv acc hiv hir hai kk
    subst hiv
    have hi : i = lP (gA o) := by omega
    have hL := h.2.1
    have hA := hw.1
    have hS := h.2.2.2.1.1
    have hwS := hw.2.1.1
    have hP6 := hA.2.1
    have hS5 := hA.1
    refine d_run 2 rfl ?_
    refine d_gR k224_25 (by first | assumption | exact Nat.le_of_ble_eq_true rfl | omega) ⟨rfl, rfl, rfl⟩ rfl ?_
    refine d_run 1 rfl ?_
    refine d_ia (N := 8) (j := 1) k224_29 (by decide) (by first | assumption | exact Nat.le_of_ble_eq_true rfl | omega) ⟨⟨rfl, rfl⟩, rfl, rfl⟩ (by decide) rfl ?_
    refine d_ic_ge k224_30 (fun h30 => ?_) (fun h30 => ?_)
    · refine d_le (L1 := [some (vr 40 0), some (vi acc), some (vi (nI a)), none]) (by simp [leL]) ?_
      exact kk _ rfl
    · exact absurd (lt_nI h30 hL.2.1 (by omega) (by omega)) (by omega)
  | succ r ih =>
    intro i iv acc hiv hir hai kk
    subst hiv
    have hi : i < lP (gA o) := by omega
    have hL := h.2.1
    have hA := hw.1
    have hS := h.2.2.2.1.1
    have hwS := hw.2.1.1
    have hP6 := hA.2.1
    have hS5 := hA.1
    refine d_run 2 rfl ?_
    refine d_gR k224_25 (by first | assumption | exact Nat.le_of_ble_eq_true rfl | omega) ⟨rfl, rfl, rfl⟩ rfl ?_
    refine d_run 1 rfl ?_
    refine d_ia (N := 8) (j := 1) k224_29 (by decide) (by first | assumption | exact Nat.le_of_ble_eq_true rfl | omega) ⟨⟨rfl, rfl⟩, rfl, rfl⟩ (by decide) rfl ?_
    refine d_ic_ge k224_30 (fun h30 => ?_) (fun h30 => ?_)
    · exact absurd (ge_nI h30 hL.2.1 (by omega) (by omega)) (by omega)
    · refine d_run 2 rfl ?_
      refine d_gR k224_35 (by first | assumption | exact Nat.le_of_ble_eq_true rfl | omega) ⟨rfl, rfl, rfl⟩ rfl ?_
      refine d_run 7 rfl ?_
      refine d_ia (N := 50) (j := 14 + (6 * a + i)) k224_47 (by decide) (by first | assumption | exact Nat.le_of_ble_eq_true rfl | omega) ⟨⟨rfl, rfl⟩, rfl, rfl⟩ (show 14 + (6 * a + i) < 50 by omega) (ix14 a i) ?_
      rw [hS.2.2.2.2.2 _ (show 6 * a + i < 36 by omega)]
      refine d_run 1 rfl ?_
      refine d_ic_le k224_49 (fun h49 => ?_) (fun h49 => ?_)
      · have eC : engC (sWd (gS o)) a i = false := by simp only [engC]; rw [decide_eq_false (p := 2 ≤ sWd (gS o) (6 * a + i)) (by rw [le2_1]; exact fun e => e h49)]; rfl
        have eA : engF (sWd (gS o)) a i acc = acc := by simp only [engF]; rw [eC]; rfl
        refine d_run 5 rfl ?_
        refine ih (i + 1) _ _ (nI_1 i) (by omega) (by omega) ?_
        intro u2 hu
        refine kk u2 ?_
        rw [hu]
        simp only [lpN]
        congr 1
        rw [eA]
        simp [ibop]
      · refine d_run 1 rfl ?_
        refine d_gR k224_53 (by first | assumption | exact Nat.le_of_ble_eq_true rfl | omega) ⟨rfl, rfl, rfl⟩ rfl ?_
        refine d_run 7 rfl ?_
        refine d_ia (N := 50) (j := 14 + (6 * i + a)) k224_65 (by decide) (by first | assumption | exact Nat.le_of_ble_eq_true rfl | omega) ⟨⟨rfl, rfl⟩, rfl, rfl⟩ (show 14 + (6 * i + a) < 50 by omega) (ix14 i a) ?_
        rw [hS.2.2.2.2.2 _ (show 6 * i + a < 36 by omega)]
        refine d_run 1 rfl ?_
        refine d_ic_le k224_67 (fun h67 => ?_) (fun h67 => ?_)
        · have eC : engC (sWd (gS o)) a i = false := by simp only [engC]; rw [decide_eq_false (p := 2 ≤ sWd (gS o) (6 * i + a)) (by rw [le2_1]; exact fun e => e h67)]; simp
          have eA : engF (sWd (gS o)) a i acc = acc := by simp only [engF]; rw [eC]; rfl
          refine d_run 5 rfl ?_
          refine ih (i + 1) _ _ (nI_1 i) (by omega) (by omega) ?_
          intro u2 hu
          refine kk u2 ?_
          rw [hu]
          simp only [lpN]
          congr 1
          rw [eA]
          simp [ibop]
        · have eC : engC (sWd (gS o)) a i = true := by simp only [engC]; rw [decide_eq_true (p := 2 ≤ sWd (gS o) (6 * i + a)) (by rw [le2_1]; exact h67), decide_eq_true (p := 2 ≤ sWd (gS o) (6 * a + i)) (by rw [le2_1]; exact h49)]; rfl
          have eA : engF (sWd (gS o)) a i acc = acc + 1 := by simp only [engF]; rw [eC]; rfl
          refine d_run 6 rfl ?_
          refine ih (i + 1) _ _ (nI_1 i) (by omega) (by omega) ?_
          intro u2 hu
          refine kk u2 ?_
          rw [hu]
          simp only [lpN]
          congr 1
          rw [eA]
          simp [ibop]
theorem l_meng1 (h : MInv F G o) (hw : WF o) (hd : 90 ≤ d) : ∀ (r i : Nat) (iv : Int32) (acc : Int32), iv = nI i → i + r = lP (gA o) → Td E d 224 9 [some (vr 40 0), some (vi acc), some (vi iv), none] [] x F G b (some (vi (lpN (fun a acc => lpN (engF (sWd (gS o)) a) (a + 1) (lP (gA o) - (a + 1)) acc) i r acc))) (MPost o F G) := by
  intro r
  induction r with
  | zero =>
    intro i iv acc hiv hir 
    subst hiv
    have hi : i = lP (gA o) := by omega
    have hL := h.2.1
    have hA := hw.1
    have hS := h.2.2.2.1.1
    have hwS := hw.2.1.1
    have hP6 := hA.2.1
    have hS5 := hA.1
    refine d_run 2 rfl ?_
    refine d_gR k224_11 (by first | assumption | exact Nat.le_of_ble_eq_true rfl | omega) ⟨rfl, rfl, rfl⟩ rfl ?_
    refine d_run 1 rfl ?_
    refine d_ia (N := 8) (j := 1) k224_15 (by decide) (by first | assumption | exact Nat.le_of_ble_eq_true rfl | omega) ⟨⟨rfl, rfl⟩, rfl, rfl⟩ (by decide) rfl ?_
    refine d_ic_ge k224_16 (fun h16 => ?_) (fun h16 => ?_)
    · refine d_run 1 rfl ?_
      refine d_ir k224_90 rfl (by rfl) ?_
      exact MPost.q0 h
    · exact absurd (lt_nI h16 hL.2.1 (by omega) (by omega)) (by omega)
  | succ r ih =>
    intro i iv acc hiv hir 
    subst hiv
    have hi : i < lP (gA o) := by omega
    have hL := h.2.1
    have hA := hw.1
    have hS := h.2.2.2.1.1
    have hwS := hw.2.1.1
    have hP6 := hA.2.1
    have hS5 := hA.1
    refine d_run 2 rfl ?_
    refine d_gR k224_11 (by first | assumption | exact Nat.le_of_ble_eq_true rfl | omega) ⟨rfl, rfl, rfl⟩ rfl ?_
    refine d_run 1 rfl ?_
    refine d_ia (N := 8) (j := 1) k224_15 (by decide) (by first | assumption | exact Nat.le_of_ble_eq_true rfl | omega) ⟨⟨rfl, rfl⟩, rfl, rfl⟩ (by decide) rfl ?_
    refine d_ic_ge k224_16 (fun h16 => ?_) (fun h16 => ?_)
    · exact absurd (ge_nI h16 hL.2.1 (by omega) (by omega)) (by omega)
    · refine d_run 4 rfl ?_
      refine l_meng2 h hw hd (a := i) (by omega) (lP (gA o) - (i + 1)) (i + 1) _ _ (nI_1 i) (by omega) (by omega) ?_
      intro u2 hu
      subst hu
      refine d_run 2 rfl ?_
      exact ih (i + 1) _ _ (nI_1 i) (by omega)
theorem e_engaged0 (h : MInv F G o) (hw : WF o) (hd : 90 ≤ d) : Td E d 224 5 [some (vr 40 0), none, none, none] [] x F G b (some (vi (q_engaged o))) (MPost (o) F G) := by
  have hL := h.2.1
  have hA := hw.1
  have hS := h.2.2.2.1.1
  have hwS := hw.2.1.1
  have hP6 := hA.2.1
  have hS5 := hA.1
  refine d_run 4 rfl ?_
  exact l_meng1 h hw hd (lP (gA o)) 0 _ _ rfl (by omega)
theorem e_engaged (h : MInv F G o) (hw : WF o) (hd : 90 ≤ d) : Td E d 224 0 [some (vr 40 0), none, none, none] [] x F G b (some (vi (q_engaged o))) (MPost (o) F G) := by
  refine d_run 2 rfl ?_
  refine d_pI k224_2 (by first | assumption | exact Nat.le_of_ble_eq_true rfl | omega) ⟨rfl, rfl⟩ ?_
  exact MPost.th h hw (fun h => e_engaged0 h hw hd)
theorem l_mst2 (h : MInv F G o) (hw : WF o) (hd : 90 ≤ d) {p q : Nat} {bv mv : Int32} {R : Option PV} (hp : p < lP (gA o)) (hq : q < lS (gA o)) : ∀ (r i : Nat) (iv : Int32) (acc : Int32), iv = nI i → i + r = lP (gA o) → acc = cnt (offA (gA o) (gS o) p (nI q)) i → (Td E d 209 144 [some (vr 40 0), some (vi (nI p)), some (vi bv), some (vi mv), some (vi (nI q)), some (vi (cnt (offA (gA o) (gS o) p (nI q)) (lP (gA o)))), none] [] x F G b R (MPost o F G)) → Td E d 209 73 [some (vr 40 0), some (vi (nI p)), some (vi bv), some (vi mv), some (vi (nI q)), some (vi acc), some (vi iv)] [] x F G b R (MPost o F G) := by
  intro r
  induction r with
  | zero =>
    intro i iv acc hiv hir ha kk
    subst hiv
    have hi : i = lP (gA o) := by omega
    have hL := h.2.1
    have hA := hw.1
    have hS := h.2.2.2.1.1
    have hwS := hw.2.1.1
    have hP6 := hA.2.1
    have hS5 := hA.1
    refine d_run 2 rfl ?_
    refine d_gR k209_76 (by first | assumption | exact Nat.le_of_ble_eq_true rfl | omega) ⟨rfl, rfl, rfl⟩ rfl ?_
    refine d_run 1 rfl ?_
    refine d_ia (N := 8) (j := 1) k209_80 (by decide) (by first | assumption | exact Nat.le_of_ble_eq_true rfl | omega) ⟨⟨rfl, rfl⟩, rfl, rfl⟩ (by decide) rfl ?_
    refine d_ic_ge k209_81 (fun h81 => ?_) (fun h81 => ?_)
    · rw [ha, hi]
      refine d_dr1111110 ?_
      exact kk
    · exact absurd (lt_nI h81 hL.2.1 (by omega) (by omega)) (by omega)
  | succ r ih =>
    intro i iv acc hiv hir ha kk
    subst hiv
    have hi : i < lP (gA o) := by omega
    have hL := h.2.1
    have hA := hw.1
    have hS := h.2.2.2.1.1
    have hwS := hw.2.1.1
    have hP6 := hA.2.1
    have hS5 := hA.1
    refine d_run 2 rfl ?_
    refine d_gR k209_76 (by first | assumption | exact Nat.le_of_ble_eq_true rfl | omega) ⟨rfl, rfl, rfl⟩ rfl ?_
    refine d_run 1 rfl ?_
    refine d_ia (N := 8) (j := 1) k209_80 (by decide) (by first | assumption | exact Nat.le_of_ble_eq_true rfl | omega) ⟨⟨rfl, rfl⟩, rfl, rfl⟩ (by decide) rfl ?_
    refine d_ic_ge k209_81 (fun h81 => ?_) (fun h81 => ?_)
    · exact absurd (ge_nI h81 hL.2.1 (by omega) (by omega)) (by omega)
    · refine d_run 2 rfl ?_
      refine d_gR k209_87 (by first | assumption | exact Nat.le_of_ble_eq_true rfl | omega) ⟨rfl, rfl, rfl⟩ rfl ?_
      refine d_run 3 rfl ?_
      refine d_ia (N := 50) k209_94 (by decide) (by first | assumption | exact Nat.le_of_ble_eq_true rfl | omega) ⟨⟨rfl, rfl⟩, rfl, rfl⟩ (by first | assumption | omega) (nI_add 2 _) ?_
      rw [hS.2.2.1 i hi]
      refine d_run 1 rfl ?_
      refine d_ic_ne k209_97 (fun h97 => ?_) (fun h97 => ?_)
      · have eO : offA (gA o) (gS o) p (nI q) i = false := by rw [offA_eq, decide_eq_false h97]; rfl
        refine d_run 5 rfl ?_
        refine ih (i + 1) _ _ (nI_1 i) (by omega) ?_ kk
        rw [ha]
        simp only [cnt, isum, eO]
        simp [ibop, b2i]
      · refine d_run 3 rfl ?_
        refine d_callT 3 k209_104 (by omega) (Nat.le_of_ble_eq_true rfl) rfl (Nat.le_of_ble_eq_true rfl) (Nat.le_of_ble_eq_true rfl) (recv_ok rfl (by first | assumption | exact Nat.le_of_ble_eq_true rfl | omega)) rfl (b_stg hL hA hS hi hp (by omega)) rfl ?_
        refine d_if_eq k209_107 (fun h107 => ?_) (fun h107 => ?_)
        · rw [b2i0, stgA_sym hA hi hp] at h107
          have eO : offA (gA o) (gS o) p (nI q) i = false := by rw [offA_eq, h107, Bool.and_false]
          refine d_run 5 rfl ?_
          refine ih (i + 1) _ _ (nI_1 i) (by omega) ?_ kk
          rw [ha]
          simp only [cnt, isum, eO]
          simp [ibop, b2i]
        · rw [b2i0, Bool.not_eq_false, stgA_sym hA hi hp] at h107
          refine d_run 1 rfl ?_
          refine d_gR k209_111 (by first | assumption | exact Nat.le_of_ble_eq_true rfl | omega) ⟨rfl, rfl, rfl⟩ rfl ?_
          refine d_run 1 rfl ?_
          refine d_ia (N := 12) k209_116 (by decide) (by first | assumption | exact Nat.le_of_ble_eq_true rfl | omega) ⟨⟨rfl, rfl⟩, rfl, rfl⟩ (by first | assumption | omega) rfl ?_
          rw [hL.2.2.2.2.2.1 i hi]
          refine d_run 1 rfl ?_
          refine d_ic_eq k209_118 (fun h118 => ?_) (fun h118 => ?_)
          · have eO : offA (gA o) (gS o) p (nI q) i = false := by rw [offA_eq, decide_eq_false (p := ¬ lKi (gA o) i = 1) (fun e => e h118)]; simp
            refine d_run 5 rfl ?_
            refine ih (i + 1) _ _ (nI_1 i) (by omega) ?_ kk
            rw [ha]
            simp only [cnt, isum, eO]
            simp [ibop, b2i]
          · refine d_run 2 rfl ?_
            refine d_callT 2 k209_124 (by omega) (Nat.le_of_ble_eq_true rfl) rfl (Nat.le_of_ble_eq_true rfl) (Nat.le_of_ble_eq_true rfl) (recv_ok rfl (by first | assumption | exact Nat.le_of_ble_eq_true rfl | omega)) rfl (b_sits hA hS hi (by omega)) rfl ?_
            refine d_if_ne k209_127 (fun h127 => ?_) (fun h127 => ?_)
            · rw [b2i0, Bool.not_eq_false] at h127
              have eO : offA (gA o) (gS o) p (nI q) i = false := by rw [offA_eq, h127]; simp
              refine d_run 5 rfl ?_
              refine ih (i + 1) _ _ (nI_1 i) (by omega) ?_ kk
              rw [ha]
              simp only [cnt, isum, eO]
              simp [ibop, b2i]
            · rw [b2i0] at h127
              have eO : offA (gA o) (gS o) p (nI q) i = true := by rw [offA_eq, h127, h107, decide_eq_true h97, decide_eq_true h118]; rfl
              refine d_run 6 rfl ?_
              refine ih (i + 1) _ _ (nI_1 i) (by omega) ?_ kk
              rw [ha]
              simp only [cnt, isum, eO]
              simp [ibop, b2i]
def stRB (bm : Int32 × Int32) (bv mv : Int32) : Prop := (bm.1 = -1 ∧ bm.2 = -1 ∧ bv = -1) ∨ (∃ j, j < 100 ∧ bm.1 = nI j ∧ bv = nI j ∧ mv = bm.2)
theorem l_mst3 {p i : Nat} {bv mv : Int32} {bm : Int32 × Int32} {R : Option PV} (hP6 : lP (gA o) ≤ 6) (hB : stRB bm bv mv) (ho : (decide (nI i = sAt (gS o) p) || cwkA (gA o) (gS o) p i) = true) {hi : i < 100} (kk : ∀ bv mv, stRB (stF (gA o) (gS o) p i bm) bv mv → Td E d 209 30 [some (vr 40 0), some (vi (nI p)), some (vi bv), some (vi mv), some (vi (nI i + 1)), none, none] [] x F G b R (MPost o F G)) : Td E d 209 144 [some (vr 40 0), some (vi (nI p)), some (vi bv), some (vi mv), some (vi (nI i)), some (vi (cnt (offA (gA o) (gS o) p (nI i)) (lP (gA o)))), none] [] x F G b R (MPost o F G) := by
  obtain ⟨c, hc, ec, _⟩ := cnt_nI (f := offA (gA o) (gS o) p (nI i)) (lP (gA o))
  have eF : stF (gA o) (gS o) p i bm = if bm.2 < cnt (offA (gA o) (gS o) p (nI i)) (lP (gA o)) then (nI i, cnt (offA (gA o) (gS o) p (nI i)) (lP (gA o))) else bm := by simp only [stF]; rw [ho]; rfl
  refine d_run 1 rfl ?_
  refine d_if_lt k209_145 (fun h145 => ?_) (fun h145 => ?_)
  · have eG : stF (gA o) (gS o) p i bm = (nI i, cnt (offA (gA o) (gS o) p (nI i)) (lP (gA o))) := by
      rcases hB with ⟨e1, e2, e3⟩ | ⟨j, hj, e1, e3, _⟩
      · rw [eF, e2, if_pos (by rw [ec]; exact m1_nI (by omega))]
      · rw [e3] at h145; exact absurd h145 (nn_nI (by omega))
    refine d_run 4 rfl ?_
    refine d_run 2 rfl ?_
    refine d_dr1111100 ?_
    first
    | (refine kk bv mv ?_
       rw [eG]; exact hB)
    | (refine kk _ _ ?_
       rw [eG]; exact Or.inr ⟨i, hi, rfl, rfl, rfl⟩)
  · refine d_run 2 rfl ?_
    refine d_ic_gt k209_151 (fun h151 => ?_) (fun h151 => ?_)
    · have eG : stF (gA o) (gS o) p i bm = (nI i, cnt (offA (gA o) (gS o) p (nI i)) (lP (gA o))) := by
        rcases hB with ⟨e1, e2, e3⟩ | ⟨j, hj, e1, e3, e4⟩
        · rw [e3] at h145; exact absurd (by decide) h145
        · rw [eF, ← e4, if_pos h151]
      refine d_run 4 rfl ?_
      refine d_run 2 rfl ?_
      refine d_dr1111100 ?_
      first
      | (refine kk bv mv ?_
         rw [eG]; exact hB)
      | (refine kk _ _ ?_
         rw [eG]; exact Or.inr ⟨i, hi, rfl, rfl, rfl⟩)
    · have eG : stF (gA o) (gS o) p i bm = bm := by
        rcases hB with ⟨e1, e2, e3⟩ | ⟨j, hj, e1, e3, e4⟩
        · rw [e3] at h145; exact absurd (by decide) h145
        · rw [eF, ← e4, if_neg h151]
      refine d_run 1 rfl ?_
      refine d_run 2 rfl ?_
      refine d_dr1111100 ?_
      first
      | (refine kk bv mv ?_
         rw [eG]; exact hB)
      | (refine kk _ _ ?_
         rw [eG]; exact Or.inr ⟨i, hi, rfl, rfl, rfl⟩)
theorem l_mst1 (h : MInv F G o) (hw : WF o) (hd : 90 ≤ d) {p : Nat} (hp : p < lP (gA o)) : ∀ (r i : Nat) (iv : Int32) (bv mv : Int32) (bm : Int32 × Int32), iv = nI i → i + r = lS (gA o) → stRB bm bv mv → Td E d 209 30 [some (vr 40 0), some (vi (nI p)), some (vi bv), some (vi mv), some (vi iv), none, none] [] x F G b (some (vi (lpN (stF (gA o) (gS o) p) i r bm).1)) (MPost o F G) := by
  intro r
  induction r with
  | zero =>
    intro i iv bv mv bm hiv hir hB
    subst hiv
    have hi : i = lS (gA o) := by omega
    have hL := h.2.1
    have hA := hw.1
    have hS := h.2.2.2.1.1
    have hwS := hw.2.1.1
    have hP6 := hA.2.1
    have hS5 := hA.1
    refine d_run 2 rfl ?_
    refine d_gR k209_33 (by first | assumption | exact Nat.le_of_ble_eq_true rfl | omega) ⟨rfl, rfl, rfl⟩ rfl ?_
    refine d_run 1 rfl ?_
    refine d_ia (N := 8) (j := 0) k209_37 (by decide) (by first | assumption | exact Nat.le_of_ble_eq_true rfl | omega) ⟨⟨rfl, rfl⟩, rfl, rfl⟩ (by decide) rfl ?_
    refine d_ic_ge k209_38 (fun h38 => ?_) (fun h38 => ?_)
    · refine d_run 1 rfl ?_
      refine d_ir k209_170 rfl (by rcases hB with ⟨e1, _, e3⟩ | ⟨j, _, e1, e3, _⟩ <;> (rw [e3]; exact e1.symm)) ?_
      exact MPost.q0 h
    · exact absurd (lt_nI h38 hL.1 (by omega) (by omega)) (by omega)
  | succ r ih =>
    intro i iv bv mv bm hiv hir hB
    subst hiv
    have hi : i < lS (gA o) := by omega
    have hL := h.2.1
    have hA := hw.1
    have hS := h.2.2.2.1.1
    have hwS := hw.2.1.1
    have hP6 := hA.2.1
    have hS5 := hA.1
    refine d_run 2 rfl ?_
    refine d_gR k209_33 (by first | assumption | exact Nat.le_of_ble_eq_true rfl | omega) ⟨rfl, rfl, rfl⟩ rfl ?_
    refine d_run 1 rfl ?_
    refine d_ia (N := 8) (j := 0) k209_37 (by decide) (by first | assumption | exact Nat.le_of_ble_eq_true rfl | omega) ⟨⟨rfl, rfl⟩, rfl, rfl⟩ (by decide) rfl ?_
    refine d_ic_ge k209_38 (fun h38 => ?_) (fun h38 => ?_)
    · exact absurd (ge_nI h38 hL.1 (by omega) (by omega)) (by omega)
    · refine d_run 2 rfl ?_
      refine d_gR k209_44 (by first | assumption | exact Nat.le_of_ble_eq_true rfl | omega) ⟨rfl, rfl, rfl⟩ rfl ?_
      refine d_run 3 rfl ?_
      refine d_ia (N := 50) k209_50 (by decide) (by first | assumption | exact Nat.le_of_ble_eq_true rfl | omega) ⟨⟨rfl, rfl⟩, rfl, rfl⟩ (by first | assumption | omega) (nI_add 2 _) ?_
      rw [hS.2.2.1 p hp]
      refine d_ic_eq k209_51 (fun h51 => ?_) (fun h51 => ?_)
      · have ho : (decide (nI i = sAt (gS o) p) || cwkA (gA o) (gS o) p i) = true := by simp [h51]
        refine d_run 4 rfl ?_
        refine l_mst2 h hw hd hp hi (lP (gA o)) 0 _ _ rfl (by omega) rfl ?_
        simp only [lpN]
        exact l_mst3 (hi := by omega) hP6 hB ho (fun bv mv hB => ih (i + 1) _ bv mv _ (nI_1 i) (by omega) hB)
      · refine d_run 3 rfl ?_
        refine d_callT 3 k209_58 (by omega) (Nat.le_of_ble_eq_true rfl) rfl (Nat.le_of_ble_eq_true rfl) (Nat.le_of_ble_eq_true rfl) (recv_ok rfl (by first | assumption | exact Nat.le_of_ble_eq_true rfl | omega)) rfl (b_canWalk hL hA hS hwS hp (by omega)) rfl ?_
        refine d_if_ne k209_61 (fun h61 => ?_) (fun h61 => ?_)
        · rw [b2i0, Bool.not_eq_false] at h61
          have ho : (decide (nI i = sAt (gS o) p) || cwkA (gA o) (gS o) p i) = true := by simp [h61]
          refine d_run 4 rfl ?_
          refine l_mst2 h hw hd hp hi (lP (gA o)) 0 _ _ rfl (by omega) rfl ?_
          simp only [lpN]
          exact l_mst3 (hi := by omega) hP6 hB ho (fun bv mv hB => ih (i + 1) _ bv mv _ (nI_1 i) (by omega) hB)
        · rw [b2i0] at h61
          have ho : (decide (nI i = sAt (gS o) p) || cwkA (gA o) (gS o) p i) = false := by simp [h51, h61]
          refine d_run 1 rfl ?_
          refine d_run 2 rfl ?_
          simp only [lpN]
          rw [show stF (gA o) (gS o) p i bm = bm by simp only [stF]; rw [ho]; rfl]
          exact ih (i + 1) _ _ _ _ (nI_1 i) (by omega) hB
theorem e_stand0 (h : MInv F G o) (hw : WF o) (hd : 90 ≤ d) : Td E d 209 5 [some (vr 40 0), some (vi u), none, none, none, none, none] [] x F G b (some (vi (q_stand o u))) (MPost (o) F G) := by
  have hL := h.2.1
  have hA := hw.1
  have hS := h.2.2.2.1.1
  have hwS := hw.2.1.1
  have hP6 := hA.2.1
  have hS5 := hA.1
  by_cases hN : isN u (lP (gA o)) = true
  · obtain ⟨p, hp, rfl⟩ := isN_ex hN (by omega)
    by_cases hc : sitA (gS o) p = true
    · rw [show q_stand o (nI p) = -1 by simp [q_stand, hN, hc, ix_nI (show p < 100000 by omega)]]
      refine d_run 2 rfl ?_
      refine d_callT 2 k209_7 (by omega) (Nat.le_of_ble_eq_true rfl) rfl (Nat.le_of_ble_eq_true rfl) (Nat.le_of_ble_eq_true rfl) (recv_ok rfl (by first | assumption | exact Nat.le_of_ble_eq_true rfl | omega)) rfl (e_isP hL) rfl ?_
      rw [hN]
      refine d_if_eq k209_10 (fun h10 => ?_) (fun h10 => ?_)
      · exact absurd h10 (by decide)
      · refine d_run 2 rfl ?_
        refine d_callT 2 k209_15 (by omega) (Nat.le_of_ble_eq_true rfl) rfl (Nat.le_of_ble_eq_true rfl) (Nat.le_of_ble_eq_true rfl) (recv_ok rfl (by first | assumption | exact Nat.le_of_ble_eq_true rfl | omega)) rfl (b_sits hA hS hp (by omega)) rfl ?_
        rw [hc]
        refine d_if_eq k209_18 (fun h18 => ?_) (fun h18 => ?_)
        · exact absurd h18 (by decide)
        · refine d_run 1 rfl ?_
          refine d_ir k209_22 rfl (by rfl) ?_
          exact MPost.q0 h
    · have hc : sitA (gS o) p = false := by simpa using hc
      rw [show q_stand o (nI p) = (lpN (stF (gA o) (gS o) p) 0 (lS (gA o)) (-1, -1)).1 by simp [q_stand, hN, hc, ix_nI (show p < 100000 by omega)]]
      refine d_run 2 rfl ?_
      refine d_callT 2 k209_7 (by omega) (Nat.le_of_ble_eq_true rfl) rfl (Nat.le_of_ble_eq_true rfl) (Nat.le_of_ble_eq_true rfl) (recv_ok rfl (by first | assumption | exact Nat.le_of_ble_eq_true rfl | omega)) rfl (e_isP hL) rfl ?_
      rw [hN]
      refine d_if_eq k209_10 (fun h10 => ?_) (fun h10 => ?_)
      · exact absurd h10 (by decide)
      · refine d_run 2 rfl ?_
        refine d_callT 2 k209_15 (by omega) (Nat.le_of_ble_eq_true rfl) rfl (Nat.le_of_ble_eq_true rfl) (Nat.le_of_ble_eq_true rfl) (recv_ok rfl (by first | assumption | exact Nat.le_of_ble_eq_true rfl | omega)) rfl (b_sits hA hS hp (by omega)) rfl ?_
        rw [hc]
        refine d_if_eq k209_18 (fun h18 => ?_) (fun h18 => ?_)
        · refine d_run 6 rfl ?_
          exact l_mst1 h hw hd hp (lS (gA o)) 0 _ _ _ (-1, -1) rfl (by omega) (Or.inl ⟨rfl, rfl, rfl⟩)
        · exact absurd h18 (by decide)
  · have hN : isN u (lP (gA o)) = false := by simpa using hN
    rw [show q_stand o u = -1 by simp [q_stand, hN]]
    refine d_run 2 rfl ?_
    refine d_callT 2 k209_7 (by omega) (Nat.le_of_ble_eq_true rfl) rfl (Nat.le_of_ble_eq_true rfl) (Nat.le_of_ble_eq_true rfl) (recv_ok rfl (by first | assumption | exact Nat.le_of_ble_eq_true rfl | omega)) rfl (e_isP hL) rfl ?_
    rw [hN]
    refine d_if_eq k209_10 (fun h10 => ?_) (fun h10 => ?_)
    · refine d_run 1 rfl ?_
      refine d_ir k209_22 rfl (by rfl) ?_
      exact MPost.q0 h
    · exact absurd h10 (by decide)
theorem e_stand (h : MInv F G o) (hw : WF o) (hd : 90 ≤ d) : Td E d 209 0 [some (vr 40 0), some (vi u), none, none, none, none, none] [] x F G b (some (vi (q_stand o u))) (MPost (o) F G) := by
  refine d_run 2 rfl ?_
  refine d_pI k209_2 (by first | assumption | exact Nat.le_of_ble_eq_true rfl | omega) ⟨rfl, rfl⟩ ?_
  exact MPost.th h hw (fun h => e_stand0 h hw hd)
theorem l_msum {a m : Nat} (ham : a + m ≤ 50) : ∀ (r i : Nat) (acc : Int32), i + r = m → acc = isum (fun j => F 70 0 (a + j)) i → Td E d 235 5 [some (vr 40 0), some (vi (nI a)), some (vi (nI m)), some (vi acc), some (vi (nI (a + i)))] [] x F G b (some (vi (isum (fun j => F 70 0 (a + j)) m))) (fun F2 G2 => F2 = F ∧ G2 = G) := by
  intro r
  induction r with
  | zero =>
    intro i acc hir ha
    refine d_run 4 rfl ?_
    rw [show ibop 0 (nI a) (nI m) = nI (a + m) from nI_add a m]
    refine d_ic_ge k235_10 (fun h10 => ?_) (fun h10 => ?_)
    · refine d_run 1 rfl ?_
      refine d_ir k235_30 rfl (by rw [ha, show i = m by omega]) ?_
      exact ⟨rfl, rfl⟩
    · exact absurd (lt_nI h10 rfl (by omega) (by omega)) (by omega)
  | succ r ih =>
    intro i acc hir ha
    refine d_run 4 rfl ?_
    rw [show ibop 0 (nI a) (nI m) = nI (a + m) from nI_add a m]
    refine d_ic_ge k235_10 (fun h10 => ?_) (fun h10 => ?_)
    · exact absurd (ge_nI h10 rfl (by omega) (by omega)) (by omega)
    · refine d_run 2 rfl ?_
      refine d_gR k235_15 (by first | assumption | exact Nat.le_of_ble_eq_true rfl | omega) ⟨rfl, rfl, rfl⟩ rfl ?_
      refine d_run 1 rfl ?_
      refine d_ia (N := 50) (j := a + i) k235_20 (by decide) (by first | assumption | exact Nat.le_of_ble_eq_true rfl | omega) ⟨⟨rfl, rfl⟩, rfl, rfl⟩ (show a + i < 50 by omega) rfl ?_
      refine d_run 4 rfl ?_
      rw [show nI (a + i) + 1 = nI (a + (i + 1)) from nI_1 (a + i)]
      exact ih (i + 1) _ (by omega) (by rw [ha]; rfl)
theorem m_sum {a m : Nat} (ham : a + m ≤ 50) : Td E d 235 0 [some (vr 40 0), some (vi (nI a)), some (vi (nI m)), none, none] [] x F G b (some (vi (isum (fun j => F 70 0 (a + j)) m))) (fun F2 G2 => F2 = F ∧ G2 = G) := by
  refine d_run 4 rfl ?_
  exact l_msum ham m 0 _ (by omega) rfl
theorem l_mtales (h : MInv F G o) (hw : WF o) (hd : 20 ≤ d) : ∀ (r i : Nat) (iv : Int32) (acc : Int32), iv = nI i → i + r = lP (gA o) → acc = tcn (gTl o) i → Td E d 236 4 [some (vr 40 0), some (vi acc), some (vi iv)] [] x F G b (some (vi (tcn (gTl o) (lP (gA o))))) (fun F2 G2 => F2 = F ∧ G2 = G) := by
  intro r
  induction r with
  | zero =>
    intro i iv acc hiv hir ha
    subst hiv
    have hi : i = lP (gA o) := by omega
    have hL := h.2.1
    have hA := hw.1
    have hS := h.2.2.2.1.1
    have hwS := hw.2.1.1
    have hP6 := hA.2.1
    have hS5 := hA.1
    refine d_run 2 rfl ?_
    refine d_gR k236_6 (by first | assumption | exact Nat.le_of_ble_eq_true rfl | omega) ⟨rfl, rfl, rfl⟩ rfl ?_
    refine d_run 1 rfl ?_
    refine d_ia (N := 8) (j := 1) k236_10 (by decide) (by first | assumption | exact Nat.le_of_ble_eq_true rfl | omega) ⟨⟨rfl, rfl⟩, rfl, rfl⟩ (by decide) rfl ?_
    refine d_ic_ge k236_11 (fun h11 => ?_) (fun h11 => ?_)
    · refine d_run 1 rfl ?_
      refine d_ir k236_38 rfl (by rw [ha, hi]) ?_
      exact ⟨rfl, rfl⟩
    · exact absurd (lt_nI h11 hL.2.1 (by omega) (by omega)) (by omega)
  | succ r ih =>
    intro i iv acc hiv hir ha
    subst hiv
    have hi : i < lP (gA o) := by omega
    have hL := h.2.1
    have hA := hw.1
    have hS := h.2.2.2.1.1
    have hwS := hw.2.1.1
    have hP6 := hA.2.1
    have hS5 := hA.1
    refine d_run 2 rfl ?_
    refine d_gR k236_6 (by first | assumption | exact Nat.le_of_ble_eq_true rfl | omega) ⟨rfl, rfl, rfl⟩ rfl ?_
    refine d_run 1 rfl ?_
    refine d_ia (N := 8) (j := 1) k236_10 (by decide) (by first | assumption | exact Nat.le_of_ble_eq_true rfl | omega) ⟨⟨rfl, rfl⟩, rfl, rfl⟩ (by decide) rfl ?_
    refine d_ic_ge k236_11 (fun h11 => ?_) (fun h11 => ?_)
    · exact absurd (ge_nI h11 hL.2.1 (by omega) (by omega)) (by omega)
    · refine d_run 2 rfl ?_
      refine d_gR k236_16 (by first | assumption | exact Nat.le_of_ble_eq_true rfl | omega) ⟨rfl, rfl, rfl⟩ rfl ?_
      refine d_run 1 rfl ?_
      refine d_ia (N := 30) k236_20 (by decide) (by first | assumption | exact Nat.le_of_ble_eq_true rfl | omega) ⟨⟨rfl, rfl⟩, rfl, rfl⟩ (by first | assumption | omega) rfl ?_
      have et : F 69 0 i = gTl o i := by
        have := h.2.2.2.1.2.2 i (by omega)
        rwa [Nat.mul_zero, Nat.zero_add] at this
      rw [et]
      refine d_if_lt k236_21 (fun h21 => ?_) (fun h21 => ?_)
      · have eT : gTl o i = -1 := by
          rcases hw.2.1.2.2 i (by omega) with e | ⟨_, c, hc, e⟩
          · exact e
          · rw [show gTl o i = nI c from e] at h21; exact absurd h21 (nn_nI (by omega))
        refine d_run 5 rfl ?_
        refine ih (i + 1) _ _ (nI_1 i) (by omega) ?_
        rw [ha]
        simp only [tcn]
        first
        | (rw [if_pos eT]; exact Int32.add_zero _)
        | (rw [if_neg eT]; rfl)
      · have eT : ¬ gTl o i = -1 := fun e => h21 (by rw [e]; decide)
        refine d_run 6 rfl ?_
        refine ih (i + 1) _ _ (nI_1 i) (by omega) ?_
        rw [ha]
        simp only [tcn]
        first
        | (rw [if_pos eT]; exact Int32.add_zero _)
        | (rw [if_neg eT]; rfl)
theorem m_tales (h : MInv F G o) (hw : WF o) (hd : 20 ≤ d) : Td E d 236 0 [some (vr 40 0), none, none] [] x F G b (some (vi (tcn (gTl o) (lP (gA o))))) (fun F2 G2 => F2 = F ∧ G2 = G) := by
  refine d_run 4 rfl ?_
  exact l_mtales h hw hd (lP (gA o)) 0 _ _ rfl (by omega) rfl
theorem tcn_z {t : Nat → Int32} {P : Nat} : ∀ {N : Nat}, P ≤ N → (∀ i, P ≤ i → i < N → t i = -1) → tcn t N = tcn t P
  | 0, h, _ => by
    have : P = 0 := by omega
    subst this
    rfl
  | N + 1, h, e => by
    by_cases hN : P = N + 1
    · rw [hN]
    · simp only [tcn]
      rw [if_pos (e N (by omega) (by omega))]
      exact tcn_z (by omega) (fun i a b => e i a (by omega))
theorem le12_ex {w : Int32} (h : isW2 w 0 12 = true) : w = 0 ∨ w = 1 ∨ w = 2 ∨ w = 3 ∨ w = 4 ∨ w = 5 ∨ w = 6 ∨ w = 7 ∨ w = 8 ∨ w = 9 ∨ w = 10 ∨ w = 11 ∨ w = 12 := by
  obtain ⟨n, hn, rfl⟩ := isW2_ex (H := 12) h ⟨by decide, rfl, by decide⟩
  have h6 : n = 0 ∨ n = 1 ∨ n = 2 ∨ n = 3 ∨ n = 4 ∨ n = 5 ∨ n = 6 ∨ n = 7 ∨ n = 8 ∨ n = 9 ∨ n = 10 ∨ n = 11 ∨ n = 12 := by omega
  rcases h6 with rfl | rfl | rfl | rfl | rfl | rfl | rfl | rfl | rfl | rfl | rfl | rfl | rfl <;> decide
theorem le12_no {w : Int32} (h : isW2 w 0 12 = false) : ¬ w = 0 ∧ ¬ w = 1 ∧ ¬ w = 2 ∧ ¬ w = 3 ∧ ¬ w = 4 ∧ ¬ w = 5 ∧ ¬ w = 6 ∧ ¬ w = 7 ∧ ¬ w = 8 ∧ ¬ w = 9 ∧ ¬ w = 10 ∧ ¬ w = 11 ∧ ¬ w = 12 := by
  refine ⟨?_, ?_, ?_, ?_, ?_, ?_, ?_, ?_, ?_, ?_, ?_, ?_, ?_⟩ <;> (intro e; subst e; exact absurd h (by decide))
theorem e_count0 (h : MInv F G o) (hw : WF o) (hd : 90 ≤ d) : Td E d 237 5 [some (vr 40 0), some (vi w)] [] x F G b (some (vi (q_count o w))) (MPost (o) F G) := by
  have hL := h.2.1
  have hA := hw.1
  have hS := h.2.2.2.1.1
  have hwS := hw.2.1.1
  have hP6 := hA.2.1
  have hS5 := hA.1
  cases hM : isW2 w 0 12 with
  | false =>
    obtain ⟨n0, n1, n2, n3, n4, n5, n6, n7, n8, n9, n10, n11, n12⟩ := le12_no hM
    rw [show q_count o w = -1 by simp [q_count, n0, n1, n2, n3, n4, n5, n6, n7, n8, n9, n10, n11, n12]]
    refine d_run 3 rfl ?_
    refine d_callT 3 k237_9 (by omega) (Nat.le_of_ble_eq_true rfl) rfl (Nat.le_of_ble_eq_true rfl) (Nat.le_of_ble_eq_true rfl) recv_st rfl e_within rfl ?_
    rw [hM]
    refine d_if_ne k237_12 (fun h12 => ?_) (fun h12 => ?_)
    · exact absurd rfl h12
    · refine d_run 1 rfl ?_
      refine d_ir k237_16 rfl (by rfl) ?_
      exact MPost.q0 h
  | true =>
    rcases le12_ex hM with rfl | rfl | rfl | rfl | rfl | rfl | rfl | rfl | rfl | rfl | rfl | rfl | rfl
    · show Td E d 237 5 _ [] x F G b (some (vi (nI (lS (gA o))))) _
      refine d_run 3 rfl ?_
      refine d_callT 3 k237_9 (by omega) (Nat.le_of_ble_eq_true rfl) rfl (Nat.le_of_ble_eq_true rfl) (Nat.le_of_ble_eq_true rfl) recv_st rfl e_within rfl ?_
      rw [hM]
      refine d_if_ne k237_12 (fun h12 => ?_) (fun h12 => ?_)
      · refine d_run 2 rfl ?_
        refine d_ic_ge k237_19 (fun h19 => ?_) (fun h19 => ?_)
        · exact absurd h19 (by decide)
        · refine d_run 1 rfl ?_
          refine d_gR k237_23 (by first | assumption | exact Nat.le_of_ble_eq_true rfl | omega) ⟨rfl, rfl, rfl⟩ rfl ?_
          refine d_run 1 rfl ?_
          refine d_ia (N := 8) (j := 0) k237_27 (by decide) (by first | assumption | exact Nat.le_of_ble_eq_true rfl | omega) ⟨⟨rfl, rfl⟩, rfl, rfl⟩ (by decide) rfl ?_
          refine d_ir k237_28 rfl (by exact hL.1) ?_
          exact MPost.q0 h
      · exact absurd h12 (by decide)
    · show Td E d 237 5 _ [] x F G b (some (vi (nI (lP (gA o))))) _
      refine d_run 3 rfl ?_
      refine d_callT 3 k237_9 (by omega) (Nat.le_of_ble_eq_true rfl) rfl (Nat.le_of_ble_eq_true rfl) (Nat.le_of_ble_eq_true rfl) recv_st rfl e_within rfl ?_
      rw [hM]
      refine d_if_ne k237_12 (fun h12 => ?_) (fun h12 => ?_)
      · refine d_run 2 rfl ?_
        refine d_ic_ge k237_19 (fun h19 => ?_) (fun h19 => ?_)
        · exact absurd h19 (by decide)
        · refine d_run 1 rfl ?_
          refine d_gR k237_23 (by first | assumption | exact Nat.le_of_ble_eq_true rfl | omega) ⟨rfl, rfl, rfl⟩ rfl ?_
          refine d_run 1 rfl ?_
          refine d_ia (N := 8) (j := 1) k237_27 (by decide) (by first | assumption | exact Nat.le_of_ble_eq_true rfl | omega) ⟨⟨rfl, rfl⟩, rfl, rfl⟩ (by decide) rfl ?_
          refine d_ir k237_28 rfl (by exact hL.2.1) ?_
          exact MPost.q0 h
      · exact absurd h12 (by decide)
    · show Td E d 237 5 _ [] x F G b (some (vi (lSo (gA o)))) _
      refine d_run 3 rfl ?_
      refine d_callT 3 k237_9 (by omega) (Nat.le_of_ble_eq_true rfl) rfl (Nat.le_of_ble_eq_true rfl) (Nat.le_of_ble_eq_true rfl) recv_st rfl e_within rfl ?_
      rw [hM]
      refine d_if_ne k237_12 (fun h12 => ?_) (fun h12 => ?_)
      · refine d_run 2 rfl ?_
        refine d_ic_ge k237_19 (fun h19 => ?_) (fun h19 => ?_)
        · exact absurd h19 (by decide)
        · refine d_run 1 rfl ?_
          refine d_gR k237_23 (by first | assumption | exact Nat.le_of_ble_eq_true rfl | omega) ⟨rfl, rfl, rfl⟩ rfl ?_
          refine d_run 1 rfl ?_
          refine d_ia (N := 8) (j := 2) k237_27 (by decide) (by first | assumption | exact Nat.le_of_ble_eq_true rfl | omega) ⟨⟨rfl, rfl⟩, rfl, rfl⟩ (by decide) rfl ?_
          refine d_ir k237_28 rfl (by exact hL.2.2.1) ?_
          exact MPost.q0 h
      · exact absurd h12 (by decide)
    · show Td E d 237 5 _ [] x F G b (some (vi (lSp (gA o)))) _
      refine d_run 3 rfl ?_
      refine d_callT 3 k237_9 (by omega) (Nat.le_of_ble_eq_true rfl) rfl (Nat.le_of_ble_eq_true rfl) (Nat.le_of_ble_eq_true rfl) recv_st rfl e_within rfl ?_
      rw [hM]
      refine d_if_ne k237_12 (fun h12 => ?_) (fun h12 => ?_)
      · refine d_run 2 rfl ?_
        refine d_ic_ge k237_19 (fun h19 => ?_) (fun h19 => ?_)
        · exact absurd h19 (by decide)
        · refine d_run 1 rfl ?_
          refine d_gR k237_23 (by first | assumption | exact Nat.le_of_ble_eq_true rfl | omega) ⟨rfl, rfl, rfl⟩ rfl ?_
          refine d_run 1 rfl ?_
          refine d_ia (N := 8) (j := 3) k237_27 (by decide) (by first | assumption | exact Nat.le_of_ble_eq_true rfl | omega) ⟨⟨rfl, rfl⟩, rfl, rfl⟩ (by decide) rfl ?_
          refine d_ir k237_28 rfl (by exact hL.2.2.2.1) ?_
          exact MPost.q0 h
      · exact absurd h12 (by decide)
    · show Td E d 237 5 _ [] x F G b (some (vi (sHr (gS o)))) _
      refine d_run 3 rfl ?_
      refine d_callT 3 k237_9 (by omega) (Nat.le_of_ble_eq_true rfl) rfl (Nat.le_of_ble_eq_true rfl) (Nat.le_of_ble_eq_true rfl) recv_st rfl e_within rfl ?_
      rw [hM]
      refine d_if_ne k237_12 (fun h12 => ?_) (fun h12 => ?_)
      · refine d_run 2 rfl ?_
        refine d_ic_ge k237_19 (fun h19 => ?_) (fun h19 => ?_)
        · refine d_run 2 rfl ?_
          refine d_ic_ge k237_32 (fun h32 => ?_) (fun h32 => ?_)
          · exact absurd h32 (by decide)
          · refine d_run 2 rfl ?_
            refine d_ic_ne k237_37 (fun h37 => ?_) (fun h37 => ?_)
            · exact absurd rfl h37
            · refine d_run 1 rfl ?_
              refine d_gR k237_41 (by first | assumption | exact Nat.le_of_ble_eq_true rfl | omega) ⟨rfl, rfl, rfl⟩ rfl ?_
              refine d_run 1 rfl ?_
              refine d_ia (N := 50) (j := 0) k237_45 (by decide) (by first | assumption | exact Nat.le_of_ble_eq_true rfl | omega) ⟨⟨rfl, rfl⟩, rfl, rfl⟩ (by decide) rfl ?_
              refine d_run 1 rfl ?_
              refine d_ir k237_67 rfl (by exact hS.1) ?_
              exact MPost.q0 h
        · exact absurd (by decide) h19
      · exact absurd h12 (by decide)
    · show Td E d 237 5 _ [] x F G b (some (vi (bset (sitA (gS o)) (lP (gA o))))) _
      refine d_run 3 rfl ?_
      refine d_callT 3 k237_9 (by omega) (Nat.le_of_ble_eq_true rfl) rfl (Nat.le_of_ble_eq_true rfl) (Nat.le_of_ble_eq_true rfl) recv_st rfl e_within rfl ?_
      rw [hM]
      refine d_if_ne k237_12 (fun h12 => ?_) (fun h12 => ?_)
      · refine d_run 2 rfl ?_
        refine d_ic_ge k237_19 (fun h19 => ?_) (fun h19 => ?_)
        · refine d_run 2 rfl ?_
          refine d_ic_ge k237_32 (fun h32 => ?_) (fun h32 => ?_)
          · exact absurd h32 (by decide)
          · refine d_run 2 rfl ?_
            refine d_ic_ne k237_37 (fun h37 => ?_) (fun h37 => ?_)
            · refine d_run 2 rfl ?_
              refine d_ic_ne k237_51 (fun h51 => ?_) (fun h51 => ?_)
              · exact absurd rfl h51
              · refine d_run 1 rfl ?_
                refine d_callT 1 k237_55 (by omega) (Nat.le_of_ble_eq_true rfl) rfl (Nat.le_of_ble_eq_true rfl) (Nat.le_of_ble_eq_true rfl) (recv_ok rfl (by first | assumption | exact Nat.le_of_ble_eq_true rfl | omega)) rfl (b_sitting hL hA hS (by omega)) rfl ?_
                refine d_run 1 rfl ?_
                refine d_ir k237_67 rfl (by rfl) ?_
                exact MPost.q0 h
            · exact absurd h37 (by decide)
        · exact absurd (by decide) h19
      · exact absurd h12 (by decide)
    · show Td E d 237 5 _ [] x F G b (some (vi (sSn (gS o)))) _
      refine d_run 3 rfl ?_
      refine d_callT 3 k237_9 (by omega) (Nat.le_of_ble_eq_true rfl) rfl (Nat.le_of_ble_eq_true rfl) (Nat.le_of_ble_eq_true rfl) recv_st rfl e_within rfl ?_
      rw [hM]
      refine d_if_ne k237_12 (fun h12 => ?_) (fun h12 => ?_)
      · refine d_run 2 rfl ?_
        refine d_ic_ge k237_19 (fun h19 => ?_) (fun h19 => ?_)
        · refine d_run 2 rfl ?_
          refine d_ic_ge k237_32 (fun h32 => ?_) (fun h32 => ?_)
          · exact absurd h32 (by decide)
          · refine d_run 2 rfl ?_
            refine d_ic_ne k237_37 (fun h37 => ?_) (fun h37 => ?_)
            · refine d_run 2 rfl ?_
              refine d_ic_ne k237_51 (fun h51 => ?_) (fun h51 => ?_)
              · refine d_run 1 rfl ?_
                refine d_gR k237_62 (by first | assumption | exact Nat.le_of_ble_eq_true rfl | omega) ⟨rfl, rfl, rfl⟩ rfl ?_
                refine d_run 1 rfl ?_
                refine d_ia (N := 50) (j := 1) k237_66 (by decide) (by first | assumption | exact Nat.le_of_ble_eq_true rfl | omega) ⟨⟨rfl, rfl⟩, rfl, rfl⟩ (by decide) rfl ?_
                refine d_ir k237_67 rfl (by exact hS.2.1) ?_
                exact MPost.q0 h
              · exact absurd h51 (by decide)
            · exact absurd h37 (by decide)
        · exact absurd (by decide) h19
      · exact absurd h12 (by decide)
    · show Td E d 237 5 _ [] x F G b (some (vi (isum (sLf (gS o)) (lP (gA o))))) _
      refine d_run 3 rfl ?_
      refine d_callT 3 k237_9 (by omega) (Nat.le_of_ble_eq_true rfl) rfl (Nat.le_of_ble_eq_true rfl) (Nat.le_of_ble_eq_true rfl) recv_st rfl e_within rfl ?_
      rw [hM]
      refine d_if_ne k237_12 (fun h12 => ?_) (fun h12 => ?_)
      · refine d_run 2 rfl ?_
        refine d_ic_ge k237_19 (fun h19 => ?_) (fun h19 => ?_)
        · refine d_run 2 rfl ?_
          refine d_ic_ge k237_32 (fun h32 => ?_) (fun h32 => ?_)
          · refine d_run 2 rfl ?_
            refine d_ic_ge k237_71 (fun h71 => ?_) (fun h71 => ?_)
            · exact absurd h71 (by decide)
            · refine d_run 2 rfl ?_
              refine d_ic_ne k237_77 (fun h77 => ?_) (fun h77 => ?_)
              · exact absurd rfl h77
              · refine d_run 3 rfl ?_
                refine d_call 3 k237_85 (by omega) (Nat.le_of_ble_eq_true rfl) rfl (Nat.le_of_ble_eq_true rfl) (Nat.le_of_ble_eq_true rfl) (recv_ok rfl (by first | assumption | exact Nat.le_of_ble_eq_true rfl | omega)) rfl (m_sum (a := 8) (m := 6) (by decide)) rfl ?_
                rintro F1 G1 ⟨rfl, rfl⟩
                refine d_run 1 rfl ?_
                refine d_ir k237_99 rfl (by show isum (fun j => F1 70 0 (8 + j)) 6 = isum (sLf (gS o)) (lP (gA o)); rw [isum_z (P := lP (gA o)) hP6 (fun i a c => hS.2.2.2.2.1 i a c)]; exact isum_c (fun i hi => hS.2.2.2.1 i hi)) ?_
                exact MPost.q0 h
          · exact absurd (by decide) h32
        · exact absurd (by decide) h19
      · exact absurd h12 (by decide)
    · show Td E d 237 5 _ [] x F G b (some (vi (sWi (gS o)))) _
      refine d_run 3 rfl ?_
      refine d_callT 3 k237_9 (by omega) (Nat.le_of_ble_eq_true rfl) rfl (Nat.le_of_ble_eq_true rfl) (Nat.le_of_ble_eq_true rfl) recv_st rfl e_within rfl ?_
      rw [hM]
      refine d_if_ne k237_12 (fun h12 => ?_) (fun h12 => ?_)
      · refine d_run 2 rfl ?_
        refine d_ic_ge k237_19 (fun h19 => ?_) (fun h19 => ?_)
        · refine d_run 2 rfl ?_
          refine d_ic_ge k237_32 (fun h32 => ?_) (fun h32 => ?_)
          · refine d_run 2 rfl ?_
            refine d_ic_ge k237_71 (fun h71 => ?_) (fun h71 => ?_)
            · exact absurd h71 (by decide)
            · refine d_run 2 rfl ?_
              refine d_ic_ne k237_77 (fun h77 => ?_) (fun h77 => ?_)
              · refine d_run 3 rfl ?_
                refine d_call 3 k237_96 (by omega) (Nat.le_of_ble_eq_true rfl) rfl (Nat.le_of_ble_eq_true rfl) (Nat.le_of_ble_eq_true rfl) (recv_ok rfl (by first | assumption | exact Nat.le_of_ble_eq_true rfl | omega)) rfl (m_sum (a := 14) (m := 36) (by decide)) rfl ?_
                rintro F1 G1 ⟨rfl, rfl⟩
                refine d_ir k237_99 rfl (by show isum (fun j => F1 70 0 (14 + j)) 36 = sWi (gS o); rw [hwS.2.2]; exact isum_c (fun i hi => hS.2.2.2.2.2 i hi)) ?_
                exact MPost.q0 h
              · exact absurd h77 (by decide)
          · exact absurd (by decide) h32
        · exact absurd (by decide) h19
      · exact absurd h12 (by decide)
    · show Td E d 237 5 _ [] x F G b (some (vi (nI (gW o).1))) _
      refine d_run 3 rfl ?_
      refine d_callT 3 k237_9 (by omega) (Nat.le_of_ble_eq_true rfl) rfl (Nat.le_of_ble_eq_true rfl) (Nat.le_of_ble_eq_true rfl) recv_st rfl e_within rfl ?_
      rw [hM]
      refine d_if_ne k237_12 (fun h12 => ?_) (fun h12 => ?_)
      · refine d_run 2 rfl ?_
        refine d_ic_ge k237_19 (fun h19 => ?_) (fun h19 => ?_)
        · refine d_run 2 rfl ?_
          refine d_ic_ge k237_32 (fun h32 => ?_) (fun h32 => ?_)
          · refine d_run 2 rfl ?_
            refine d_ic_ge k237_71 (fun h71 => ?_) (fun h71 => ?_)
            · refine d_run 2 rfl ?_
              refine d_ic_ge k237_103 (fun h103 => ?_) (fun h103 => ?_)
              · exact absurd h103 (by decide)
              · refine d_run 2 rfl ?_
                refine d_ic_ne k237_109 (fun h109 => ?_) (fun h109 => ?_)
                · exact absurd rfl h109
                · refine d_run 1 rfl ?_
                  refine d_gR k237_113 (by first | assumption | exact Nat.le_of_ble_eq_true rfl | omega) ⟨rfl, rfl, rfl⟩ rfl ?_
                  refine d_run 1 rfl ?_
                  refine d_ia (N := 6) (j := 0) k237_117 (by decide) (by first | assumption | exact Nat.le_of_ble_eq_true rfl | omega) ⟨⟨rfl, rfl⟩, rfl, rfl⟩ (by decide) rfl ?_
                  refine d_run 1 rfl ?_
                  refine d_ir k237_125 rfl (by exact h.2.2.2.1.2.1.1) ?_
                  exact MPost.q0 h
            · exact absurd (by decide) h71
          · exact absurd (by decide) h32
        · exact absurd (by decide) h19
      · exact absurd h12 (by decide)
    · show Td E d 237 5 _ [] x F G b (some (vi (tcn (gTl o) 6))) _
      refine d_run 3 rfl ?_
      refine d_callT 3 k237_9 (by omega) (Nat.le_of_ble_eq_true rfl) rfl (Nat.le_of_ble_eq_true rfl) (Nat.le_of_ble_eq_true rfl) recv_st rfl e_within rfl ?_
      rw [hM]
      refine d_if_ne k237_12 (fun h12 => ?_) (fun h12 => ?_)
      · refine d_run 2 rfl ?_
        refine d_ic_ge k237_19 (fun h19 => ?_) (fun h19 => ?_)
        · refine d_run 2 rfl ?_
          refine d_ic_ge k237_32 (fun h32 => ?_) (fun h32 => ?_)
          · refine d_run 2 rfl ?_
            refine d_ic_ge k237_71 (fun h71 => ?_) (fun h71 => ?_)
            · refine d_run 2 rfl ?_
              refine d_ic_ge k237_103 (fun h103 => ?_) (fun h103 => ?_)
              · exact absurd h103 (by decide)
              · refine d_run 2 rfl ?_
                refine d_ic_ne k237_109 (fun h109 => ?_) (fun h109 => ?_)
                · refine d_run 1 rfl ?_
                  refine d_call 1 k237_122 (by omega) (Nat.le_of_ble_eq_true rfl) rfl (Nat.le_of_ble_eq_true rfl) (Nat.le_of_ble_eq_true rfl) (recv_ok rfl (by first | assumption | exact Nat.le_of_ble_eq_true rfl | omega)) rfl (m_tales h hw (by omega)) rfl ?_
                  rintro F1 G1 ⟨rfl, rfl⟩
                  refine d_ir k237_125 rfl (by show tcn (gTl o) (lP (gA o)) = tcn (gTl o) 6; refine (tcn_z hP6 (fun i a c => ?_)).symm; rcases hw.2.1.2.2 i c with e | ⟨e, _⟩; exact e; omega) ?_
                  exact MPost.q0 h
                · exact absurd h109 (by decide)
            · exact absurd (by decide) h71
          · exact absurd (by decide) h32
        · exact absurd (by decide) h19
      · exact absurd h12 (by decide)
    · show Td E d 237 5 _ [] x F G b (some (vi (nI (gP o).length))) _
      refine d_run 3 rfl ?_
      refine d_callT 3 k237_9 (by omega) (Nat.le_of_ble_eq_true rfl) rfl (Nat.le_of_ble_eq_true rfl) (Nat.le_of_ble_eq_true rfl) recv_st rfl e_within rfl ?_
      rw [hM]
      refine d_if_ne k237_12 (fun h12 => ?_) (fun h12 => ?_)
      · refine d_run 2 rfl ?_
        refine d_ic_ge k237_19 (fun h19 => ?_) (fun h19 => ?_)
        · refine d_run 2 rfl ?_
          refine d_ic_ge k237_32 (fun h32 => ?_) (fun h32 => ?_)
          · refine d_run 2 rfl ?_
            refine d_ic_ge k237_71 (fun h71 => ?_) (fun h71 => ?_)
            · refine d_run 2 rfl ?_
              refine d_ic_ge k237_103 (fun h103 => ?_) (fun h103 => ?_)
              · refine d_run 2 rfl ?_
                refine d_ic_ne k237_129 (fun h129 => ?_) (fun h129 => ?_)
                · exact absurd rfl h129
                · refine d_run 1 rfl ?_
                  refine d_gI k237_133 (by first | assumption | exact Nat.le_of_ble_eq_true rfl | omega) ⟨rfl, rfl, Or.inl rfl⟩ ?_
                  refine d_run 1 rfl ?_
                  refine d_ir k237_143 rfl (by exact h.2.2.2.2.2.1) ?_
                  exact MPost.q0 h
              · exact absurd (by decide) h103
            · exact absurd (by decide) h71
          · exact absurd (by decide) h32
        · exact absurd (by decide) h19
      · exact absurd h12 (by decide)
    · show Td E d 237 5 _ [] x F G b (some (vi (nI (gT o).1))) _
      refine d_run 3 rfl ?_
      refine d_callT 3 k237_9 (by omega) (Nat.le_of_ble_eq_true rfl) rfl (Nat.le_of_ble_eq_true rfl) (Nat.le_of_ble_eq_true rfl) recv_st rfl e_within rfl ?_
      rw [hM]
      refine d_if_ne k237_12 (fun h12 => ?_) (fun h12 => ?_)
      · refine d_run 2 rfl ?_
        refine d_ic_ge k237_19 (fun h19 => ?_) (fun h19 => ?_)
        · refine d_run 2 rfl ?_
          refine d_ic_ge k237_32 (fun h32 => ?_) (fun h32 => ?_)
          · refine d_run 2 rfl ?_
            refine d_ic_ge k237_71 (fun h71 => ?_) (fun h71 => ?_)
            · refine d_run 2 rfl ?_
              refine d_ic_ge k237_103 (fun h103 => ?_) (fun h103 => ?_)
              · refine d_run 2 rfl ?_
                refine d_ic_ne k237_129 (fun h129 => ?_) (fun h129 => ?_)
                · refine d_run 1 rfl ?_
                  refine d_gI k237_140 (by first | assumption | exact Nat.le_of_ble_eq_true rfl | omega) ⟨rfl, rfl, Or.inl rfl⟩ ?_
                  refine d_ir k237_143 rfl (by exact h.1.1) ?_
                  exact MPost.q0 h
                · exact absurd h129 (by decide)
              · exact absurd (by decide) h103
            · exact absurd (by decide) h71
          · exact absurd (by decide) h32
        · exact absurd (by decide) h19
      · exact absurd h12 (by decide)
theorem e_count (h : MInv F G o) (hw : WF o) (hd : 90 ≤ d) : Td E d 237 0 [some (vr 40 0), some (vi w)] [] x F G b (some (vi (q_count o w))) (MPost (o) F G) := by
  refine d_run 2 rfl ?_
  refine d_pI k237_2 (by first | assumption | exact Nat.le_of_ble_eq_true rfl | omega) ⟨rfl, rfl⟩ ?_
  exact MPost.th h hw (fun h => e_count0 h hw hd)
end M10
