theorem d_dr111111100 {E : EV} {d m pc x : Nat} {st : List PV} {F : FT} {G : GT} {b : Bool} {r : Option PV} {Q : FT → GT → Prop} {a0 a1 a2 a3 a4 a5 a6 a7 a8 : Option PV} (kk : Td E d m pc [a0, a1, a2, a3, a4, a5, a6, none, none] st x F G b r Q) : Td E d m pc [a0, a1, a2, a3, a4, a5, a6, a7, a8] st x F G b r Q := d_le (by simp [leL]) kk
/-! SETS, ASK OF THE REFERENCE -/
theorem scr_mh {F F2 : FT} (h : FrK scr F F2) : FrK dMH F F2 := h.mo (fun k e => by
  simp only [dMH, Bool.or_eq_false_iff] at e
  exact e.2)
theorem scr_S {F F2 : FT} {P : Nat} {s : ST} (h : FrK scr F F2) (hS : rowS (F 70 0) P s) : rowS (F2 70 0) P s := by
  rw [h 70 rfl]
  exact hS
theorem mwd_off {A : LA} {s : ST} {p q : Nat} (hA : wfL A) (hp : p < lP A) (hq : q < lP A) : mwdA A s q p = offA A s p (sAt s p) q := by
  rw [offA_eq, stgA_sym hA hp hq]
  show (decide (¬ lKi A q = 1) && !sitA s q && decide (sAt s q = sAt s p) && stgA A s q p) = _
  cases decide (¬ lKi A q = 1) <;> cases sitA s q <;> cases decide (sAt s q = sAt s p) <;> rfl
theorem lft_t {A : LA} {s : ST} {p : Nat} {u n : Int32} : ∀ (k i : Nat), lpN (lftF A s p u) i k (n, true) = (n, true)
  | 0, _ => rfl
  | k + 1, i => by
    simp only [lpN]
    rw [show lftF A s p u i (n, true) = (n, true) by simp [lftF]]
    exact lft_t k (i + 1)
def hvF (A : LA) (s : ST) (p : Nat) (tale may : Int32) (q i : Nat) (acc : Int32) : Int32 := if okT A s p tale may (nI i) = true then acc + b2i (bit (nI i) q) else acc
theorem tly_hv {A : LA} {s : ST} {p : Nat} {tale may : Int32} {q : Nat} : ∀ (k i : Nat) (t : TL), (lpN (tlyF A s p tale may) i k t).2.2.2 q = lpN (hvF A s p tale may q) i k (t.2.2.2 q)
  | 0, _, _ => rfl
  | k + 1, i, t => by
    simp only [lpN]
    rw [tly_hv k (i + 1)]
    congr 1
    simp only [tlyF, hvF]
    split <;> rfl
section M14
variable {E : EV} {d x : Nat} {F : FT} {G : GT} {b : Bool} {o : SG} {u v w : Int32} {A : LA} {s : ST}
theorem l_mwho (h : MInv F G o) (hw : WF o) (hd : 20 ≤ d) {p : Nat} (hp : p < lP (gA o)) : ∀ (r i : Nat) (iv : Int32) (acc : Int32), iv = nI i → i + r = lP (gA o) → acc = bset (fun q => mwdA (gA o) (gS o) q p) i → Td E d 215 4 [some (vr 40 0), some (vi (nI p)), some (vi acc), some (vi iv)] [] x F G b (some (vi (mayA (gA o) (gS o) p))) (fun F2 G2 => F2 = F ∧ G2 = G) := by
  intro r
  induction r with
  | zero =>
    intro i iv acc hiv hir ha
    subst hiv
    have hi : i = lP (gA o) := by omega
    have hL := h.2.1
    have hA := hw.1
    have hS := h.2.2.2.1.1
    have hwS := hw.2.1.1
    have hP6 := hA.2.1
    have hS5 := hA.1
    refine d_run 2 rfl ?_
    refine d_gR k215_6 (by first | assumption | exact Nat.le_of_ble_eq_true rfl | omega) ⟨rfl, rfl, rfl⟩ rfl ?_
    refine d_run 1 rfl ?_
    refine d_ia (N := 8) (j := 1) k215_10 (by decide) (by first | assumption | exact Nat.le_of_ble_eq_true rfl | omega) ⟨⟨rfl, rfl⟩, rfl, rfl⟩ (by decide) rfl ?_
    refine d_ic_ge k215_11 (fun h11 => ?_) (fun h11 => ?_)
    · refine d_run 1 rfl ?_
      refine d_ir k215_40 rfl (by rw [ha, hi]; exact bset_c (fun q hq => mwd_off hA hp hq)) ?_
      exact ⟨rfl, rfl⟩
    · exact absurd (lt_nI h11 hL.2.1 (by omega) (by omega)) (by omega)
  | succ r ih =>
    intro i iv acc hiv hir ha
    subst hiv
    have hi : i < lP (gA o) := by omega
    have hL := h.2.1
    have hA := hw.1
    have hS := h.2.2.2.1.1
    have hwS := hw.2.1.1
    have hP6 := hA.2.1
    have hS5 := hA.1
    refine d_run 2 rfl ?_
    refine d_gR k215_6 (by first | assumption | exact Nat.le_of_ble_eq_true rfl | omega) ⟨rfl, rfl, rfl⟩ rfl ?_
    refine d_run 1 rfl ?_
    refine d_ia (N := 8) (j := 1) k215_10 (by decide) (by first | assumption | exact Nat.le_of_ble_eq_true rfl | omega) ⟨⟨rfl, rfl⟩, rfl, rfl⟩ (by decide) rfl ?_
    refine d_ic_ge k215_11 (fun h11 => ?_) (fun h11 => ?_)
    · exact absurd (ge_nI h11 hL.2.1 (by omega) (by omega)) (by omega)
    · refine d_run 4 rfl ?_
      refine d_callT 3 k215_18 (by omega) (Nat.le_of_ble_eq_true rfl) rfl (Nat.le_of_ble_eq_true rfl) (Nat.le_of_ble_eq_true rfl) (recv_ok rfl (by first | assumption | exact Nat.le_of_ble_eq_true rfl | omega)) rfl (b_might hL hA hS hi hp (by omega)) rfl ?_
      refine d_if_eq k215_21 (fun h21 => ?_) (fun h21 => ?_)
      · rw [b2i0] at h21
        refine d_run 5 rfl ?_
        refine ih (i + 1) _ _ (nI_1 i) (by omega) ?_
        rw [ha]
        simp only [bset, h21]
        simp [ibop]
      · rw [b2i0, Bool.not_eq_false] at h21
        refine d_run 8 rfl ?_
        refine ih (i + 1) _ _ (nI_1 i) (by omega) ?_
        rw [ha]
        simp only [bset, h21]
        simp [ibop]
theorem b_who (h : MInv F G o) (hw : WF o) (hd : 20 ≤ d) {p : Nat} (hp : p < lP (gA o)) : Td E d 215 0 [some (vr 40 0), some (vi (nI p)), none, none] [] x F G b (some (vi (mayA (gA o) (gS o) p))) (fun F2 G2 => F2 = F ∧ G2 = G) := by
  refine d_run 4 rfl ?_
  exact l_mwho h hw hd hp (lP (gA o)) 0 _ _ rfl (by omega) rfl
theorem l_mleft0 (hA : wfL A) (hd : 20 ≤ d) {p : Nat} {n : Int32} (hb : bit (sSn s) p = true) (hL : ML F A) (hS : rowS (F 70 0) (lP A) s) : ∀ (r i : Nat) (iv : Int32) , iv = nI i → i + r = lP A → Td E d 216 13 [some (vr 40 0), some (vi (nI p)), some (vi u), some (vi n), some (vi iv)] [] x F G b (some (vi n)) (fun F2 G2 => G2 = G ∧ FrK scr F F2) := by
  intro r
  induction r with
  | zero =>
    intro i iv  hiv hir 
    subst hiv
    have hi : i = lP A := by omega
    have hP6 := hA.2.1
    refine d_run 2 rfl ?_
    refine d_gR k216_16 (by first | assumption | exact Nat.le_of_ble_eq_true rfl | omega) ⟨rfl, rfl, rfl⟩ rfl ?_
    refine d_run 1 rfl ?_
    refine d_ia (N := 8) (j := 1) k216_20 (by decide) (by first | assumption | exact Nat.le_of_ble_eq_true rfl | omega) ⟨⟨rfl, rfl⟩, rfl, rfl⟩ (by decide) rfl ?_
    refine d_ic_ge k216_21 (fun h21 => ?_) (fun h21 => ?_)
    · refine d_run 1 rfl ?_
      refine d_ir k216_74 rfl (by rfl) ?_
      exact ⟨rfl, FrK.rf⟩
    · exact absurd (lt_nI h21 hL.2.1 (by omega) (by omega)) (by omega)
  | succ r ih =>
    intro i iv  hiv hir 
    subst hiv
    have hi : i < lP A := by omega
    have hP6 := hA.2.1
    refine d_run 2 rfl ?_
    refine d_gR k216_16 (by first | assumption | exact Nat.le_of_ble_eq_true rfl | omega) ⟨rfl, rfl, rfl⟩ rfl ?_
    refine d_run 1 rfl ?_
    refine d_ia (N := 8) (j := 1) k216_20 (by decide) (by first | assumption | exact Nat.le_of_ble_eq_true rfl | omega) ⟨⟨rfl, rfl⟩, rfl, rfl⟩ (by decide) rfl ?_
    refine d_ic_ge k216_21 (fun h21 => ?_) (fun h21 => ?_)
    · exact absurd (ge_nI h21 hL.2.1 (by omega) (by omega)) (by omega)
    · refine d_run 2 rfl ?_
      refine d_callT 2 k216_26 (by omega) (Nat.le_of_ble_eq_true rfl) rfl (Nat.le_of_ble_eq_true rfl) (Nat.le_of_ble_eq_true rfl) (recv_ok rfl (by first | assumption | exact Nat.le_of_ble_eq_true rfl | omega)) rfl (b_snapped hS) rfl ?_
      rw [hb]
      refine d_if_ne k216_29 (fun h29 => ?_) (fun h29 => ?_)
      · refine d_run 2 rfl ?_
        exact ih (i + 1) _ (nI_1 i) (by omega)
      · exact absurd h29 (by decide)
theorem l_mleft (hA : wfL A) (hd : 20 ≤ d) {p : Nat} (hp : p < lP A) (hb : bit (sSn s) p = false) : ∀ (r i : Nat) (iv : Int32) (n : Int32) (F : FT), iv = nI i → i + r = lP A → ML F A → rowS (F 70 0) (lP A) s → Td E d 216 13 [some (vr 40 0), some (vi (nI p)), some (vi u), some (vi n), some (vi iv)] [] x F G b (some (vi (lftJ (lpN (lftF A s p u) i r (n, false))))) (fun F2 G2 => G2 = G ∧ FrK scr F F2) := by
  intro r
  induction r with
  | zero =>
    intro i iv n F hiv hir hL hS
    subst hiv
    have hi : i = lP A := by omega
    have hP6 := hA.2.1
    refine d_run 2 rfl ?_
    refine d_gR k216_16 (by first | assumption | exact Nat.le_of_ble_eq_true rfl | omega) ⟨rfl, rfl, rfl⟩ rfl ?_
    refine d_run 1 rfl ?_
    refine d_ia (N := 8) (j := 1) k216_20 (by decide) (by first | assumption | exact Nat.le_of_ble_eq_true rfl | omega) ⟨⟨rfl, rfl⟩, rfl, rfl⟩ (by decide) rfl ?_
    refine d_ic_ge k216_21 (fun h21 => ?_) (fun h21 => ?_)
    · refine d_run 1 rfl ?_
      refine d_ir k216_74 rfl (by rfl) ?_
      exact ⟨rfl, FrK.rf⟩
    · exact absurd (lt_nI h21 hL.2.1 (by omega) (by omega)) (by omega)
  | succ r ih =>
    intro i iv n F hiv hir hL hS
    subst hiv
    have hi : i < lP A := by omega
    have hP6 := hA.2.1
    refine d_run 2 rfl ?_
    refine d_gR k216_16 (by first | assumption | exact Nat.le_of_ble_eq_true rfl | omega) ⟨rfl, rfl, rfl⟩ rfl ?_
    refine d_run 1 rfl ?_
    refine d_ia (N := 8) (j := 1) k216_20 (by decide) (by first | assumption | exact Nat.le_of_ble_eq_true rfl | omega) ⟨⟨rfl, rfl⟩, rfl, rfl⟩ (by decide) rfl ?_
    refine d_ic_ge k216_21 (fun h21 => ?_) (fun h21 => ?_)
    · exact absurd (ge_nI h21 hL.2.1 (by omega) (by omega)) (by omega)
    · refine d_run 2 rfl ?_
      refine d_callT 2 k216_26 (by omega) (Nat.le_of_ble_eq_true rfl) rfl (Nat.le_of_ble_eq_true rfl) (Nat.le_of_ble_eq_true rfl) (recv_ok rfl (by first | assumption | exact Nat.le_of_ble_eq_true rfl | omega)) rfl (b_snapped hS) rfl ?_
      rw [hb]
      refine d_if_ne k216_29 (fun h29 => ?_) (fun h29 => ?_)
      · exact absurd rfl h29
      · refine d_run 5 rfl ?_
        rw [b2i_bit]
        refine d_if_ne k216_38 (fun h38 => ?_) (fun h38 => ?_)
        · rw [b2i0, Bool.not_eq_false] at h38
          refine d_run 5 rfl ?_
          refine d_call 4 k216_50 (by omega) (Nat.le_of_ble_eq_true rfl) rfl (Nat.le_of_ble_eq_true rfl) (Nat.le_of_ble_eq_true rfl) (recv_ok rfl (by first | assumption | exact Nat.le_of_ble_eq_true rfl | omega)) rfl (b_given hL hA hS hi hp (by omega)) rfl ?_
          rintro F1 G1 ⟨rfl, f1⟩
          have hL1 := hL.mh (scr_mh f1)
          have hS1 := scr_S f1 hS
          have eF : lftF A s p u i (n, false) = (n + givA A s i p n, decide (lSp A < n + givA A s i p n)) := by simp [lftF, h38]
          refine d_run 4 rfl ?_
          refine d_gR k216_57 (by first | assumption | exact Nat.le_of_ble_eq_true rfl | omega) ⟨rfl, rfl, rfl⟩ rfl ?_
          refine d_run 1 rfl ?_
          refine d_ia (N := 8) (j := 3) k216_61 (by decide) (by first | assumption | exact Nat.le_of_ble_eq_true rfl | omega) ⟨⟨rfl, rfl⟩, rfl, rfl⟩ (by decide) rfl ?_
          rw [hL1.2.2.2.1]
          refine d_ic_le k216_62 (fun h62 => ?_) (fun h62 => ?_)
          · have eD : decide (lSp A < n + givA A s i p n) = false := decide_eq_false (Int32.not_lt.mpr h62)
            rw [eD] at eF
            refine d_run 2 rfl ?_
            simp only [lpN]
            rw [eF]
            first
            | exact ih (i + 1) _ n _ (nI_1 i) (by omega) hL hS
            | exact td_mo (ih (i + 1) _ (n + givA A s i p n) F1 (nI_1 i) (by omega) hL1 hS1) (fun F3 G3 e => ⟨e.1, f1.tr e.2⟩)
          · have eD : decide (lSp A < n + givA A s i p n) = true := decide_eq_true (Int32.not_le.mp h62)
            rw [eD] at eF
            refine d_run 1 rfl ?_
            refine d_ir k216_66 rfl (by simp only [lpN]; rw [eF, lft_t]; rfl) ?_
            exact ⟨rfl, f1⟩
        · rw [b2i0] at h38
          have eF : lftF A s p u i (n, false) = (n, false) := by simp [lftF, h38]
          refine d_run 1 rfl ?_
          refine d_run 2 rfl ?_
          simp only [lpN]
          rw [eF]
          first
          | exact ih (i + 1) _ n _ (nI_1 i) (by omega) hL hS
          | exact td_mo (ih (i + 1) _ (n + givA A s i p n) F1 (nI_1 i) (by omega) hL1 hS1) (fun F3 G3 e => ⟨e.1, f1.tr e.2⟩)
theorem b_leftBy (hA : wfL A) (hd : 20 ≤ d) {p : Nat} (hp : p < lP A) (hL : ML F A) (hS : rowS (F 70 0) (lP A) s) (hwS : wfS A s) : Td E d 216 0 [some (vr 40 0), some (vi (nI p)), some (vi u), none, none] [] x F G b (some (vi (lftA A s p u))) (fun F2 G2 => G2 = G ∧ FrK scr F F2) := by
  have hP6 := hA.2.1
  cases hb : bit (sSn s) p with
  | true =>
    have e : lftA A s p u = sLf s p := by
      obtain ⟨c, hc, e1, e2⟩ := hwS.2.1 p hp
      have e0 := e2 hb
      subst e0
      simp only [lftA]
      rw [hb, lft_t]
      exact e1.symm
    rw [e]
    refine d_run 1 rfl ?_
    refine d_gR k216_1 (by first | assumption | exact Nat.le_of_ble_eq_true rfl | omega) ⟨rfl, rfl, rfl⟩ rfl ?_
    refine d_run 3 rfl ?_
    refine d_ia (N := 50) (j := 8 + p) k216_8 (by decide) (by first | assumption | exact Nat.le_of_ble_eq_true rfl | omega) ⟨⟨rfl, rfl⟩, rfl, rfl⟩ (show 8 + p < 50 by omega) (nI_add 8 _) ?_
    rw [hS.2.2.2.1 p hp]
    refine d_run 3 rfl ?_
    exact l_mleft0 hA hd hb hL hS (lP A) 0 _ rfl (by omega)
  | false =>
    rw [show lftA A s p u = lftJ (lpN (lftF A s p u) 0 (lP A) (sLf s p, false)) by simp only [lftA]; rw [hb]]
    refine d_run 1 rfl ?_
    refine d_gR k216_1 (by first | assumption | exact Nat.le_of_ble_eq_true rfl | omega) ⟨rfl, rfl, rfl⟩ rfl ?_
    refine d_run 3 rfl ?_
    refine d_ia (N := 50) (j := 8 + p) k216_8 (by decide) (by first | assumption | exact Nat.le_of_ble_eq_true rfl | omega) ⟨⟨rfl, rfl⟩, rfl, rfl⟩ (show 8 + p < 50 by omega) (nI_add 8 _) ?_
    rw [hS.2.2.2.1 p hp]
    refine d_run 3 rfl ?_
    exact l_mleft hA hd hp hb (lP A) 0 _ _ F rfl (by omega) hL hS
theorem tl_jd (hw : WF o) {p : Nat} (hp : p < 6) : jdI (gTl o p) := by
  rcases hw.2.1.2.2 p hp with e | ⟨_, c, hc, e⟩
  · exact Or.inl e
  · exact Or.inr ⟨c, by omega, e⟩
theorem b_asTold (h : MInv F G o) (hw : WF o) (hd : 30 ≤ d) {p : Nat} (hp : p < lP (gA o)) : Td E d 217 0 [some (vr 40 0), some (vi (nI p)), some (vi u)] [] x F G b (some (vi (b2i (decide (gTl o p = -1) || decide (gTl o p = lftA (gA o) (gS o) p u))))) (fun F2 G2 => G2 = G ∧ FrK scr F F2) := by
  have hL := h.2.1
  have hA := hw.1
  have hS := h.2.2.2.1.1
  have hwS := hw.2.1.1
  have hP6 := hA.2.1
  have hS5 := hA.1
  have et : F 69 0 p = gTl o p := by
    have := h.2.2.2.1.2.2 p (by omega)
    rwa [Nat.mul_zero, Nat.zero_add] at this
  have hj := tl_jd hw (show p < 6 by omega)
  refine d_run 1 rfl ?_
  refine d_gR k217_1 (by first | assumption | exact Nat.le_of_ble_eq_true rfl | omega) ⟨rfl, rfl, rfl⟩ rfl ?_
  refine d_run 1 rfl ?_
  refine d_ia (N := 30) k217_5 (by decide) (by first | assumption | exact Nat.le_of_ble_eq_true rfl | omega) ⟨⟨rfl, rfl⟩, rfl, rfl⟩ (show p < 30 by omega) rfl ?_
  rw [et]
  refine d_if_lt k217_6 (fun h6 => ?_) (fun h6 => ?_)
  · rw [hj.lt] at h6
    rw [show (decide (gTl o p = -1) || decide (gTl o p = lftA (gA o) (gS o) p u)) = true by rw [decide_eq_true h6]; rfl]
    refine d_run 2 rfl ?_
    refine d_ib k217_29 (by rfl) ?_
    first | exact ⟨rfl, f1⟩ | exact ⟨rfl, FrK.rf⟩
  · rw [hj.lt] at h6
    rw [show (decide (gTl o p = -1) || decide (gTl o p = lftA (gA o) (gS o) p u)) = decide (gTl o p = lftA (gA o) (gS o) p u) by rw [decide_eq_false h6]; rfl]
    refine d_run 3 rfl ?_
    refine d_call 3 k217_12 (by omega) (Nat.le_of_ble_eq_true rfl) rfl (Nat.le_of_ble_eq_true rfl) (Nat.le_of_ble_eq_true rfl) (recv_ok rfl (by first | assumption | exact Nat.le_of_ble_eq_true rfl | omega)) rfl (b_leftBy hA (by omega) hp hL hS hwS) rfl ?_
    rintro F1 G1 ⟨rfl, f1⟩
    refine d_run 1 rfl ?_
    refine d_gR k217_16 (by first | assumption | exact Nat.le_of_ble_eq_true rfl | omega) ⟨rfl, rfl, rfl⟩ rfl ?_
    refine d_run 1 rfl ?_
    refine d_ia (N := 30) k217_20 (by decide) (by first | assumption | exact Nat.le_of_ble_eq_true rfl | omega) ⟨⟨rfl, rfl⟩, rfl, rfl⟩ (show p < 30 by omega) rfl ?_
    rw [f1 69 rfl, et]
    refine d_ic_ne k217_21 (fun h21 => ?_) (fun h21 => ?_)
    · rw [decide_eq_false (fun e => h21 e.symm)]
      refine d_run 1 rfl ?_
      refine d_ib k217_29 (by rfl) ?_
      first | exact ⟨rfl, f1⟩ | exact ⟨rfl, FrK.rf⟩
    · rw [decide_eq_true h21.symm]
      refine d_run 2 rfl ?_
      refine d_ib k217_29 (by rfl) ?_
      first | exact ⟨rfl, f1⟩ | exact ⟨rfl, FrK.rf⟩
theorem l_msets (hw : WF o) (hd : 60 ≤ d) {p m : Nat} (hp : p < lP (gA o)) (hm : m ≤ 1000) : ∀ (r i : Nat) (iv : Int32) (t : TL) (F : FT), iv = nI i → i + r = (m + 1) → MInv F G o → Td E d 218 42 [some (vr 40 0), some (vi (nI p)), some (vi w), some (vi (nI m)), some (vi t.1), some (vi t.2.1), some (vi t.2.2.1), some (vi iv)] [] x F G b (some (vi (setR (lpN (tlyF (gA o) (gS o) p (gTl o p) (nI m)) i r t) w))) (MPost o F G) := by
  intro r
  induction r with
  | zero =>
    intro i iv t F hiv hir h
    subst hiv
    have hi : i = (m + 1) := by omega
    have hL := h.2.1
    have hA := hw.1
    have hS := h.2.2.2.1.1
    have hwS := hw.2.1.1
    have hP6 := hA.2.1
    have hS5 := hA.1
    refine d_run 2 rfl ?_
    refine d_ic_gt k218_45 (fun h45 => ?_) (fun h45 => ?_)
    · refine d_run 1 rfl ?_
      refine d_if_eq k218_95 (fun h95 => ?_) (fun h95 => ?_)
      · refine d_run 1 rfl ?_
        refine d_if_ne k218_103 (fun h103 => ?_) (fun h103 => ?_)
        · refine d_run 1 rfl ?_
          refine d_ir k218_112 rfl (by show _ = setR t w; simp_all [setR]) ?_
          exact MPost.q0 h
        · refine d_run 2 rfl ?_
          refine d_ir k218_112 rfl (by show _ = setR t w; simp_all [setR]) ?_
          exact MPost.q0 h
      · refine d_run 1 rfl ?_
        refine d_if_ne k218_99 (fun h99 => ?_) (fun h99 => ?_)
        · refine d_run 2 rfl ?_
          refine d_ic_ne k218_115 (fun h115 => ?_) (fun h115 => ?_)
          · refine d_run 1 rfl ?_
            refine d_ir k218_125 rfl (by show _ = setR t w; simp_all [setR]) ?_
            exact MPost.q0 h
          · refine d_run 2 rfl ?_
            refine d_ir k218_125 rfl (by show _ = setR t w; simp_all [setR]) ?_
            exact MPost.q0 h
        · refine d_run 1 rfl ?_
          refine d_if_ne k218_103 (fun h103 => ?_) (fun h103 => ?_)
          · refine d_run 1 rfl ?_
            refine d_ir k218_112 rfl (by show _ = setR t w; simp_all [setR]) ?_
            exact MPost.q0 h
          · refine d_run 2 rfl ?_
            refine d_ir k218_112 rfl (by show _ = setR t w; simp_all [setR]) ?_
            exact MPost.q0 h
    · exact absurd (le_nI h45 (b := m) rfl (by omega) (by omega)) (by omega)
  | succ r ih =>
    intro i iv t F hiv hir h
    subst hiv
    have hi : i < (m + 1) := by omega
    have hL := h.2.1
    have hA := hw.1
    have hS := h.2.2.2.1.1
    have hwS := hw.2.1.1
    have hP6 := hA.2.1
    have hS5 := hA.1
    refine d_run 2 rfl ?_
    refine d_ic_gt k218_45 (fun h45 => ?_) (fun h45 => ?_)
    · exact absurd (gt_nI h45 (b := m) rfl (by omega) (by omega)) (by omega)
    · refine d_run 5 rfl ?_
      rw [show ibop 3 (nI i) (ibop 5 (nI m) (-1)) = nI i &&& (nI m ^^^ (-1)) from rfl]
      refine d_if_ne k218_54 (fun h54 => ?_) (fun h54 => ?_)
      · have eT : (tlyF (gA o) (gS o) p (gTl o p) (nI m)) i t = t := by simp only [tlyF]; rw [if_neg (by simp only [okT]; rw [decide_eq_false h54]; simp)]
        refine d_run 2 rfl ?_
        simp only [lpN]
        rw [eT]
        first
        | exact ih (i + 1) _ t _ (nI_1 i) (by omega) h
        | exact td_mo (ih (i + 1) _ t F1 (nI_1 i) (by omega) hp1.1) (fun F3 G3 e => hp1.tr e)
        | exact td_mo (ih (i + 1) _ (addT (nI i) t) F1 (nI_1 i) (by omega) hp1.1) (fun F3 G3 e => hp1.tr e)
      · refine d_run 3 rfl ?_
        refine d_call 3 k218_61 (by omega) (Nat.le_of_ble_eq_true rfl) rfl (Nat.le_of_ble_eq_true rfl) (Nat.le_of_ble_eq_true rfl) (recv_ok rfl (by first | assumption | exact Nat.le_of_ble_eq_true rfl | omega)) rfl (b_asTold (u := nI i) h hw (by omega) hp) rfl ?_
        rintro F1 G1 ⟨rfl, f1⟩
        have hp1 := MPost.sc h hw f1
        refine d_if_ne k218_64 (fun h64 => ?_) (fun h64 => ?_)
        · rw [b2i0, Bool.not_eq_false] at h64
          have eT : (tlyF (gA o) (gS o) p (gTl o p) (nI m)) i t = addT (nI i) t := by simp only [tlyF]; rw [if_pos (by simp only [okT]; rw [decide_eq_true h54, h64]; rfl)]
          refine d_run 9 rfl ?_
          refine d_run 2 rfl ?_
          simp only [lpN]
          rw [eT]
          first
          | exact ih (i + 1) _ t _ (nI_1 i) (by omega) h
          | exact td_mo (ih (i + 1) _ t F1 (nI_1 i) (by omega) hp1.1) (fun F3 G3 e => hp1.tr e)
          | exact td_mo (ih (i + 1) _ (addT (nI i) t) F1 (nI_1 i) (by omega) hp1.1) (fun F3 G3 e => hp1.tr e)
        · rw [b2i0] at h64
          have eT : (tlyF (gA o) (gS o) p (gTl o p) (nI m)) i t = t := by simp only [tlyF]; rw [if_neg (by simp only [okT]; rw [h64]; simp)]
          refine d_run 1 rfl ?_
          refine d_run 2 rfl ?_
          simp only [lpN]
          rw [eT]
          first
          | exact ih (i + 1) _ t _ (nI_1 i) (by omega) h
          | exact td_mo (ih (i + 1) _ t F1 (nI_1 i) (by omega) hp1.1) (fun F3 G3 e => hp1.tr e)
          | exact td_mo (ih (i + 1) _ (addT (nI i) t) F1 (nI_1 i) (by omega) hp1.1) (fun F3 G3 e => hp1.tr e)
theorem e_sets0 (h : MInv F G o) (hw : WF o) (hd : 80 ≤ d) : Td E d 218 5 [some (vr 40 0), some (vi u), some (vi w), none, none, none, none, none] [] x F G b (some (vi (q_sets o u w))) (MPost (o) F G) := by
  have hL := h.2.1
  have hA := hw.1
  have hS := h.2.2.2.1.1
  have hwS := hw.2.1.1
  have hP6 := hA.2.1
  have hS5 := hA.1
  by_cases hN : isN u (lP (gA o)) = true
  · obtain ⟨p, hp, rfl⟩ := isN_ex hN (by omega)
    cases hM : isW2 w 0 2 with
    | false =>
      rw [show q_sets o (nI p) w = -1 by simp [q_sets, hM]]
      refine d_run 2 rfl ?_
      refine d_callT 2 k218_7 (by omega) (Nat.le_of_ble_eq_true rfl) rfl (Nat.le_of_ble_eq_true rfl) (Nat.le_of_ble_eq_true rfl) (recv_ok rfl (by first | assumption | exact Nat.le_of_ble_eq_true rfl | omega)) rfl (e_isP hL) rfl ?_
      rw [hN]
      refine d_if_eq k218_10 (fun h10 => ?_) (fun h10 => ?_)
      · exact absurd h10 (by decide)
      · refine d_run 3 rfl ?_
        refine d_callT 3 k218_16 (by omega) (Nat.le_of_ble_eq_true rfl) rfl (Nat.le_of_ble_eq_true rfl) (Nat.le_of_ble_eq_true rfl) recv_st rfl e_within rfl ?_
        rw [hM]
        refine d_if_ne k218_19 (fun h19 => ?_) (fun h19 => ?_)
        · exact absurd rfl h19
        · refine d_run 1 rfl ?_
          refine d_ir k218_23 rfl (by rfl) ?_
          exact MPost.q0 h
    | true =>
      obtain ⟨m, hm, em⟩ := bset_nI (f := offA (gA o) (gS o) p (sAt (gS o) p)) hP6
      have hm6 := pow6 hP6
      have em : mayA (gA o) (gS o) p = nI m := em
      rw [show q_sets o (nI p) w = setR (lpN (tlyF (gA o) (gS o) p (gTl o p) (nI m)) 0 (m + 1) (0, nI m, 0, fun _ => 0)) w by simp only [q_sets]; rw [hN, hM, ix_nI (show p < 100000 by omega)]; simp only [tly]; rw [em, ix_nI (show m < 100000 by omega)]; rfl]
      refine d_run 2 rfl ?_
      refine d_callT 2 k218_7 (by omega) (Nat.le_of_ble_eq_true rfl) rfl (Nat.le_of_ble_eq_true rfl) (Nat.le_of_ble_eq_true rfl) (recv_ok rfl (by first | assumption | exact Nat.le_of_ble_eq_true rfl | omega)) rfl (e_isP hL) rfl ?_
      rw [hN]
      refine d_if_eq k218_10 (fun h10 => ?_) (fun h10 => ?_)
      · exact absurd h10 (by decide)
      · refine d_run 3 rfl ?_
        refine d_callT 3 k218_16 (by omega) (Nat.le_of_ble_eq_true rfl) rfl (Nat.le_of_ble_eq_true rfl) (Nat.le_of_ble_eq_true rfl) recv_st rfl e_within rfl ?_
        rw [hM]
        refine d_if_ne k218_19 (fun h19 => ?_) (fun h19 => ?_)
        · refine d_run 2 rfl ?_
          refine d_call 2 k218_26 (by omega) (Nat.le_of_ble_eq_true rfl) rfl (Nat.le_of_ble_eq_true rfl) (Nat.le_of_ble_eq_true rfl) (recv_ok rfl (by first | assumption | exact Nat.le_of_ble_eq_true rfl | omega)) rfl (b_who h hw (by omega) hp) rfl ?_
          rintro F1 G1 ⟨rfl, rfl⟩
          rw [em]
          refine d_run 9 rfl ?_
          exact l_msets hw (by omega) hp (by omega) (m + 1) 0 _ (0, nI m, 0, fun _ => 0) F1 rfl (by omega) h
        · exact absurd h19 (by decide)
  · have hN : isN u (lP (gA o)) = false := by simpa using hN
    rw [show q_sets o u w = -1 by simp [q_sets, hN]]
    refine d_run 2 rfl ?_
    refine d_callT 2 k218_7 (by omega) (Nat.le_of_ble_eq_true rfl) rfl (Nat.le_of_ble_eq_true rfl) (Nat.le_of_ble_eq_true rfl) (recv_ok rfl (by first | assumption | exact Nat.le_of_ble_eq_true rfl | omega)) rfl (e_isP hL) rfl ?_
    rw [hN]
    refine d_if_eq k218_10 (fun h10 => ?_) (fun h10 => ?_)
    · refine d_run 1 rfl ?_
      refine d_ir k218_23 rfl (by rfl) ?_
      exact MPost.q0 h
    · exact absurd h10 (by decide)
theorem e_sets (h : MInv F G o) (hw : WF o) (hd : 80 ≤ d) : Td E d 218 0 [some (vr 40 0), some (vi u), some (vi w), none, none, none, none, none] [] x F G b (some (vi (q_sets o u w))) (MPost (o) F G) := by
  refine d_run 2 rfl ?_
  refine d_pI k218_2 (by first | assumption | exact Nat.le_of_ble_eq_true rfl | omega) ⟨rfl, rfl⟩ ?_
  exact MPost.th h hw (fun h => e_sets0 h hw hd)
theorem l_mask2 (hw : WF o) (hd : 60 ≤ d) {p q m : Nat} {F0 : FT} {R : Option PV} (hp : p < lP (gA o)) (hm : m ≤ 1000) : ∀ (r i : Nat) (iv : Int32) (acc : Int32) (F : FT), iv = nI i → i + r = (m + 1) → MPost o F0 G F G → (∀ F2, MPost o F0 G F2 G → Td E d 219 106 [some (vr 40 0), some (vi (nI p)), some (vi (nI m)), some (vi v), some (vi u), some (vi w), some (vi (nI q)), some (vi (lpN (hvF (gA o) (gS o) p (gTl o p) (nI m) q) i r acc)), none] [] x F2 G b R (MPost o F0 G)) → Td E d 219 54 [some (vr 40 0), some (vi (nI p)), some (vi (nI m)), some (vi v), some (vi u), some (vi w), some (vi (nI q)), some (vi acc), some (vi iv)] [] x F G b R (MPost o F0 G) := by
  intro r
  induction r with
  | zero =>
    intro i iv acc F hiv hir h0 kk
    subst hiv
    have hi : i = (m + 1) := by omega
    have h := h0.1
    have hL := h.2.1
    have hA := hw.1
    have hS := h.2.2.2.1.1
    have hwS := hw.2.1.1
    have hP6 := hA.2.1
    have hS5 := hA.1
    refine d_run 2 rfl ?_
    refine d_ic_gt k219_57 (fun h57 => ?_) (fun h57 => ?_)
    · refine d_dr111111110 ?_
      exact kk F h0
    · exact absurd (le_nI h57 (b := m) rfl (by omega) (by omega)) (by omega)
  | succ r ih =>
    intro i iv acc F hiv hir h0 kk
    subst hiv
    have hi : i < (m + 1) := by omega
    have h := h0.1
    have hL := h.2.1
    have hA := hw.1
    have hS := h.2.2.2.1.1
    have hwS := hw.2.1.1
    have hP6 := hA.2.1
    have hS5 := hA.1
    refine d_run 2 rfl ?_
    refine d_ic_gt k219_57 (fun h57 => ?_) (fun h57 => ?_)
    · exact absurd (gt_nI h57 (b := m) rfl (by omega) (by omega)) (by omega)
    · refine d_run 6 rfl ?_
      rw [show ibop 3 (nI i) (ibop 5 (nI m) (-1)) = nI i &&& (nI m ^^^ (-1)) from rfl]
      refine d_if_ne k219_68 (fun h68 => ?_) (fun h68 => ?_)
      · have eT : (hvF (gA o) (gS o) p (gTl o p) (nI m) q) i acc = acc + 0 := by simp only [hvF]; rw [if_neg (by simp only [okT]; rw [decide_eq_false h68]; simp)]; exact (Int32.add_zero _).symm
        refine d_run 5 rfl ?_
        simp only [lpN] at kk
        rw [eT] at kk
        first
        | exact ih (i + 1) _ _ F (nI_1 i) (by omega) h0 kk
        | exact ih (i + 1) _ _ F1 (nI_1 i) (by omega) hp1 kk
      · refine d_run 6 rfl ?_
        refine d_ic_ne k219_79 (fun h79 => ?_) (fun h79 => ?_)
        · rw [show (ibop 3 (ibop 7 (nI i) (nI q)) 1 = 1) = (bit (nI i) q = true) from bit1 _ _] at h79
          rw [Bool.not_eq_true] at h79
          have eT : (hvF (gA o) (gS o) p (gTl o p) (nI m) q) i acc = acc + 0 := by simp only [hvF]; rw [h79]; simp [b2i]
          refine d_run 5 rfl ?_
          simp only [lpN] at kk
          rw [eT] at kk
          first
          | exact ih (i + 1) _ _ F (nI_1 i) (by omega) h0 kk
          | exact ih (i + 1) _ _ F1 (nI_1 i) (by omega) hp1 kk
        · rw [show (ibop 3 (ibop 7 (nI i) (nI q)) 1 = 1) = (bit (nI i) q = true) from bit1 _ _] at h79
          refine d_run 3 rfl ?_
          refine d_call 3 k219_86 (by omega) (Nat.le_of_ble_eq_true rfl) rfl (Nat.le_of_ble_eq_true rfl) (Nat.le_of_ble_eq_true rfl) (recv_ok rfl (by first | assumption | exact Nat.le_of_ble_eq_true rfl | omega)) rfl (b_asTold (u := nI i) h hw (by omega) hp) rfl ?_
          rintro F1 G1 ⟨rfl, f1⟩
          have hp1 := h0.tr (MPost.sc h hw f1)
          refine d_if_eq k219_89 (fun h89 => ?_) (fun h89 => ?_)
          · rw [b2i0] at h89
            have eT : (hvF (gA o) (gS o) p (gTl o p) (nI m) q) i acc = acc + 0 := by simp only [hvF]; rw [if_neg (by simp only [okT]; rw [h89]; simp)]; exact (Int32.add_zero _).symm
            refine d_run 5 rfl ?_
            simp only [lpN] at kk
            rw [eT] at kk
            first
            | exact ih (i + 1) _ _ F (nI_1 i) (by omega) h0 kk
            | exact ih (i + 1) _ _ F1 (nI_1 i) (by omega) hp1 kk
          · rw [b2i0, Bool.not_eq_false] at h89
            have eT : (hvF (gA o) (gS o) p (gTl o p) (nI m) q) i acc = acc + 1 := by simp only [hvF]; rw [if_pos (by simp only [okT]; rw [decide_eq_true h68, h89]; rfl), h79]; rfl
            refine d_run 6 rfl ?_
            simp only [lpN] at kk
            rw [eT] at kk
            first
            | exact ih (i + 1) _ _ F (nI_1 i) (by omega) h0 kk
            | exact ih (i + 1) _ _ F1 (nI_1 i) (by omega) hp1 kk
theorem l_mask3 (hd : 60 ≤ d) {p m i : Nat} {F0 F2 : FT} {t : TL} {lb : Int32 × Int32} {R : Option PV} (hp : p ≤ 1000) (hi : i ≤ 1000) (kk : ∀ lb2, lb2 = askF t p i lb → Td E d 219 37 [some (vr 40 0), some (vi (nI p)), some (vi (nI m)), some (vi t.1), some (vi lb2.1), some (vi lb2.2), some (vi (nI i + 1)), none, none] [] x F2 G b R (MPost o F0 G)) : Td E d 219 106 [some (vr 40 0), some (vi (nI p)), some (vi (nI m)), some (vi t.1), some (vi lb.1), some (vi lb.2), some (vi (nI i)), some (vi (t.2.2.2 i)), none] [] x F2 G b R (MPost o F0 G) := by
  have eX : (if t.2.2.2 i < ibop 1 t.1 (t.2.2.2 i) then ibop 1 t.1 (t.2.2.2 i) else t.2.2.2 i) = mx2 (t.2.2.2 i) (t.1 - t.2.2.2 i) := rfl
  refine d_run 4 rfl ?_
  refine d_max k219_112 (by omega) (Nat.le_of_ble_eq_true rfl) ?_
  rw [eX]
  refine d_run 3 rfl ?_
  refine d_ic_eq k219_120 (fun h120 => ?_) (fun h120 => ?_)
  · have e1 : i = p := nI_inj h120 (by omega) (by omega)
    have eA : lb = askF t p i lb := by simp only [askF]; rw [decide_eq_false (fun e => e e1)]; rfl
    refine d_run 2 rfl ?_
    refine d_dr111111100 ?_
    exact kk _ eA
  · have e1 : ¬ i = p := fun e => h120 (by rw [e])
    refine d_run 2 rfl ?_
    refine d_ic_lt k219_127 (fun h127 => ?_) (fun h127 => ?_)
    · have eA : (mx2 (t.2.2.2 i) (t.1 - t.2.2.2 i), nI i) = askF t p i lb := by simp only [askF]; rw [decide_eq_true e1, decide_eq_true h127]; rfl
      refine d_run 4 rfl ?_
      refine d_run 2 rfl ?_
      refine d_dr111111100 ?_
      exact kk _ eA
    · have eA : lb = askF t p i lb := by simp only [askF]; rw [decide_eq_false h127]; simp
      refine d_run 1 rfl ?_
      refine d_run 2 rfl ?_
      refine d_dr111111100 ?_
      exact kk _ eA
theorem l_mask1 (hw : WF o) (hd : 60 ≤ d) {p m : Nat} {F0 : FT} {t : TL} (hp : p < lP (gA o)) (hm : m ≤ 1000) (ht : t = lpN (tlyF (gA o) (gS o) p (gTl o p) (nI m)) 0 (m + 1) (0, nI m, 0, fun _ => 0)) : ∀ (r i : Nat) (iv : Int32) (lb : Int32 × Int32) (F : FT), iv = nI i → i + r = lP (gA o) → MPost o F0 G F G → Td E d 219 37 [some (vr 40 0), some (vi (nI p)), some (vi (nI m)), some (vi t.1), some (vi lb.1), some (vi lb.2), some (vi iv), none, none] [] x F G b (some (vi (lpN (askF t p) i r lb).2)) (MPost o F0 G) := by
  intro r
  induction r with
  | zero =>
    intro i iv lb F hiv hir h0
    subst hiv
    have hi : i = lP (gA o) := by omega
    have h := h0.1
    have hL := h.2.1
    have hA := hw.1
    have hS := h.2.2.2.1.1
    have hwS := hw.2.1.1
    have hP6 := hA.2.1
    have hS5 := hA.1
    refine d_run 2 rfl ?_
    refine d_gR k219_40 (by first | assumption | exact Nat.le_of_ble_eq_true rfl | omega) ⟨rfl, rfl, rfl⟩ rfl ?_
    refine d_run 1 rfl ?_
    refine d_ia (N := 8) (j := 1) k219_44 (by decide) (by first | assumption | exact Nat.le_of_ble_eq_true rfl | omega) ⟨⟨rfl, rfl⟩, rfl, rfl⟩ (by decide) rfl ?_
    refine d_ic_ge k219_45 (fun h45 => ?_) (fun h45 => ?_)
    · refine d_run 1 rfl ?_
      refine d_ir k219_149 rfl (by rfl) ?_
      exact h0
    · exact absurd (lt_nI h45 hL.2.1 (by omega) (by omega)) (by omega)
  | succ r ih =>
    intro i iv lb F hiv hir h0
    subst hiv
    have hi : i < lP (gA o) := by omega
    have h := h0.1
    have hL := h.2.1
    have hA := hw.1
    have hS := h.2.2.2.1.1
    have hwS := hw.2.1.1
    have hP6 := hA.2.1
    have hS5 := hA.1
    refine d_run 2 rfl ?_
    refine d_gR k219_40 (by first | assumption | exact Nat.le_of_ble_eq_true rfl | omega) ⟨rfl, rfl, rfl⟩ rfl ?_
    refine d_run 1 rfl ?_
    refine d_ia (N := 8) (j := 1) k219_44 (by decide) (by first | assumption | exact Nat.le_of_ble_eq_true rfl | omega) ⟨⟨rfl, rfl⟩, rfl, rfl⟩ (by decide) rfl ?_
    refine d_ic_ge k219_45 (fun h45 => ?_) (fun h45 => ?_)
    · exact absurd (ge_nI h45 hL.2.1 (by omega) (by omega)) (by omega)
    · refine d_run 4 rfl ?_
      refine l_mask2 hw hd hp hm (m + 1) 0 _ 0 F rfl (by omega) h0 ?_
      intro F2 h2
      have eH : lpN (hvF (gA o) (gS o) p (gTl o p) (nI m) i) 0 (m + 1) 0 = t.2.2.2 i := by rw [ht, tly_hv]
      rw [eH]
      simp only [lpN]
      exact l_mask3 (by omega) (by omega) (by omega) (fun lb2 e => by rw [e]; exact ih (i + 1) _ _ F2 (nI_1 i) (by omega) h2)
theorem e_ask0 (h : MInv F G o) (hw : WF o) (hd : 90 ≤ d) : Td E d 219 5 [some (vr 40 0), some (vi u), none, none, none, none, none, none, none] [] x F G b (some (vi (q_ask o u))) (MPost (o) F G) := by
  have hL := h.2.1
  have hA := hw.1
  have hS := h.2.2.2.1.1
  have hwS := hw.2.1.1
  have hP6 := hA.2.1
  have hS5 := hA.1
  by_cases hN : isN u (lP (gA o)) = true
  · obtain ⟨p, hp, rfl⟩ := isN_ex hN (by omega)
    obtain ⟨m, hm, em⟩ := bset_nI (f := offA (gA o) (gS o) p (sAt (gS o) p)) hP6
    have hm6 := pow6 hP6
    have em : mayA (gA o) (gS o) p = nI m := em
    have et : tly (gA o) (gS o) p (gTl o p) = lpN (tlyF (gA o) (gS o) p (gTl o p) (nI m)) 0 (m + 1) (0, nI m, 0, fun _ => 0) := by simp only [tly]; rw [em, ix_nI (show m < 100000 by omega)]
    rw [show q_ask o (nI p) = (lpN (askF (tly (gA o) (gS o) p (gTl o p)) p) 0 (lP (gA o)) ((tly (gA o) (gS o) p (gTl o p)).1, -1)).2 by simp only [q_ask]; rw [if_pos hN, ix_nI (show p < 100000 by omega)]]
    have eq0 : q_sets o (nI p) 0 = (tly (gA o) (gS o) p (gTl o p)).1 := by simp only [q_sets]; rw [hN, ix_nI (show p < 100000 by omega)]; rfl
    refine d_run 2 rfl ?_
    refine d_callT 2 k219_7 (by omega) (Nat.le_of_ble_eq_true rfl) rfl (Nat.le_of_ble_eq_true rfl) (Nat.le_of_ble_eq_true rfl) (recv_ok rfl (by first | assumption | exact Nat.le_of_ble_eq_true rfl | omega)) rfl (e_isP hL) rfl ?_
    rw [hN]
    refine d_if_ne k219_10 (fun h10 => ?_) (fun h10 => ?_)
    · refine d_run 2 rfl ?_
      refine d_call 2 k219_17 (by omega) (Nat.le_of_ble_eq_true rfl) rfl (Nat.le_of_ble_eq_true rfl) (Nat.le_of_ble_eq_true rfl) (recv_ok rfl (by first | assumption | exact Nat.le_of_ble_eq_true rfl | omega)) rfl (b_who h hw (by omega) hp) rfl ?_
      rintro F1 G1 ⟨rfl, rfl⟩
      rw [em]
      refine d_run 4 rfl ?_
      refine d_call 3 k219_24 (by omega) (Nat.le_of_ble_eq_true rfl) rfl (Nat.le_of_ble_eq_true rfl) (Nat.le_of_ble_eq_true rfl) (recv_ok rfl (by first | assumption | exact Nat.le_of_ble_eq_true rfl | omega)) rfl (e_sets (u := nI p) (w := 0) h hw (by omega)) rfl ?_
      rintro F2 G2 h2
      rw [eq0]
      refine d_run 7 rfl ?_
      refine td_mo (l_mask1 hw (by omega) hp (by omega) et (lP (gA o)) 0 _ (_, -1) F2 rfl (by omega) (MPost.q0 h2.1)) (fun F3 G3 e => h2.tr e)
    · exact absurd h10 (by decide)
  · have hN : isN u (lP (gA o)) = false := by simpa using hN
    rw [show q_ask o u = -1 by simp [q_ask, hN]]
    refine d_run 2 rfl ?_
    refine d_callT 2 k219_7 (by omega) (Nat.le_of_ble_eq_true rfl) rfl (Nat.le_of_ble_eq_true rfl) (Nat.le_of_ble_eq_true rfl) (recv_ok rfl (by first | assumption | exact Nat.le_of_ble_eq_true rfl | omega)) rfl (e_isP hL) rfl ?_
    rw [hN]
    refine d_if_ne k219_10 (fun h10 => ?_) (fun h10 => ?_)
    · exact absurd rfl h10
    · refine d_run 1 rfl ?_
      refine d_ir k219_14 rfl (by rfl) ?_
      exact MPost.q0 h
theorem e_ask (h : MInv F G o) (hw : WF o) (hd : 90 ≤ d) : Td E d 219 0 [some (vr 40 0), some (vi u), none, none, none, none, none, none, none] [] x F G b (some (vi (q_ask o u))) (MPost (o) F G) := by
  refine d_run 2 rfl ?_
  refine d_pI k219_2 (by first | assumption | exact Nat.le_of_ble_eq_true rfl | omega) ⟨rfl, rfl⟩ ?_
  exact MPost.th h hw (fun h => e_ask0 h hw hd)
end M14
