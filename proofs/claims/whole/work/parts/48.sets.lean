/-! SETS AND ASK OF THE CLASS -/
abbrev TL : Type := Int32 × (Int32 × (Int32 × (Nat → Int32)))
def addT (set : Int32) (t : TL) : TL := (t.1 + 1, t.2.1 &&& set, t.2.2.1 ||| set, fun k => t.2.2.2 k + b2i (bit set k))
def lftF (A : LA) (s : ST) (p : Nat) (set : Int32) (q : Nat) (j : Int32 × Bool) : Int32 × Bool := if (bit set q && !j.2) = true then (j.1 + givA A s q p j.1, decide (lSp A < j.1 + givA A s q p j.1)) else j
def lftJ (j : Int32 × Bool) : Int32 := if j.2 = true then 0 else j.1
def lftA (A : LA) (s : ST) (p : Nat) (set : Int32) : Int32 := lftJ (lpN (lftF A s p set) 0 (lP A) (sLf s p, bit (sSn s) p))
def okT (A : LA) (s : ST) (p : Nat) (tale may set : Int32) : Bool := decide (set &&& (may ^^^ (-1)) = 0) && (decide (tale = -1) || decide (tale = lftA A s p set))
def tlyF (A : LA) (s : ST) (p : Nat) (tale may : Int32) (i : Nat) (t : TL) : TL := if okT A s p tale may (nI i) = true then addT (nI i) t else t
def mayA (A : LA) (s : ST) (p : Nat) : Int32 := bset (offA A s p (sAt s p)) (lP A)
def tly (A : LA) (s : ST) (p : Nat) (tale : Int32) : TL := lpN (tlyF A s p tale (mayA A s p)) 0 (ix (mayA A s p) + 1) (0, mayA A s p, 0, fun _ => 0)
def setR (t : TL) (w : Int32) : Int32 := if w = 0 then t.1 else if t.1 = 0 then -1 else if w = 1 then t.2.1 else t.2.2.1
def q_sets (o : SG) (u w : Int32) : Int32 := if (isN u (lP (gA o)) && isW2 w 0 2) = true then setR (tly (gA o) (gS o) (ix u) (gTl o (ix u))) w else -1
def mx2 (x y : Int32) : Int32 := if x < y then y else x
def askF (t : TL) (p q : Nat) (lb : Int32 × Int32) : Int32 × Int32 := if (decide (¬ q = p) && decide (mx2 (t.2.2.2 q) (t.1 - t.2.2.2 q) < lb.1)) = true then (mx2 (t.2.2.2 q) (t.1 - t.2.2.2 q), nI q) else lb
def q_ask (o : SG) (u : Int32) : Int32 := if isN u (lP (gA o)) = true then (lpN (askF (tly (gA o) (gS o) (ix u) (gTl o (ix u))) (ix u)) 0 (lP (gA o)) ((tly (gA o) (gS o) (ix u) (gTl o (ix u))).1, -1)).2 else -1
def CTa (F : FT) (t : TL) : Prop := F 35 0 1 = t.1 ∧ F 35 0 2 = t.2.1 ∧ F 35 0 3 = t.2.2.1 ∧ eqR 6 (F 36 0) t.2.2.2
def dTa (k _m : Nat) : Bool := decide (k = 35) || decide (k = 36) || decide (k = 18)
theorem dTa_Q {F F2 : FT} (h : FrD dTa F F2) : FrD dQ F F2 := h.mo (fun k m e => by
  simp only [dQ, Bool.or_eq_false_iff, Bool.and_eq_false_iff, decide_eq_false_iff_not] at e
  simp only [dTa, Bool.or_eq_false_iff, decide_eq_false_iff_not]
  omega)
theorem d18_Ta {F F2 : FT} (h : FrD (fun k _ => decide (k = 18)) F F2) : FrD dTa F F2 := h.mo (fun k m e => by
  simp only [dTa, Bool.or_eq_false_iff, decide_eq_false_iff_not] at e
  simp only [decide_eq_false_iff_not]
  omega)
theorem CTa.fr {F F2 : FT} {t : TL} (h : CTa F t) (h35 : F2 35 0 = F 35 0) (h36 : F2 36 0 = F 36 0) : CTa F2 t := by
  unfold CTa
  rw [h35, h36]
  exact h
theorem b2i_bit (y : Int32) (p : Nat) : ibop 3 (ibop 7 y (nI p)) 1 = b2i (bit y p) := by
  show (y >>> (nI p &&& 31)) &&& 1 = _
  rcases and1 (y >>> (nI p &&& 31)) with h | h <;> simp [b2i, bit, h]
theorem FrD.k {D : Nat → Bool} {F F2 : FT} (h : FrD (fun k _ => D k) F F2) {k : Nat} (hk : D k = false) : F2 k = F k := by
  funext m
  exact h k m hk
section P8
variable {E : EV} {d x : Nat} {F : FT} {G : GT} {b : Bool} {o : SG} {u v w : Int32}
theorem l_leftBy (hw : WF o) (hd : 50 ≤ d) {p : Nat} (hp : p < lP (gA o)) : ∀ (r i : Nat) (iv : Int32) (j : Int32 × Bool) (F : FT), iv = nI i → i + r = lP (gA o) → CInv F G b o → Td E d 64 18 [some (vr 9 (lx b)), some (vr 25 0), some (vi (nI p)), some (vi u), some (vi j.1), some (vi (b2i j.2)), some (vi iv)] [] x F G b (some (vi (lftJ (lpN (lftF (gA o) (gS o) p u) i r j)))) (fun F2 G2 => G2 = G ∧ FrD (fun k _ => decide (k = 18)) F F2) := by
  intro r
  induction r with
  | zero =>
    intro i iv j F hiv hir h
    subst hiv
    have hi : i = lP (gA o) := by omega
    have hL := h.2.1
    have hA := hw.1
    have hS := h.2.2.2.1.1
    have hwS := hw.2.1.1
    have hP6 := hA.2.1
    have hS5 := hA.1
    refine d_run 2 rfl ?_
    refine d_gI k64_21 (by first | assumption | exact lx2 _ | exact Nat.le_of_ble_eq_true rfl | omega | exact Nat.lt_of_lt_of_le (m := 2) (by omega) (Nat.le_of_ble_eq_true rfl)) ⟨rfl, rfl, Or.inl rfl⟩ ?_
    refine d_ic_ge k64_24 (fun h24 => ?_) (fun h24 => ?_)
    · refine d_run 1 rfl ?_
      refine d_if_eq k64_80 (fun h80 => ?_) (fun h80 => ?_)
      · rw [b2i0] at h80
        refine d_run 1 rfl ?_
        refine d_ir k64_89 rfl (by simp [lpN, lftJ, h80]) ?_
        exact ⟨rfl, FrD.rf⟩
      · rw [b2i0, Bool.not_eq_false] at h80
        refine d_run 2 rfl ?_
        refine d_ir k64_89 rfl (by simp [lpN, lftJ, h80]) ?_
        exact ⟨rfl, FrD.rf⟩
    · exact absurd (lt_nI h24 hL.2.1 (by omega) (by omega)) (by omega)
  | succ r ih =>
    intro i iv j F hiv hir h
    subst hiv
    have hi : i < lP (gA o) := by omega
    have hL := h.2.1
    have hA := hw.1
    have hS := h.2.2.2.1.1
    have hwS := hw.2.1.1
    have hP6 := hA.2.1
    have hS5 := hA.1
    refine d_run 2 rfl ?_
    refine d_gI k64_21 (by first | assumption | exact lx2 _ | exact Nat.le_of_ble_eq_true rfl | omega | exact Nat.lt_of_lt_of_le (m := 2) (by omega) (Nat.le_of_ble_eq_true rfl)) ⟨rfl, rfl, Or.inl rfl⟩ ?_
    refine d_ic_ge k64_24 (fun h24 => ?_) (fun h24 => ?_)
    · exact absurd (ge_nI h24 hL.2.1 (by omega) (by omega)) (by omega)
    · refine d_run 5 rfl ?_
      refine d_if_eq k64_33 (fun h33 => ?_) (fun h33 => ?_)
      · rw [bitz] at h33
        refine d_run 2 rfl ?_
        first
        | (have e1 : lftF (gA o) (gS o) p u i j = j := by simp [lftF, *]
           simp only [lpN]
           rw [e1]
           exact ih (i + 1) _ j F (nI_1 i) (by omega) h)
        | (have e1 : lftF (gA o) (gS o) p u i j = (j.1 + givA (gA o) (gS o) i p j.1, false) := by simp only [lftF, h33, h38]; simp; exact h62
           simp only [lpN]
           rw [e1]
           exact td_mo (ih (i + 1) _ (j.1 + givA (gA o) (gS o) i p j.1, false) F1 (nI_1 i) (by omega) h1) (fun F2 G2 e => ⟨e.1, f1.tr e.2⟩))
        | (have e1 : lftF (gA o) (gS o) p u i j = (j.1 + givA (gA o) (gS o) i p j.1, true) := by simp only [lftF, h33, h38]; simp; exact Int32.not_le.mp h62
           simp only [lpN]
           rw [e1]
           exact td_mo (ih (i + 1) _ (j.1 + givA (gA o) (gS o) i p j.1, true) F1 (nI_1 i) (by omega) h1) (fun F2 G2 e => ⟨e.1, f1.tr e.2⟩))
      · rw [bitz, Bool.not_eq_false] at h33
        refine d_run 1 rfl ?_
        refine d_if_ne k64_38 (fun h38 => ?_) (fun h38 => ?_)
        · rw [b2i0, Bool.not_eq_false] at h38
          refine d_run 2 rfl ?_
          first
          | (have e1 : lftF (gA o) (gS o) p u i j = j := by simp [lftF, *]
             simp only [lpN]
             rw [e1]
             exact ih (i + 1) _ j F (nI_1 i) (by omega) h)
          | (have e1 : lftF (gA o) (gS o) p u i j = (j.1 + givA (gA o) (gS o) i p j.1, false) := by simp only [lftF, h33, h38]; simp; exact h62
             simp only [lpN]
             rw [e1]
             exact td_mo (ih (i + 1) _ (j.1 + givA (gA o) (gS o) i p j.1, false) F1 (nI_1 i) (by omega) h1) (fun F2 G2 e => ⟨e.1, f1.tr e.2⟩))
          | (have e1 : lftF (gA o) (gS o) p u i j = (j.1 + givA (gA o) (gS o) i p j.1, true) := by simp only [lftF, h33, h38]; simp; exact Int32.not_le.mp h62
             simp only [lpN]
             rw [e1]
             exact td_mo (ih (i + 1) _ (j.1 + givA (gA o) (gS o) i p j.1, true) F1 (nI_1 i) (by omega) h1) (fun F2 G2 e => ⟨e.1, f1.tr e.2⟩))
        · rw [b2i0] at h38
          refine d_run 6 rfl ?_
          refine d_call 5 k64_50 (by omega) (Nat.le_of_ble_eq_true rfl) rfl (Nat.le_of_ble_eq_true rfl) (Nat.le_of_ble_eq_true rfl) (recv_ok rfl (by first | assumption | exact Nat.le_of_ble_eq_true rfl | omega | exact Nat.lt_of_lt_of_le (m := 27) (by omega) (Nat.le_of_ble_eq_true rfl))) rfl (a_given (n := 0) (by omega) (lx2 b) hL hA hS hi hp (by omega)) rfl ?_
          rintro F1 G1 ⟨rfl, f1⟩
          have h1 := h.fr (d18_Q f1) (fun _ _ => rfl)
          refine d_run 4 rfl ?_
          refine d_gI k64_59 (by first | assumption | exact lx2 _ | exact Nat.le_of_ble_eq_true rfl | omega | exact Nat.lt_of_lt_of_le (m := 2) (by omega) (Nat.le_of_ble_eq_true rfl)) ⟨rfl, rfl, Or.inl rfl⟩ ?_
          rw [h1.2.1.sp]
          refine d_ic_le k64_62 (fun h62 => ?_) (fun h62 => ?_)
          · refine d_run 4 rfl ?_
            first
            | (have e1 : lftF (gA o) (gS o) p u i j = j := by simp [lftF, *]
               simp only [lpN]
               rw [e1]
               exact ih (i + 1) _ j F (nI_1 i) (by omega) h)
            | (have e1 : lftF (gA o) (gS o) p u i j = (j.1 + givA (gA o) (gS o) i p j.1, false) := by simp only [lftF, h33, h38]; simp; exact h62
               simp only [lpN]
               rw [e1]
               exact td_mo (ih (i + 1) _ (j.1 + givA (gA o) (gS o) i p j.1, false) F1 (nI_1 i) (by omega) h1) (fun F2 G2 e => ⟨e.1, f1.tr e.2⟩))
            | (have e1 : lftF (gA o) (gS o) p u i j = (j.1 + givA (gA o) (gS o) i p j.1, true) := by simp only [lftF, h33, h38]; simp; exact Int32.not_le.mp h62
               simp only [lpN]
               rw [e1]
               exact td_mo (ih (i + 1) _ (j.1 + givA (gA o) (gS o) i p j.1, true) F1 (nI_1 i) (by omega) h1) (fun F2 G2 e => ⟨e.1, f1.tr e.2⟩))
          · refine d_run 5 rfl ?_
            first
            | (have e1 : lftF (gA o) (gS o) p u i j = j := by simp [lftF, *]
               simp only [lpN]
               rw [e1]
               exact ih (i + 1) _ j F (nI_1 i) (by omega) h)
            | (have e1 : lftF (gA o) (gS o) p u i j = (j.1 + givA (gA o) (gS o) i p j.1, false) := by simp only [lftF, h33, h38]; simp; exact h62
               simp only [lpN]
               rw [e1]
               exact td_mo (ih (i + 1) _ (j.1 + givA (gA o) (gS o) i p j.1, false) F1 (nI_1 i) (by omega) h1) (fun F2 G2 e => ⟨e.1, f1.tr e.2⟩))
            | (have e1 : lftF (gA o) (gS o) p u i j = (j.1 + givA (gA o) (gS o) i p j.1, true) := by simp only [lftF, h33, h38]; simp; exact Int32.not_le.mp h62
               simp only [lpN]
               rw [e1]
               exact td_mo (ih (i + 1) _ (j.1 + givA (gA o) (gS o) i p j.1, true) F1 (nI_1 i) (by omega) h1) (fun F2 G2 e => ⟨e.1, f1.tr e.2⟩))
theorem a_leftBy (hw : WF o) (hd : 50 ≤ d) {p : Nat} (hp : p < lP (gA o)) (h : CInv F G b o) : Td E d 64 0 [some (vr 9 (lx b)), some (vr 25 0), some (vi (nI p)), some (vi u), none, none, none] [] x F G b (some (vi (lftA (gA o) (gS o) p u))) (fun F2 G2 => G2 = G ∧ FrD (fun k _ => decide (k = 18)) F F2) := by
  have hL := h.2.1
  have hA := hw.1
  have hS := h.2.2.2.1.1
  have hwS := hw.2.1.1
  have hP6 := hA.2.1
  have hS5 := hA.1
  refine d_run 1 rfl ?_
  refine d_gR k64_1 (by first | assumption | exact Nat.le_of_ble_eq_true rfl | omega | exact Nat.lt_of_lt_of_le (m := 27) (by omega) (Nat.le_of_ble_eq_true rfl)) ⟨rfl, rfl, rfl⟩ rfl ?_
  refine d_run 1 rfl ?_
  refine d_ia (N := 6) k64_5 (by decide) (by first | assumption | exact Nat.le_of_ble_eq_true rfl | omega | exact Nat.lt_of_lt_of_le (m := 27) (by omega) (Nat.le_of_ble_eq_true rfl)) ⟨⟨rfl, rfl⟩, rfl, rfl⟩ (by first | assumption | omega) rfl ?_
  rw [show F 27 0 p = sLf (gS o) p from hS.2.2.1 p hp]
  refine d_run 3 rfl ?_
  refine d_callT 2 k64_10 (by omega) (Nat.le_of_ble_eq_true rfl) rfl (Nat.le_of_ble_eq_true rfl) (Nat.le_of_ble_eq_true rfl) (recv_ok rfl (by first | assumption | exact Nat.le_of_ble_eq_true rfl | omega | exact Nat.lt_of_lt_of_le (m := 27) (by omega) (Nat.le_of_ble_eq_true rfl))) rfl (a_snapped (n := 0) (by omega) hS) rfl ?_
  refine d_run 3 rfl ?_
  exact l_leftBy hw hd hp (lP (gA o)) 0 _ (sLf (gS o) p, bit (sSn (gS o)) p) F rfl (by omega) h
theorem l_addSet {h0 : Nat → Int32} (hd : 50 ≤ d) : ∀ (r i : Nat) (iv : Int32) (F : FT), iv = nI i → i + r = 6 → eqR i (F 36 0) (fun k => h0 k + b2i (bit u k)) → (∀ k, i ≤ k → k < 6 → F 36 0 k = h0 k) → Td E d 65 32 [some (vr 35 0), some (vi u), some (vi iv)] [] x F G b none (fun F2 G2 => G2 = G ∧ eqR 6 (F2 36 0) (fun k => h0 k + b2i (bit u k)) ∧ FrD (fun k _ => decide (k = 36)) F F2) := by
  intro r
  induction r with
  | zero =>
    intro i iv F hiv hir q1 q2
    subst hiv
    have hi : i = 6 := by omega
    refine d_run 2 rfl ?_
    refine d_ic_ge k65_35 (fun h35 => ?_) (fun h35 => ?_)
    · refine d_ret k65_58 ?_
      subst hi
      exact ⟨rfl, q1, FrD.rf⟩
    · exact absurd (lt_nI h35 (b := 6) rfl (by omega) (by omega)) (by omega)
  | succ r ih =>
    intro i iv F hiv hir q1 q2
    subst hiv
    have hi : i < 6 := by omega
    refine d_run 2 rfl ?_
    refine d_ic_ge k65_35 (fun h35 => ?_) (fun h35 => ?_)
    · exact absurd (ge_nI h35 (b := 6) rfl (by omega) (by omega)) (by omega)
    · refine d_run 1 rfl ?_
      refine d_gR k65_39 (by first | assumption | exact Nat.le_of_ble_eq_true rfl | omega) ⟨rfl, rfl, rfl⟩ rfl ?_
      refine d_run 2 rfl ?_
      refine d_ia (N := 6) k65_44 (by decide) (by first | assumption | exact Nat.le_of_ble_eq_true rfl | omega) ⟨⟨rfl, rfl⟩, rfl, rfl⟩ (by first | assumption | omega) rfl ?_
      rw [q2 i (Nat.le_refl _) hi]
      refine d_run 6 rfl ?_
      refine d_is (N := 6) k65_51 (by first | assumption | exact Nat.le_of_ble_eq_true rfl | omega) ⟨rfl, rfl⟩ (by first | assumption | omega) rfl ?_
      rw [b2i_bit]
      refine d_run 2 rfl ?_
      refine td_mo (ih (i + 1) _ _ (nI_1 i) (by omega) ?_ ?_) (fun F2 G2 e => ⟨e.1, e.2.1, (FrD.rf.u (by simp)).tr e.2.2⟩)
      · intro j hj
        rw [uF_r]
        by_cases e : j = i
        · subst e
          exact pk_us
        · rw [pk_un e]
          exact q1 j (by omega)
      · intro j h1 h2
        rw [uF_r, pk_un (by omega)]
        exact q2 j (by omega) h2
theorem a_addSet {t : TL} (hd : 50 ≤ d) (h : CTa F t) : Td E d 65 0 [some (vr 35 0), some (vi u), none] [] x F G b none (fun F2 G2 => G2 = G ∧ CTa F2 (addT u t) ∧ FrD dTa F F2) := by
  obtain ⟨t1, t2, t3, t4⟩ := h
  refine d_run 2 rfl ?_
  refine d_gI k65_2 (by first | assumption | exact Nat.le_of_ble_eq_true rfl | omega) ⟨rfl, rfl, Or.inl rfl⟩ ?_
  refine d_run 2 rfl ?_
  refine d_pI k65_7 (by first | assumption | exact Nat.le_of_ble_eq_true rfl | omega) ⟨rfl, rfl⟩ ?_
  refine d_run 2 rfl ?_
  refine d_gI k65_12 (by first | assumption | exact Nat.le_of_ble_eq_true rfl | omega) ⟨rfl, rfl, Or.inl rfl⟩ ?_
  refine d_run 2 rfl ?_
  refine d_pI k65_17 (by first | assumption | exact Nat.le_of_ble_eq_true rfl | omega) ⟨rfl, rfl⟩ ?_
  refine d_run 2 rfl ?_
  refine d_gI k65_22 (by first | assumption | exact Nat.le_of_ble_eq_true rfl | omega) ⟨rfl, rfl, Or.inl rfl⟩ ?_
  refine d_run 2 rfl ?_
  refine d_pI k65_27 (by first | assumption | exact Nat.le_of_ble_eq_true rfl | omega) ⟨rfl, rfl⟩ ?_
  refine d_run 2 rfl ?_
  refine td_mo (l_addSet (h0 := t.2.2.2) (u := u) hd 6 0 _ _ rfl (by omega) (fun j hj => absurd hj (by omega)) ?_) ?_
  · intro j _ hj
    rw [uF_k (by decide), uF_k (by decide), uF_k (by decide)]
    exact t4 j hj
  · rintro F2 G2 ⟨rfl, q2, q3⟩
    have e35 : F2 35 = _ := q3.k (k := 35) (by decide)
    refine ⟨rfl, ⟨?_, ?_, ?_, q2⟩, ((FrD.rf.u rfl).u rfl).u rfl |>.tr (q3.mo (fun k m e => ?_))⟩
    · rw [e35]; simp [uF, addT, ibop, t1]
    · rw [e35]; simp [uF, addT, ibop, t2]
    · rw [e35]; simp [uF, addT, ibop, t3]
    · simp only [dTa, Bool.or_eq_false_iff, decide_eq_false_iff_not] at e
      simp only [decide_eq_false_iff_not]
      exact e.1.2
theorem l_gather (hw : WF o) (hd : 60 ≤ d) {p m : Nat} (hp : p < lP (gA o)) (hm : m ≤ 1000) : ∀ (r i : Nat) (iv : Int32) (t : TL) (F : FT), iv = nI i → i + r = m + 1 → CInv F G b o → CTa F t → Td E d 63 41 [some (vr 35 0), some (vr 9 (lx b)), some (vr 25 0), some (vi (nI p)), some (vi u), some (vi (nI m)), some (vi iv), none] [] x F G b none (fun F2 G2 => G2 = G ∧ CTa F2 (lpN (tlyF (gA o) (gS o) p u (nI m)) i r t) ∧ FrD dTa F F2) := by
  intro r
  induction r with
  | zero =>
    intro i iv t F hiv hir h hT
    subst hiv
    have hi : i = m + 1 := by omega
    have hL := h.2.1
    have hA := hw.1
    have hS := h.2.2.2.1.1
    have hwS := hw.2.1.1
    have hP6 := hA.2.1
    have hS5 := hA.1
    refine d_run 2 rfl ?_
    refine d_ic_gt k63_45 (fun h45 => ?_) (fun h45 => ?_)
    · refine d_ret k63_101 ?_
      exact ⟨rfl, hT, FrD.rf⟩
    · exact absurd (le_nI h45 rfl (by omega) (by omega)) (by omega)
  | succ r ih =>
    intro i iv t F hiv hir h hT
    subst hiv
    have hi : i < m + 1 := by omega
    have hL := h.2.1
    have hA := hw.1
    have hS := h.2.2.2.1.1
    have hwS := hw.2.1.1
    have hP6 := hA.2.1
    have hS5 := hA.1
    refine d_run 2 rfl ?_
    refine d_ic_gt k63_45 (fun h45 => ?_) (fun h45 => ?_)
    · exact absurd (gt_nI h45 rfl (by omega) (by omega)) (by omega)
    · refine d_run 5 rfl ?_
      refine d_if_ne k63_55 (fun h55 => ?_) (fun h55 => ?_)
      · refine d_run 3 rfl ?_
        refine d_if_eq k63_67 (fun h67 => ?_) (fun h67 => ?_)
        · have h67 := h67
          refine d_run 2 rfl ?_
          refine d_dr11111110 ?_
          first
          | (have e1 : okT (gA o) (gS o) p u (nI m) (nI i) = true := by simp only [okT, ibop] at *; simp_all
             simp only [lpN, tlyF]
             rw [if_pos e1]
             first
             | exact td_mo (ih (i + 1) _ _ F3 (nI_1 i) (by omega) (h1.fr (dTa_Q f3) (fun _ _ => rfl)) k3) (fun F2 G2 e => ⟨e.1, e.2.1, (d18_Ta f1).tr (f3.tr e.2.2)⟩)
             | exact td_mo (ih (i + 1) _ _ F3 (nI_1 i) (by omega) (h.fr (dTa_Q f3) (fun _ _ => rfl)) k3) (fun F2 G2 e => ⟨e.1, e.2.1, f3.tr e.2.2⟩))
          | (have e1 : ¬ okT (gA o) (gS o) p u (nI m) (nI i) = true := by simp only [okT, ibop] at *; simp_all
             simp only [lpN, tlyF]
             rw [if_neg e1]
             first
             | exact td_mo (ih (i + 1) _ _ F1 (nI_1 i) (by omega) h1 hT1) (fun F2 G2 e => ⟨e.1, e.2.1, (d18_Ta f1).tr e.2.2⟩)
             | exact ih (i + 1) _ _ F (nI_1 i) (by omega) h hT)
        · refine d_run 2 rfl ?_
          refine d_ic_eq k63_73 (fun h73 => ?_) (fun h73 => ?_)
          · refine d_run 2 rfl ?_
            refine d_call 2 k63_92 (by omega) (Nat.le_of_ble_eq_true rfl) rfl (Nat.le_of_ble_eq_true rfl) (Nat.le_of_ble_eq_true rfl) (recv_ok rfl (by first | assumption | exact Nat.le_of_ble_eq_true rfl | omega)) rfl (a_addSet (by omega) (by first | exact hT1 | exact hT)) rfl ?_
            rintro F3 G3 ⟨rfl, k3, f3⟩
            refine d_run 2 rfl ?_
            refine d_dr11111110 ?_
            first
            | (have e1 : okT (gA o) (gS o) p u (nI m) (nI i) = true := by simp only [okT, ibop] at *; simp_all
               simp only [lpN, tlyF]
               rw [if_pos e1]
               first
               | exact td_mo (ih (i + 1) _ _ F3 (nI_1 i) (by omega) (h1.fr (dTa_Q f3) (fun _ _ => rfl)) k3) (fun F2 G2 e => ⟨e.1, e.2.1, (d18_Ta f1).tr (f3.tr e.2.2)⟩)
               | exact td_mo (ih (i + 1) _ _ F3 (nI_1 i) (by omega) (h.fr (dTa_Q f3) (fun _ _ => rfl)) k3) (fun F2 G2 e => ⟨e.1, e.2.1, f3.tr e.2.2⟩))
            | (have e1 : ¬ okT (gA o) (gS o) p u (nI m) (nI i) = true := by simp only [okT, ibop] at *; simp_all
               simp only [lpN, tlyF]
               rw [if_neg e1]
               first
               | exact td_mo (ih (i + 1) _ _ F1 (nI_1 i) (by omega) h1 hT1) (fun F2 G2 e => ⟨e.1, e.2.1, (d18_Ta f1).tr e.2.2⟩)
               | exact ih (i + 1) _ _ F (nI_1 i) (by omega) h hT)
          · refine d_run 5 rfl ?_
            refine d_call 4 k63_83 (by omega) (Nat.le_of_ble_eq_true rfl) rfl (Nat.le_of_ble_eq_true rfl) (Nat.le_of_ble_eq_true rfl) recv_st rfl (a_leftBy hw (by omega) hp h) rfl ?_
            rintro F1 G1 ⟨rfl, f1⟩
            have h1 := h.fr (d18_Q f1) (fun _ _ => rfl)
            have hT1 : CTa F1 t := hT.fr (f1 35 0 rfl) (f1 36 0 rfl)
            refine d_ic_ne k63_86 (fun h86 => ?_) (fun h86 => ?_)
            · refine d_run 2 rfl ?_
              refine d_dr11111110 ?_
              first
              | (have e1 : okT (gA o) (gS o) p u (nI m) (nI i) = true := by simp only [okT, ibop] at *; simp_all
                 simp only [lpN, tlyF]
                 rw [if_pos e1]
                 first
                 | exact td_mo (ih (i + 1) _ _ F3 (nI_1 i) (by omega) (h1.fr (dTa_Q f3) (fun _ _ => rfl)) k3) (fun F2 G2 e => ⟨e.1, e.2.1, (d18_Ta f1).tr (f3.tr e.2.2)⟩)
                 | exact td_mo (ih (i + 1) _ _ F3 (nI_1 i) (by omega) (h.fr (dTa_Q f3) (fun _ _ => rfl)) k3) (fun F2 G2 e => ⟨e.1, e.2.1, f3.tr e.2.2⟩))
              | (have e1 : ¬ okT (gA o) (gS o) p u (nI m) (nI i) = true := by simp only [okT, ibop] at *; simp_all
                 simp only [lpN, tlyF]
                 rw [if_neg e1]
                 first
                 | exact td_mo (ih (i + 1) _ _ F1 (nI_1 i) (by omega) h1 hT1) (fun F2 G2 e => ⟨e.1, e.2.1, (d18_Ta f1).tr e.2.2⟩)
                 | exact ih (i + 1) _ _ F (nI_1 i) (by omega) h hT)
            · refine d_run 2 rfl ?_
              refine d_call 2 k63_92 (by omega) (Nat.le_of_ble_eq_true rfl) rfl (Nat.le_of_ble_eq_true rfl) (Nat.le_of_ble_eq_true rfl) (recv_ok rfl (by first | assumption | exact Nat.le_of_ble_eq_true rfl | omega)) rfl (a_addSet (by omega) (by first | exact hT1 | exact hT)) rfl ?_
              rintro F3 G3 ⟨rfl, k3, f3⟩
              refine d_run 2 rfl ?_
              refine d_dr11111110 ?_
              first
              | (have e1 : okT (gA o) (gS o) p u (nI m) (nI i) = true := by simp only [okT, ibop] at *; simp_all
                 simp only [lpN, tlyF]
                 rw [if_pos e1]
                 first
                 | exact td_mo (ih (i + 1) _ _ F3 (nI_1 i) (by omega) (h1.fr (dTa_Q f3) (fun _ _ => rfl)) k3) (fun F2 G2 e => ⟨e.1, e.2.1, (d18_Ta f1).tr (f3.tr e.2.2)⟩)
                 | exact td_mo (ih (i + 1) _ _ F3 (nI_1 i) (by omega) (h.fr (dTa_Q f3) (fun _ _ => rfl)) k3) (fun F2 G2 e => ⟨e.1, e.2.1, f3.tr e.2.2⟩))
              | (have e1 : ¬ okT (gA o) (gS o) p u (nI m) (nI i) = true := by simp only [okT, ibop] at *; simp_all
                 simp only [lpN, tlyF]
                 rw [if_neg e1]
                 first
                 | exact td_mo (ih (i + 1) _ _ F1 (nI_1 i) (by omega) h1 hT1) (fun F2 G2 e => ⟨e.1, e.2.1, (d18_Ta f1).tr e.2.2⟩)
                 | exact ih (i + 1) _ _ F (nI_1 i) (by omega) h hT)
      · refine d_run 4 rfl ?_
        refine d_if_eq k63_67 (fun h67 => ?_) (fun h67 => ?_)
        · have h67 := h67
          refine d_run 2 rfl ?_
          refine d_dr11111110 ?_
          first
          | (have e1 : okT (gA o) (gS o) p u (nI m) (nI i) = true := by simp only [okT, ibop] at *; simp_all
             simp only [lpN, tlyF]
             rw [if_pos e1]
             first
             | exact td_mo (ih (i + 1) _ _ F3 (nI_1 i) (by omega) (h1.fr (dTa_Q f3) (fun _ _ => rfl)) k3) (fun F2 G2 e => ⟨e.1, e.2.1, (d18_Ta f1).tr (f3.tr e.2.2)⟩)
             | exact td_mo (ih (i + 1) _ _ F3 (nI_1 i) (by omega) (h.fr (dTa_Q f3) (fun _ _ => rfl)) k3) (fun F2 G2 e => ⟨e.1, e.2.1, f3.tr e.2.2⟩))
          | (have e1 : ¬ okT (gA o) (gS o) p u (nI m) (nI i) = true := by simp only [okT, ibop] at *; simp_all
             simp only [lpN, tlyF]
             rw [if_neg e1]
             first
             | exact td_mo (ih (i + 1) _ _ F1 (nI_1 i) (by omega) h1 hT1) (fun F2 G2 e => ⟨e.1, e.2.1, (d18_Ta f1).tr e.2.2⟩)
             | exact ih (i + 1) _ _ F (nI_1 i) (by omega) h hT)
        · refine d_run 2 rfl ?_
          refine d_ic_eq k63_73 (fun h73 => ?_) (fun h73 => ?_)
          · refine d_run 2 rfl ?_
            refine d_call 2 k63_92 (by omega) (Nat.le_of_ble_eq_true rfl) rfl (Nat.le_of_ble_eq_true rfl) (Nat.le_of_ble_eq_true rfl) (recv_ok rfl (by first | assumption | exact Nat.le_of_ble_eq_true rfl | omega)) rfl (a_addSet (by omega) (by first | exact hT1 | exact hT)) rfl ?_
            rintro F3 G3 ⟨rfl, k3, f3⟩
            refine d_run 2 rfl ?_
            refine d_dr11111110 ?_
            first
            | (have e1 : okT (gA o) (gS o) p u (nI m) (nI i) = true := by simp only [okT, ibop] at *; simp_all
               simp only [lpN, tlyF]
               rw [if_pos e1]
               first
               | exact td_mo (ih (i + 1) _ _ F3 (nI_1 i) (by omega) (h1.fr (dTa_Q f3) (fun _ _ => rfl)) k3) (fun F2 G2 e => ⟨e.1, e.2.1, (d18_Ta f1).tr (f3.tr e.2.2)⟩)
               | exact td_mo (ih (i + 1) _ _ F3 (nI_1 i) (by omega) (h.fr (dTa_Q f3) (fun _ _ => rfl)) k3) (fun F2 G2 e => ⟨e.1, e.2.1, f3.tr e.2.2⟩))
            | (have e1 : ¬ okT (gA o) (gS o) p u (nI m) (nI i) = true := by simp only [okT, ibop] at *; simp_all
               simp only [lpN, tlyF]
               rw [if_neg e1]
               first
               | exact td_mo (ih (i + 1) _ _ F1 (nI_1 i) (by omega) h1 hT1) (fun F2 G2 e => ⟨e.1, e.2.1, (d18_Ta f1).tr e.2.2⟩)
               | exact ih (i + 1) _ _ F (nI_1 i) (by omega) h hT)
          · refine d_run 5 rfl ?_
            refine d_call 4 k63_83 (by omega) (Nat.le_of_ble_eq_true rfl) rfl (Nat.le_of_ble_eq_true rfl) (Nat.le_of_ble_eq_true rfl) recv_st rfl (a_leftBy hw (by omega) hp h) rfl ?_
            rintro F1 G1 ⟨rfl, f1⟩
            have h1 := h.fr (d18_Q f1) (fun _ _ => rfl)
            have hT1 : CTa F1 t := hT.fr (f1 35 0 rfl) (f1 36 0 rfl)
            refine d_ic_ne k63_86 (fun h86 => ?_) (fun h86 => ?_)
            · refine d_run 2 rfl ?_
              refine d_dr11111110 ?_
              first
              | (have e1 : okT (gA o) (gS o) p u (nI m) (nI i) = true := by simp only [okT, ibop] at *; simp_all
                 simp only [lpN, tlyF]
                 rw [if_pos e1]
                 first
                 | exact td_mo (ih (i + 1) _ _ F3 (nI_1 i) (by omega) (h1.fr (dTa_Q f3) (fun _ _ => rfl)) k3) (fun F2 G2 e => ⟨e.1, e.2.1, (d18_Ta f1).tr (f3.tr e.2.2)⟩)
                 | exact td_mo (ih (i + 1) _ _ F3 (nI_1 i) (by omega) (h.fr (dTa_Q f3) (fun _ _ => rfl)) k3) (fun F2 G2 e => ⟨e.1, e.2.1, f3.tr e.2.2⟩))
              | (have e1 : ¬ okT (gA o) (gS o) p u (nI m) (nI i) = true := by simp only [okT, ibop] at *; simp_all
                 simp only [lpN, tlyF]
                 rw [if_neg e1]
                 first
                 | exact td_mo (ih (i + 1) _ _ F1 (nI_1 i) (by omega) h1 hT1) (fun F2 G2 e => ⟨e.1, e.2.1, (d18_Ta f1).tr e.2.2⟩)
                 | exact ih (i + 1) _ _ F (nI_1 i) (by omega) h hT)
            · refine d_run 2 rfl ?_
              refine d_call 2 k63_92 (by omega) (Nat.le_of_ble_eq_true rfl) rfl (Nat.le_of_ble_eq_true rfl) (Nat.le_of_ble_eq_true rfl) (recv_ok rfl (by first | assumption | exact Nat.le_of_ble_eq_true rfl | omega)) rfl (a_addSet (by omega) (by first | exact hT1 | exact hT)) rfl ?_
              rintro F3 G3 ⟨rfl, k3, f3⟩
              refine d_run 2 rfl ?_
              refine d_dr11111110 ?_
              first
              | (have e1 : okT (gA o) (gS o) p u (nI m) (nI i) = true := by simp only [okT, ibop] at *; simp_all
                 simp only [lpN, tlyF]
                 rw [if_pos e1]
                 first
                 | exact td_mo (ih (i + 1) _ _ F3 (nI_1 i) (by omega) (h1.fr (dTa_Q f3) (fun _ _ => rfl)) k3) (fun F2 G2 e => ⟨e.1, e.2.1, (d18_Ta f1).tr (f3.tr e.2.2)⟩)
                 | exact td_mo (ih (i + 1) _ _ F3 (nI_1 i) (by omega) (h.fr (dTa_Q f3) (fun _ _ => rfl)) k3) (fun F2 G2 e => ⟨e.1, e.2.1, f3.tr e.2.2⟩))
              | (have e1 : ¬ okT (gA o) (gS o) p u (nI m) (nI i) = true := by simp only [okT, ibop] at *; simp_all
                 simp only [lpN, tlyF]
                 rw [if_neg e1]
                 first
                 | exact td_mo (ih (i + 1) _ _ F1 (nI_1 i) (by omega) h1 hT1) (fun F2 G2 e => ⟨e.1, e.2.1, (d18_Ta f1).tr e.2.2⟩)
                 | exact ih (i + 1) _ _ F (nI_1 i) (by omega) h hT)
theorem a_gather (hw : WF o) (hd : 60 ≤ d) {p : Nat} (hp : p < lP (gA o)) (h : CInv F G b o) : Td E d 63 0 [some (vr 35 0), some (vr 9 (lx b)), some (vr 25 0), some (vi (nI p)), some (vi u), none, none, none] [] x F G b none (fun F2 G2 => G2 = G ∧ CTa F2 (tly (gA o) (gS o) p u) ∧ FrD dTa F F2) := by
  have hL := h.2.1
  have hA := hw.1
  have hS := h.2.2.2.1.1
  have hwS := hw.2.1.1
  have hP6 := hA.2.1
  have hS5 := hA.1
  obtain ⟨m, hm, em⟩ := bset_nI (f := offA (gA o) (gS o) p (sAt (gS o) p)) hP6
  have h64 := pow6 hP6
  have e0 : mayA (gA o) (gS o) p = nI m := em
  rw [show tly (gA o) (gS o) p u = lpN (tlyF (gA o) (gS o) p u (nI m)) 0 (m + 1) (0, nI m, 0, fun _ => 0) by simp only [tly]; rw [e0, ix_nI (by omega)]]
  refine d_run 4 rfl ?_
  refine d_gR k63_4 (by first | assumption | exact Nat.le_of_ble_eq_true rfl | omega | exact Nat.lt_of_lt_of_le (m := 27) (by omega) (Nat.le_of_ble_eq_true rfl)) ⟨rfl, rfl, rfl⟩ rfl ?_
  refine d_run 1 rfl ?_
  refine d_ia (N := 6) k63_8 (by decide) (by first | assumption | exact Nat.le_of_ble_eq_true rfl | omega | exact Nat.lt_of_lt_of_le (m := 27) (by omega) (Nat.le_of_ble_eq_true rfl)) ⟨⟨rfl, rfl⟩, rfl, rfl⟩ (by first | assumption | omega) rfl ?_
  rw [show F 26 0 p = sAt (gS o) p from hS.1 p hp]
  refine d_callT 4 k63_9 (by omega) (Nat.le_of_ble_eq_true rfl) rfl (Nat.le_of_ble_eq_true rfl) (Nat.le_of_ble_eq_true rfl) (recv_ok rfl (by first | assumption | exact Nat.le_of_ble_eq_true rfl | omega | exact Nat.lt_of_lt_of_le (m := 27) (by omega) (Nat.le_of_ble_eq_true rfl))) rfl (a_offer (n := 0) (by omega) (lx2 b) hL hA hS hp (by omega)) rfl ?_
  rw [em]
  refine d_run 2 rfl ?_
  refine d_gR k63_15 (by first | assumption | exact Nat.le_of_ble_eq_true rfl | omega) ⟨rfl, rfl, rfl⟩ rfl ?_
  refine d_run 1 rfl ?_
  refine d_callT 2 k63_19 (by omega) (Nat.le_of_ble_eq_true rfl) rfl (Nat.le_of_ble_eq_true rfl) (Nat.le_of_ble_eq_true rfl) recv_st rfl (c_fill36 (by omega)) rfl ?_
  refine d_run 2 rfl ?_
  refine d_pI k63_24 (by first | assumption | exact Nat.le_of_ble_eq_true rfl | omega) ⟨rfl, rfl⟩ ?_
  refine d_run 2 rfl ?_
  refine d_pI k63_30 (by first | assumption | exact Nat.le_of_ble_eq_true rfl | omega) ⟨rfl, rfl⟩ ?_
  refine d_run 2 rfl ?_
  refine d_pI k63_35 (by first | assumption | exact Nat.le_of_ble_eq_true rfl | omega) ⟨rfl, rfl⟩ ?_
  refine d_run 2 rfl ?_
  have f0 : FrD dTa F (uF (uF (uF (srow F 36 0 (fil (F 36 0) 6 0)) 35 0 1 0) 35 0 2 (nI m)) 35 0 3 0) := (((FrD.rf.sr rfl).u rfl).u rfl).u rfl
  refine td_mo (l_gather hw hd hp (by omega) (m + 1) 0 _ (0, nI m, 0, fun _ => 0) _ rfl (by omega) (h.fr (dTa_Q f0) (fun _ _ => rfl)) ⟨?_, ?_, ?_, ?_⟩) (fun F2 G2 e => ⟨e.1, e.2.1, f0.tr e.2.2⟩)
  · simp [uF]
  · simp [uF]
  · simp [uF]
  · intro j hj
    simp [uF, srow, fil, hj]
theorem a_sets (h : CInv F G b o) (hw : WF o) (hd : 100 ≤ d) : Td E d 105 0 [some (vr 1 0), some (vi u), some (vi w)] [] x F G b (some (vi (q_sets o u w))) (CPost b (o) F G) := by
  have hL := h.2.1
  have hA := hw.1
  have hS := h.2.2.2.1.1
  have hwS := hw.2.1.1
  have hP6 := hA.2.1
  have hS5 := hA.1
  by_cases hN : isN u (lP (gA o)) = true
  · obtain ⟨p, hp, rfl⟩ := isN_ex hN (by omega)
    by_cases hM : isW2 w 0 2 = true
    · rw [show q_sets o (nI p) w = setR (tly (gA o) (gS o) p (gTl o p)) w by simp [q_sets, hN, hM, ix_nI (show p < 100000 by omega)]]
      refine d_run 2 rfl ?_
      refine d_callT 2 k105_2 (by omega) (Nat.le_of_ble_eq_true rfl) rfl (Nat.le_of_ble_eq_true rfl) (Nat.le_of_ble_eq_true rfl) (recv_ok rfl (by first | assumption | exact Nat.le_of_ble_eq_true rfl | omega)) rfl (a_isP hL) rfl ?_
      rw [hN]
      refine d_if_eq k105_5 (fun h5 => ?_) (fun h5 => ?_)
      · exact absurd h5 (by decide)
      · refine d_run 3 rfl ?_
        refine d_callT 3 k105_11 (by omega) (Nat.le_of_ble_eq_true rfl) rfl (Nat.le_of_ble_eq_true rfl) (Nat.le_of_ble_eq_true rfl) recv_st rfl c_within rfl ?_
        rw [hM]
        refine d_if_ne k105_14 (fun h14 => ?_) (fun h14 => ?_)
        · refine d_run 1 rfl ?_
          refine d_gR k105_20 (by first | assumption | exact Nat.le_of_ble_eq_true rfl | omega) ⟨rfl, rfl, rfl⟩ rfl ?_
          refine d_run 1 rfl ?_
          refine d_gR k105_24 (by first | assumption | exact Nat.le_of_ble_eq_true rfl | omega) ⟨rfl, rfl, rfl⟩ (Rs_land _) ?_
          refine d_run 1 rfl ?_
          refine d_gR k105_28 (by first | assumption | exact Nat.le_of_ble_eq_true rfl | omega) ⟨rfl, rfl, rfl⟩ rfl ?_
          refine d_gR k105_31 (by first | assumption | exact Nat.le_of_ble_eq_true rfl | omega | exact Nat.lt_of_lt_of_le (m := 5) (by omega) (Nat.le_of_ble_eq_true rfl)) ⟨rfl, rfl, rfl⟩ rfl ?_
          refine d_run 2 rfl ?_
          refine d_gR k105_36 (by first | assumption | exact Nat.le_of_ble_eq_true rfl | omega) ⟨rfl, rfl, rfl⟩ rfl ?_
          refine d_gR k105_39 (by first | assumption | exact Nat.le_of_ble_eq_true rfl | omega | exact Nat.lt_of_lt_of_le (m := 5) (by omega) (Nat.le_of_ble_eq_true rfl)) ⟨rfl, rfl, rfl⟩ rfl ?_
          refine d_run 1 rfl ?_
          refine d_ia (N := 6) k105_43 (by decide) (by first | assumption | exact Nat.le_of_ble_eq_true rfl | omega | exact Nat.lt_of_lt_of_le (m := 5) (by omega) (Nat.le_of_ble_eq_true rfl)) ⟨⟨rfl, rfl⟩, rfl, rfl⟩ (by first | assumption | omega) rfl ?_
          rw [show F 24 0 p = gTl o p from h.2.2.2.1.2.2 p (by omega)]
          refine d_call 5 k105_44 (by omega) (Nat.le_of_ble_eq_true rfl) rfl (Nat.le_of_ble_eq_true rfl) (Nat.le_of_ble_eq_true rfl) (recv_ok rfl (by first | assumption | exact Nat.le_of_ble_eq_true rfl | omega)) rfl (a_gather hw (by omega) hp h) rfl ?_
          rintro F1 G1 ⟨rfl, ⟨t1, t2, t3, t4⟩, f1⟩
          refine d_run 1 rfl ?_
          refine d_if_ne k105_48 (fun h48 => ?_) (fun h48 => ?_)
          · refine d_run 1 rfl ?_
            refine d_gR k105_60 (by first | assumption | exact Nat.le_of_ble_eq_true rfl | omega) ⟨rfl, rfl, rfl⟩ rfl ?_
            refine d_gI k105_63 (by first | assumption | exact Nat.le_of_ble_eq_true rfl | omega) ⟨rfl, rfl, Or.inl rfl⟩ ?_
            rw [t1]
            refine d_if_ne k105_66 (fun h66 => ?_) (fun h66 => ?_)
            · refine d_run 2 rfl ?_
              refine d_ic_ne k105_73 (fun h73 => ?_) (fun h73 => ?_)
              · refine d_run 1 rfl ?_
                refine d_gR k105_87 (by first | assumption | exact Nat.le_of_ble_eq_true rfl | omega) ⟨rfl, rfl, rfl⟩ rfl ?_
                refine d_gI k105_90 (by first | assumption | exact Nat.le_of_ble_eq_true rfl | omega) ⟨rfl, rfl, Or.inl rfl⟩ ?_
                rw [t3]
                refine d_ir k105_93 rfl (by simp [setR, h48, h66, h73]) ?_
                exact CPost.q h (dTa_Q f1)
              · refine d_run 1 rfl ?_
                refine d_gR k105_77 (by first | assumption | exact Nat.le_of_ble_eq_true rfl | omega) ⟨rfl, rfl, rfl⟩ rfl ?_
                refine d_gI k105_80 (by first | assumption | exact Nat.le_of_ble_eq_true rfl | omega) ⟨rfl, rfl, Or.inl rfl⟩ ?_
                rw [t2]
                refine d_run 1 rfl ?_
                refine d_ir k105_93 rfl (by simp [setR, h48, h66, h73]) ?_
                exact CPost.q h (dTa_Q f1)
            · refine d_run 1 rfl ?_
              refine d_ir k105_70 rfl (by simp [setR, h48, h66]) ?_
              exact CPost.q h (dTa_Q f1)
          · refine d_run 1 rfl ?_
            refine d_gR k105_52 (by first | assumption | exact Nat.le_of_ble_eq_true rfl | omega) ⟨rfl, rfl, rfl⟩ rfl ?_
            refine d_gI k105_55 (by first | assumption | exact Nat.le_of_ble_eq_true rfl | omega) ⟨rfl, rfl, Or.inl rfl⟩ ?_
            rw [t1]
            refine d_ir k105_58 rfl (by simp [setR, h48]) ?_
            exact CPost.q h (dTa_Q f1)
        · exact absurd h14 (by decide)
    · have hM : isW2 w 0 2 = false := by simpa using hM
      rw [show q_sets o (nI p) w = -1 by simp [q_sets, hM]]
      refine d_run 2 rfl ?_
      refine d_callT 2 k105_2 (by omega) (Nat.le_of_ble_eq_true rfl) rfl (Nat.le_of_ble_eq_true rfl) (Nat.le_of_ble_eq_true rfl) (recv_ok rfl (by first | assumption | exact Nat.le_of_ble_eq_true rfl | omega)) rfl (a_isP hL) rfl ?_
      rw [hN]
      refine d_if_eq k105_5 (fun h5 => ?_) (fun h5 => ?_)
      · exact absurd h5 (by decide)
      · refine d_run 3 rfl ?_
        refine d_callT 3 k105_11 (by omega) (Nat.le_of_ble_eq_true rfl) rfl (Nat.le_of_ble_eq_true rfl) (Nat.le_of_ble_eq_true rfl) recv_st rfl c_within rfl ?_
        rw [hM]
        refine d_if_ne k105_14 (fun h14 => ?_) (fun h14 => ?_)
        · exact absurd h14 (by decide)
        · refine d_run 1 rfl ?_
          refine d_ir k105_18 rfl (by rfl) ?_
          exact CPost.q h FrD.rf
  · have hN : isN u (lP (gA o)) = false := by simpa using hN
    rw [show q_sets o u w = -1 by simp [q_sets, hN]]
    refine d_run 2 rfl ?_
    refine d_callT 2 k105_2 (by omega) (Nat.le_of_ble_eq_true rfl) rfl (Nat.le_of_ble_eq_true rfl) (Nat.le_of_ble_eq_true rfl) (recv_ok rfl (by first | assumption | exact Nat.le_of_ble_eq_true rfl | omega)) rfl (a_isP hL) rfl ?_
    rw [hN]
    refine d_if_eq k105_5 (fun h5 => ?_) (fun h5 => ?_)
    · refine d_run 1 rfl ?_
      refine d_ir k105_18 rfl (by rfl) ?_
      exact CPost.q h FrD.rf
    · exact absurd h5 (by decide)
theorem l_ask (h : CInv F G b o) (hw : WF o) (hd : 100 ≤ d) {p : Nat} {t : TL} (hp : p < lP (gA o)) (hT : CTa F t) : ∀ (r i : Nat) (iv : Int32) (lb : Int32 × Int32), iv = nI i → i + r = lP (gA o) → Td E d 106 51 [some (vr 1 0), some (vi (nI p)), some (vi lb.2), some (vi lb.1), some (vi iv), none] [] x F G b (some (vi (lpN (askF t p) i r lb).2)) (CPost b o F G) := by
  intro r
  induction r with
  | zero =>
    intro i iv lb hiv hir 
    subst hiv
    have hi : i = lP (gA o) := by omega
    have hL := h.2.1
    have hA := hw.1
    have hS := h.2.2.2.1.1
    have hwS := hw.2.1.1
    have hP6 := hA.2.1
    have hS5 := hA.1
    refine d_run 2 rfl ?_
    refine d_gR k106_54 (by first | assumption | exact Nat.le_of_ble_eq_true rfl | omega) ⟨rfl, rfl, rfl⟩ (Rs_land _) ?_
    refine d_gI k106_57 (by first | assumption | exact lx2 _ | exact Nat.le_of_ble_eq_true rfl | omega | exact Nat.lt_of_lt_of_le (m := 2) (by omega) (Nat.le_of_ble_eq_true rfl)) ⟨rfl, rfl, Or.inl rfl⟩ ?_
    refine d_ic_ge k106_60 (fun h60 => ?_) (fun h60 => ?_)
    · refine d_run 1 rfl ?_
      refine d_ir k106_121 rfl (by rfl) ?_
      exact CPost.q h FrD.rf
    · exact absurd (lt_nI h60 hL.2.1 (by omega) (by omega)) (by omega)
  | succ r ih =>
    intro i iv lb hiv hir 
    subst hiv
    have hi : i < lP (gA o) := by omega
    have hL := h.2.1
    have hA := hw.1
    have hS := h.2.2.2.1.1
    have hwS := hw.2.1.1
    have hP6 := hA.2.1
    have hS5 := hA.1
    refine d_run 2 rfl ?_
    refine d_gR k106_54 (by first | assumption | exact Nat.le_of_ble_eq_true rfl | omega) ⟨rfl, rfl, rfl⟩ (Rs_land _) ?_
    refine d_gI k106_57 (by first | assumption | exact lx2 _ | exact Nat.le_of_ble_eq_true rfl | omega | exact Nat.lt_of_lt_of_le (m := 2) (by omega) (Nat.le_of_ble_eq_true rfl)) ⟨rfl, rfl, Or.inl rfl⟩ ?_
    refine d_ic_ge k106_60 (fun h60 => ?_) (fun h60 => ?_)
    · exact absurd (ge_nI h60 hL.2.1 (by omega) (by omega)) (by omega)
    · refine d_run 1 rfl ?_
      refine d_gR k106_64 (by first | assumption | exact Nat.le_of_ble_eq_true rfl | omega) ⟨rfl, rfl, rfl⟩ rfl ?_
      refine d_gR k106_67 (by first | assumption | exact Nat.le_of_ble_eq_true rfl | omega) ⟨rfl, rfl, rfl⟩ rfl ?_
      refine d_run 1 rfl ?_
      refine d_ia (N := 6) k106_72 (by decide) (by first | assumption | exact Nat.le_of_ble_eq_true rfl | omega) ⟨⟨rfl, rfl⟩, rfl, rfl⟩ (by first | assumption | omega) rfl ?_
      rw [hT.2.2.2 i (by omega)]
      refine d_run 1 rfl ?_
      refine d_gR k106_74 (by first | assumption | exact Nat.le_of_ble_eq_true rfl | omega) ⟨rfl, rfl, rfl⟩ rfl ?_
      refine d_gI k106_77 (by first | assumption | exact Nat.le_of_ble_eq_true rfl | omega) ⟨rfl, rfl, Or.inl rfl⟩ ?_
      rw [hT.1]
      refine d_run 1 rfl ?_
      refine d_gR k106_81 (by first | assumption | exact Nat.le_of_ble_eq_true rfl | omega) ⟨rfl, rfl, rfl⟩ rfl ?_
      refine d_gR k106_84 (by first | assumption | exact Nat.le_of_ble_eq_true rfl | omega) ⟨rfl, rfl, rfl⟩ rfl ?_
      refine d_run 1 rfl ?_
      refine d_ia (N := 6) k106_89 (by decide) (by first | assumption | exact Nat.le_of_ble_eq_true rfl | omega) ⟨⟨rfl, rfl⟩, rfl, rfl⟩ (by first | assumption | omega) rfl ?_
      rw [hT.2.2.2 i (by omega)]
      refine d_run 1 rfl ?_
      refine d_max k106_91 (by omega) (Nat.le_of_ble_eq_true rfl) ?_
      refine d_run 3 rfl ?_
      refine d_ic_eq k106_99 (fun h99 => ?_) (fun h99 => ?_)
      · have h99 := nI_inj h99 (by omega) (by omega)
        have e99 : decide (¬ i = p) = false := by simp [h99]
        refine d_run 2 rfl ?_
        refine d_dr111110 ?_
        first
        | (have e1 : askF t p i lb = lb := by simp only [askF]; rw [e99]; rfl
           simp only [lpN]
           rw [e1]
           exact ih (i + 1) _ lb (nI_1 i) (by omega))
        | (have e1 : askF t p i lb = lb := by simp only [askF]; rw [if_neg (by simp only [Bool.and_eq_true, decide_eq_true_eq]; intro e; exact absurd e.2 (Int32.not_lt.mpr h105))]
           simp only [lpN]
           rw [e1]
           exact ih (i + 1) _ lb (nI_1 i) (by omega))
        | (have e1 : askF t p i lb = (mx2 (t.2.2.2 i) (t.1 - t.2.2.2 i), nI i) := by simp only [askF]; rw [if_pos (by simp only [Bool.and_eq_true, decide_eq_true_eq]; exact ⟨h99, Int32.not_le.mp h105⟩)]
           simp only [lpN]
           rw [e1]
           exact ih (i + 1) _ (mx2 (t.2.2.2 i) (t.1 - t.2.2.2 i), nI i) (nI_1 i) (by omega))
      · have h99 := nI_ne h99
        refine d_run 2 rfl ?_
        refine d_ic_ge k106_105 (fun h105 => ?_) (fun h105 => ?_)
        · refine d_run 2 rfl ?_
          refine d_dr111110 ?_
          first
          | (have e1 : askF t p i lb = lb := by simp only [askF]; rw [e99]; rfl
             simp only [lpN]
             rw [e1]
             exact ih (i + 1) _ lb (nI_1 i) (by omega))
          | (have e1 : askF t p i lb = lb := by simp only [askF]; rw [if_neg (by simp only [Bool.and_eq_true, decide_eq_true_eq]; intro e; exact absurd e.2 (Int32.not_lt.mpr h105))]
             simp only [lpN]
             rw [e1]
             exact ih (i + 1) _ lb (nI_1 i) (by omega))
          | (have e1 : askF t p i lb = (mx2 (t.2.2.2 i) (t.1 - t.2.2.2 i), nI i) := by simp only [askF]; rw [if_pos (by simp only [Bool.and_eq_true, decide_eq_true_eq]; exact ⟨h99, Int32.not_le.mp h105⟩)]
             simp only [lpN]
             rw [e1]
             exact ih (i + 1) _ (mx2 (t.2.2.2 i) (t.1 - t.2.2.2 i), nI i) (nI_1 i) (by omega))
        · refine d_run 4 rfl ?_
          refine d_run 2 rfl ?_
          refine d_dr111110 ?_
          first
          | (have e1 : askF t p i lb = lb := by simp only [askF]; rw [e99]; rfl
             simp only [lpN]
             rw [e1]
             exact ih (i + 1) _ lb (nI_1 i) (by omega))
          | (have e1 : askF t p i lb = lb := by simp only [askF]; rw [if_neg (by simp only [Bool.and_eq_true, decide_eq_true_eq]; intro e; exact absurd e.2 (Int32.not_lt.mpr h105))]
             simp only [lpN]
             rw [e1]
             exact ih (i + 1) _ lb (nI_1 i) (by omega))
          | (have e1 : askF t p i lb = (mx2 (t.2.2.2 i) (t.1 - t.2.2.2 i), nI i) := by simp only [askF]; rw [if_pos (by simp only [Bool.and_eq_true, decide_eq_true_eq]; exact ⟨h99, Int32.not_le.mp h105⟩)]
             simp only [lpN]
             rw [e1]
             exact ih (i + 1) _ (mx2 (t.2.2.2 i) (t.1 - t.2.2.2 i), nI i) (nI_1 i) (by omega))
theorem a_ask (h : CInv F G b o) (hw : WF o) (hd : 100 ≤ d) : Td E d 106 0 [some (vr 1 0), some (vi u), none, none, none, none] [] x F G b (some (vi (q_ask o u))) (CPost b (o) F G) := by
  have hL := h.2.1
  have hA := hw.1
  have hS := h.2.2.2.1.1
  have hwS := hw.2.1.1
  have hP6 := hA.2.1
  have hS5 := hA.1
  by_cases hN : isN u (lP (gA o)) = true
  · obtain ⟨p, hp, rfl⟩ := isN_ex hN (by omega)
    rw [show q_ask o (nI p) = (lpN (askF (tly (gA o) (gS o) p (gTl o p)) p) 0 (lP (gA o)) ((tly (gA o) (gS o) p (gTl o p)).1, -1)).2 by simp [q_ask, hN, ix_nI (show p < 100000 by omega)]]
    refine d_run 2 rfl ?_
    refine d_callT 2 k106_2 (by omega) (Nat.le_of_ble_eq_true rfl) rfl (Nat.le_of_ble_eq_true rfl) (Nat.le_of_ble_eq_true rfl) (recv_ok rfl (by first | assumption | exact Nat.le_of_ble_eq_true rfl | omega)) rfl (a_isP hL) rfl ?_
    rw [hN]
    refine d_if_ne k106_5 (fun h5 => ?_) (fun h5 => ?_)
    · refine d_run 1 rfl ?_
      refine d_gR k106_11 (by first | assumption | exact Nat.le_of_ble_eq_true rfl | omega) ⟨rfl, rfl, rfl⟩ rfl ?_
      refine d_run 1 rfl ?_
      refine d_gR k106_15 (by first | assumption | exact Nat.le_of_ble_eq_true rfl | omega) ⟨rfl, rfl, rfl⟩ (Rs_land _) ?_
      refine d_run 1 rfl ?_
      refine d_gR k106_19 (by first | assumption | exact Nat.le_of_ble_eq_true rfl | omega) ⟨rfl, rfl, rfl⟩ rfl ?_
      refine d_gR k106_22 (by first | assumption | exact Nat.le_of_ble_eq_true rfl | omega | exact Nat.lt_of_lt_of_le (m := 5) (by omega) (Nat.le_of_ble_eq_true rfl)) ⟨rfl, rfl, rfl⟩ rfl ?_
      refine d_run 2 rfl ?_
      refine d_gR k106_27 (by first | assumption | exact Nat.le_of_ble_eq_true rfl | omega) ⟨rfl, rfl, rfl⟩ rfl ?_
      refine d_gR k106_30 (by first | assumption | exact Nat.le_of_ble_eq_true rfl | omega | exact Nat.lt_of_lt_of_le (m := 5) (by omega) (Nat.le_of_ble_eq_true rfl)) ⟨rfl, rfl, rfl⟩ rfl ?_
      refine d_run 1 rfl ?_
      refine d_ia (N := 6) k106_34 (by decide) (by first | assumption | exact Nat.le_of_ble_eq_true rfl | omega | exact Nat.lt_of_lt_of_le (m := 5) (by omega) (Nat.le_of_ble_eq_true rfl)) ⟨⟨rfl, rfl⟩, rfl, rfl⟩ (by first | assumption | omega) rfl ?_
      rw [show F 24 0 p = gTl o p from h.2.2.2.1.2.2 p (by omega)]
      refine d_call 5 k106_35 (by omega) (Nat.le_of_ble_eq_true rfl) rfl (Nat.le_of_ble_eq_true rfl) (Nat.le_of_ble_eq_true rfl) (recv_ok rfl (by first | assumption | exact Nat.le_of_ble_eq_true rfl | omega)) rfl (a_gather hw (by omega) hp h) rfl ?_
      rintro F1 G1 ⟨rfl, kT, f1⟩
      have h1 := h.fr (dTa_Q f1) (fun _ _ => rfl)
      refine d_run 3 rfl ?_
      refine d_gR k106_41 (by first | assumption | exact Nat.le_of_ble_eq_true rfl | omega) ⟨rfl, rfl, rfl⟩ rfl ?_
      refine d_gI k106_44 (by first | assumption | exact Nat.le_of_ble_eq_true rfl | omega) ⟨rfl, rfl, Or.inl rfl⟩ ?_
      rw [kT.1]
      refine d_run 3 rfl ?_
      exact td_mo (l_ask h1 hw hd hp kT (lP (gA o)) 0 _ (_, -1) rfl (by omega)) (fun F2 G2 e => e.q2 (dTa_Q f1))
    · exact absurd h5 (by decide)
  · have hN : isN u (lP (gA o)) = false := by simpa using hN
    rw [show q_ask o u = -1 by simp [q_ask, hN]]
    refine d_run 2 rfl ?_
    refine d_callT 2 k106_2 (by omega) (Nat.le_of_ble_eq_true rfl) rfl (Nat.le_of_ble_eq_true rfl) (Nat.le_of_ble_eq_true rfl) (recv_ok rfl (by first | assumption | exact Nat.le_of_ble_eq_true rfl | omega)) rfl (a_isP hL) rfl ?_
    rw [hN]
    refine d_if_ne k106_5 (fun h5 => ?_) (fun h5 => ?_)
    · exact absurd h5 (by decide)
    · refine d_run 1 rfl ?_
      refine d_ir k106_9 rfl (by rfl) ?_
      exact CPost.q h FrD.rf
end P8
