/-! MEET OF THE CLASS -/
theorem ix5 (a c : Nat) : ibop 0 (ibop 2 (nI a) 5) (nI c) = nI (5 * a + c) := by
  show nI a * 5 + nI c = _
  rw [show (5 : Int32) = nI 5 from rfl, pk_mul, nI_add, Nat.mul_comm a 5]
def goB (A : LA) (a k : Nat) : Bool := decide (k = a) || bit (lLn A a) k
def wys (A : LA) (a c : Nat) : Int32 := cnt (goB A a) (lS A) * cnt (goB A c) (lS A)
def shI (A : LA) (a c : Nat) (much : Int32) (i j : Nat) (nx : Nat → Int32) : Nat → Int32 := if (goB A a i && goB A c j) = true then upd nx (5 * i + j) (nx (5 * i + j) + much) else nx
def shL (A : LA) (a c : Nat) (much : Int32) (nx : Nat → Int32) : Nat → Int32 := lpN (fun i nx => lpN (shI A a c much i) 0 (lS A) nx) 0 (lS A) nx
def shF (A : LA) (sh : Int32) (a c : Nat) (nx : Nat → Int32) : Nat → Int32 := if a = c then upd nx (5 * a + c) (nx (5 * a + c) + sh) else if sh = 0 then nx else shL A a c (sh / wys A a c) nx
def shO (A : LA) (sh : Nat → Int32) : Nat → Int32 := lpN (fun a nx => lpN (fun c nx => shF A (sh (5 * a + c)) a c nx) 0 (lS A) nx) 0 (lS A) (fun _ => 0)
def shN (A : LA) (n : Nat) (sh : Nat → Int32) : Nat → Int32 := lpN (fun _ sh => shO A sh) 0 n sh
def g_meet (o : SG) (u v w : Int32) : Bool := isTwo u v (lP (gA o)) && isW2 w 1 6 && decide (¬ sAt (gS o) (ix u) = sAt (gS o) (ix v))
def q_meet (o : SG) (u v w : Int32) : Int32 := if g_meet o u v w = true then isum (fun k => shN (gA o) (ix w) (upd (fun _ => 0) (5 * ix (sAt (gS o) (ix u)) + ix (sAt (gS o) (ix v))) 1000000) (6 * k)) 5 else -1
theorem bset_or1 {f : Nat → Bool} {a : Nat} : ∀ {S : Nat}, a < S → bset f S ||| (1 <<< (nI a &&& 31)) = bset (fun k => decide (k = a) || f k) S
  | 0, h => absurd h (by omega)
  | S + 1, h => by
    by_cases e : a = S
    · subst e
      have e1 : bset (fun k => decide (k = a) || f k) a = bset f a := bset_c (fun k hk => by simp [show ¬ k = a by omega])
      simp only [bset, decide_true, Bool.true_or, if_true]
      rw [e1]
      cases hf : f a with
      | true =>
        simp only [if_true]
        rw [Int32.or_assoc, Int32.or_self]
      | false =>
        simp only [Bool.false_eq_true, if_false]
    · have ih := bset_or1 (f := f) (a := a) (S := S) (by omega)
      have e2 : decide (S = a) = false := by simp; omega
      simp only [bset, e2, Bool.false_or]
      cases hf : f S with
      | true =>
        simp only [if_true]
        rw [Int32.or_assoc, Int32.or_comm (1 <<< (nI S &&& 31)), ← Int32.or_assoc, ih]
      | false =>
        simp only [Bool.false_eq_true, if_false]
        exact ih
theorem nxO {A : LA} (hA : wfL A) {a : Nat} (ha : a < lS A) : ibop 4 (lLn A a) (ibop 6 1 (nI a)) = bset (goB A a) (lS A) := by
  obtain ⟨f, hf⟩ := hA.2.2.2.2.2.2.2
  have h5 := hA.1
  have e1 := (hf a ha).1
  have e2 : bset (goB A a) (lS A) = bset (fun k => decide (k = a) || f a k) (lS A) := bset_c (fun k hk => by
    simp only [goB]
    rw [e1, bit_bset (by omega) (by omega)]
    simp [hk])
  rw [e2]
  show lLn A a ||| (1 <<< (nI a &&& 31)) = _
  rw [e1, bset_or1 ha]
theorem cnt_nI {f : Nat → Bool} : ∀ P, ∃ c, c ≤ P ∧ cnt f P = nI c ∧ (∀ a, a < P → f a = true → 0 < c)
  | 0 => ⟨0, Nat.le_refl _, rfl, fun a ha => absurd ha (by omega)⟩
  | P + 1 => by
    obtain ⟨c, hc, e, hp⟩ := cnt_nI (f := f) P
    cases hf : f P with
    | true => exact ⟨c + 1, by omega, by show cnt f P + b2i (f P) = _; rw [e, hf]; exact nI_1 c, fun a _ _ => by omega⟩
    | false =>
      refine ⟨c, by omega, by show cnt f P + b2i (f P) = _; rw [e, hf]; exact Int32.add_zero _, fun a ha h2 => ?_⟩
      by_cases e2 : a = P
      · subst e2
        rw [hf] at h2
        cases h2
      · exact hp a (by omega) h2
theorem wys_0 {A : LA} (hA : wfL A) {a c : Nat} (ha : a < lS A) (hc : c < lS A) : ¬ wys A a c = 0 := by
  obtain ⟨m, hm, e, hp⟩ := cnt_nI (f := goB A a) (lS A)
  obtain ⟨n, hn, e2, hp2⟩ := cnt_nI (f := goB A c) (lS A)
  have h1 := hp a ha (by simp [goB])
  have h2 := hp2 c hc (by simp [goB])
  have h5 := hA.1
  have hmn : m * n ≤ 5 * 5 := Nat.mul_le_mul (by omega) (by omega)
  have h0 : 0 < m * n := Nat.mul_pos h1 h2
  unfold wys
  rw [e, e2, pk_mul]
  intro e3
  have := nI_inj (b := 0) e3 (by omega) (by omega)
  omega
section P9
variable {E : EV} {d x : Nat} {F : FT} {G : GT} {b : Bool} {o : SG} {u v w : Int32}
theorem d4_Q {F F2 : FT} (h : FrD (fun k _ => decide (k = 4)) F F2) : FrD dQ F F2 := h.mo (fun k m e => by
  simp only [dQ, Bool.or_eq_false_iff, Bool.and_eq_false_iff, decide_eq_false_iff_not] at e
  simp only [decide_eq_false_iff_not]
  omega)
theorem d3_Q {F F2 : FT} (h : FrD (fun k _ => decide (k = 3) || decide (k = 4)) F F2) : FrD dQ F F2 := h.mo (fun k m e => by
  simp only [dQ, Bool.or_eq_false_iff, Bool.and_eq_false_iff, decide_eq_false_iff_not] at e
  simp only [Bool.or_eq_false_iff, decide_eq_false_iff_not]
  omega)
theorem eqR_u {N i : Nat} {f g : Nat → Int32} {v : Int32} (h : eqR N f g) : eqR N (upd f i v) (upd g i v) := by
  intro j hj
  simp only [upd]
  split
  · rfl
  · exact h j hj
theorem l_sh2 (hw : WF o) (hd : 50 ≤ d) {a c ii : Nat} (ha : a < lS (gA o)) (hc : c < lS (gA o)) (hii : ii < lS (gA o)) {R : Option PV} {QQ : FT → GT → Prop} : ∀ (r i : Nat) (iv : Int32) (nx : Nat → Int32) (F : FT), iv = nI i → i + r = lS (gA o) → CInv F G b o → eqR 25 (F 4 0) nx → (∀ F2, eqR 25 (F2 4 0) (lpN (shI (gA o) a c (u / wys (gA o) a c) ii) i r nx) → FrD (fun k _ => decide (k = 4)) F F2 → Td E d 123 159 [some (vr 1 0), some (vi (nI a)), some (vi (nI c)), some (vi u), some (vi (bset (goB (gA o) a) (lS (gA o)))), some (vi (bset (goB (gA o) c) (lS (gA o)))), some (vi (wys (gA o) a c)), some (vi (nI ii)), none] [] x F2 G b R QQ) → Td E d 123 102 [some (vr 1 0), some (vi (nI a)), some (vi (nI c)), some (vi u), some (vi (bset (goB (gA o) a) (lS (gA o)))), some (vi (bset (goB (gA o) c) (lS (gA o)))), some (vi (wys (gA o) a c)), some (vi (nI ii)), some (vi iv)] [] x F G b R (QQ) := by
  intro r
  induction r with
  | zero =>
    intro i iv nx F hiv hir h hX kk
    subst hiv
    have hi : i = lS (gA o) := by omega
    have hL := h.2.1
    have hA := hw.1
    have hS := h.2.2.2.1.1
    have hwS := hw.2.1.1
    have hP6 := hA.2.1
    have hS5 := hA.1
    refine d_run 2 rfl ?_
    refine d_gR k123_105 (by first | assumption | exact Nat.le_of_ble_eq_true rfl | omega) ⟨rfl, rfl, rfl⟩ (Rs_land _) ?_
    refine d_gI k123_108 (by first | assumption | exact lx2 _ | exact Nat.le_of_ble_eq_true rfl | omega | exact Nat.lt_of_lt_of_le (m := 2) (by omega) (Nat.le_of_ble_eq_true rfl)) ⟨rfl, rfl, Or.inl rfl⟩ ?_
    refine d_ic_ge k123_111 (fun h111 => ?_) (fun h111 => ?_)
    · refine d_dr111111110 ?_
      exact kk F hX FrD.rf
    · exact absurd (lt_nI h111 hL.1 (by omega) (by omega)) (by omega)
  | succ r ih =>
    intro i iv nx F hiv hir h hX kk
    subst hiv
    have hi : i < lS (gA o) := by omega
    have hL := h.2.1
    have hA := hw.1
    have hS := h.2.2.2.1.1
    have hwS := hw.2.1.1
    have hP6 := hA.2.1
    have hS5 := hA.1
    refine d_run 2 rfl ?_
    refine d_gR k123_105 (by first | assumption | exact Nat.le_of_ble_eq_true rfl | omega) ⟨rfl, rfl, rfl⟩ (Rs_land _) ?_
    refine d_gI k123_108 (by first | assumption | exact lx2 _ | exact Nat.le_of_ble_eq_true rfl | omega | exact Nat.lt_of_lt_of_le (m := 2) (by omega) (Nat.le_of_ble_eq_true rfl)) ⟨rfl, rfl, Or.inl rfl⟩ ?_
    refine d_ic_ge k123_111 (fun h111 => ?_) (fun h111 => ?_)
    · exact absurd (ge_nI h111 hL.1 (by omega) (by omega)) (by omega)
    · refine d_run 5 rfl ?_
      refine d_if_eq k123_121 (fun h121 => ?_) (fun h121 => ?_)
      · rw [bitz, bit_bset (by omega) (by omega)] at h121
        simp only [hii, decide_true, Bool.true_and] at h121
        refine d_run 2 rfl ?_
        first
        | (have e1 : shI (gA o) a c (u / wys (gA o) a c) ii i nx = upd nx (5 * ii + i) (nx (5 * ii + i) + u / wys (gA o) a c) := by simp only [shI]; rw [if_pos (by simp [h121, h131])]
           have f1 : FrD (fun k _ => decide (k = 4)) F (uF F 4 0 (5 * ii + i) (nx (5 * ii + i) + u / wys (gA o) a c)) := FrD.rf.u rfl
           refine ih (i + 1) _ (upd nx (5 * ii + i) (nx (5 * ii + i) + u / wys (gA o) a c)) _ (nI_1 i) (by omega) (h.fr (d4_Q f1) (fun _ _ => rfl)) (by rw [uF_r]; exact eqR_u hX) ?_
           intro F2 c2 f2
           refine kk F2 ?_ (f1.tr f2)
           simp only [lpN]
           rw [e1]
           exact c2)
        | (have e1 : shI (gA o) a c (u / wys (gA o) a c) ii i nx = nx := by simp only [shI]; rw [if_neg (by simp [*])]
           refine ih (i + 1) _ nx _ (nI_1 i) (by omega) h hX ?_
           intro F2 c2 f2
           refine kk F2 ?_ f2
           simp only [lpN]
           rw [e1]
           exact c2)
      · rw [bitz, bit_bset (by omega) (by omega), Bool.not_eq_false] at h121
        simp only [hii, decide_true, Bool.true_and] at h121
        refine d_run 5 rfl ?_
        refine d_if_eq k123_131 (fun h131 => ?_) (fun h131 => ?_)
        · rw [bitz, bit_bset (by omega) (by omega)] at h131
          simp only [hi, decide_true, Bool.true_and] at h131
          refine d_run 2 rfl ?_
          first
          | (have e1 : shI (gA o) a c (u / wys (gA o) a c) ii i nx = upd nx (5 * ii + i) (nx (5 * ii + i) + u / wys (gA o) a c) := by simp only [shI]; rw [if_pos (by simp [h121, h131])]
             have f1 : FrD (fun k _ => decide (k = 4)) F (uF F 4 0 (5 * ii + i) (nx (5 * ii + i) + u / wys (gA o) a c)) := FrD.rf.u rfl
             refine ih (i + 1) _ (upd nx (5 * ii + i) (nx (5 * ii + i) + u / wys (gA o) a c)) _ (nI_1 i) (by omega) (h.fr (d4_Q f1) (fun _ _ => rfl)) (by rw [uF_r]; exact eqR_u hX) ?_
             intro F2 c2 f2
             refine kk F2 ?_ (f1.tr f2)
             simp only [lpN]
             rw [e1]
             exact c2)
          | (have e1 : shI (gA o) a c (u / wys (gA o) a c) ii i nx = nx := by simp only [shI]; rw [if_neg (by simp [*])]
             refine ih (i + 1) _ nx _ (nI_1 i) (by omega) h hX ?_
             intro F2 c2 f2
             refine kk F2 ?_ f2
             simp only [lpN]
             rw [e1]
             exact c2)
        · rw [bitz, bit_bset (by omega) (by omega), Bool.not_eq_false] at h131
          simp only [hi, decide_true, Bool.true_and] at h131
          refine d_run 1 rfl ?_
          refine d_gR k123_135 (by first | assumption | exact Nat.le_of_ble_eq_true rfl | omega) ⟨rfl, rfl, rfl⟩ rfl ?_
          refine d_run 6 rfl ?_
          refine d_ia (N := 25) k123_146 (by decide) (by first | assumption | exact Nat.le_of_ble_eq_true rfl | omega) ⟨⟨rfl, rfl⟩, rfl, rfl⟩ (show 5 * ii + i < 25 by omega) (ix5 ii i) ?_
          rw [hX _ (show 5 * ii + i < 25 by omega)]
          refine d_run 2 rfl ?_
          refine d_p k123_150 (by decide) (if_neg (wys_0 hA ha hc)) ?_
          refine d_run 1 rfl ?_
          refine d_is (N := 25) k123_152 (by first | assumption | exact Nat.le_of_ble_eq_true rfl | omega) ⟨rfl, rfl⟩ (show 5 * ii + i < 25 by omega) (ix5 ii i) ?_
          refine d_run 2 rfl ?_
          first
          | (have e1 : shI (gA o) a c (u / wys (gA o) a c) ii i nx = upd nx (5 * ii + i) (nx (5 * ii + i) + u / wys (gA o) a c) := by simp only [shI]; rw [if_pos (by simp [h121, h131])]
             have f1 : FrD (fun k _ => decide (k = 4)) F (uF F 4 0 (5 * ii + i) (nx (5 * ii + i) + u / wys (gA o) a c)) := FrD.rf.u rfl
             refine ih (i + 1) _ (upd nx (5 * ii + i) (nx (5 * ii + i) + u / wys (gA o) a c)) _ (nI_1 i) (by omega) (h.fr (d4_Q f1) (fun _ _ => rfl)) (by rw [uF_r]; exact eqR_u hX) ?_
             intro F2 c2 f2
             refine kk F2 ?_ (f1.tr f2)
             simp only [lpN]
             rw [e1]
             exact c2)
          | (have e1 : shI (gA o) a c (u / wys (gA o) a c) ii i nx = nx := by simp only [shI]; rw [if_neg (by simp [*])]
             refine ih (i + 1) _ nx _ (nI_1 i) (by omega) h hX ?_
             intro F2 c2 f2
             refine kk F2 ?_ f2
             simp only [lpN]
             rw [e1]
             exact c2)
theorem l_sh1 (hw : WF o) (hd : 50 ≤ d) {a c : Nat} (ha : a < lS (gA o)) (hc : c < lS (gA o)) : ∀ (r i : Nat) (iv : Int32) (nx : Nat → Int32) (F : FT), iv = nI i → i + r = lS (gA o) → CInv F G b o → eqR 25 (F 4 0) nx → Td E d 123 87 [some (vr 1 0), some (vi (nI a)), some (vi (nI c)), some (vi u), some (vi (bset (goB (gA o) a) (lS (gA o)))), some (vi (bset (goB (gA o) c) (lS (gA o)))), some (vi (wys (gA o) a c)), some (vi iv), none] [] x F G b none (fun F2 G2 => G2 = G ∧ eqR 25 (F2 4 0) (lpN (fun i nx => lpN (shI (gA o) a c (u / wys (gA o) a c) i) 0 (lS (gA o)) nx) i r nx) ∧ FrD (fun k _ => decide (k = 4)) F F2) := by
  intro r
  induction r with
  | zero =>
    intro i iv nx F hiv hir h hX
    subst hiv
    have hi : i = lS (gA o) := by omega
    have hL := h.2.1
    have hA := hw.1
    have hS := h.2.2.2.1.1
    have hwS := hw.2.1.1
    have hP6 := hA.2.1
    have hS5 := hA.1
    refine d_run 2 rfl ?_
    refine d_gR k123_90 (by first | assumption | exact Nat.le_of_ble_eq_true rfl | omega) ⟨rfl, rfl, rfl⟩ (Rs_land _) ?_
    refine d_gI k123_93 (by first | assumption | exact lx2 _ | exact Nat.le_of_ble_eq_true rfl | omega | exact Nat.lt_of_lt_of_le (m := 2) (by omega) (Nat.le_of_ble_eq_true rfl)) ⟨rfl, rfl, Or.inl rfl⟩ ?_
    refine d_ic_ge k123_96 (fun h96 => ?_) (fun h96 => ?_)
    · refine d_ret k123_165 ?_
      exact ⟨rfl, hX, FrD.rf⟩
    · exact absurd (lt_nI h96 hL.1 (by omega) (by omega)) (by omega)
  | succ r ih =>
    intro i iv nx F hiv hir h hX
    subst hiv
    have hi : i < lS (gA o) := by omega
    have hL := h.2.1
    have hA := hw.1
    have hS := h.2.2.2.1.1
    have hwS := hw.2.1.1
    have hP6 := hA.2.1
    have hS5 := hA.1
    refine d_run 2 rfl ?_
    refine d_gR k123_90 (by first | assumption | exact Nat.le_of_ble_eq_true rfl | omega) ⟨rfl, rfl, rfl⟩ (Rs_land _) ?_
    refine d_gI k123_93 (by first | assumption | exact lx2 _ | exact Nat.le_of_ble_eq_true rfl | omega | exact Nat.lt_of_lt_of_le (m := 2) (by omega) (Nat.le_of_ble_eq_true rfl)) ⟨rfl, rfl, Or.inl rfl⟩ ?_
    refine d_ic_ge k123_96 (fun h96 => ?_) (fun h96 => ?_)
    · exact absurd (ge_nI h96 hL.1 (by omega) (by omega)) (by omega)
    · refine d_run 2 rfl ?_
      refine l_sh2 hw hd ha hc hi (lS (gA o)) 0 _ nx F rfl (by omega) h hX ?_
      intro F2 c2 f2
      refine d_run 2 rfl ?_
      exact td_mo (ih (i + 1) _ _ F2 (nI_1 i) (by omega) (h.fr (d4_Q f2) (fun _ _ => rfl)) c2) (fun F3 G3 e => ⟨e.1, e.2.1, f2.tr e.2.2⟩)
theorem a_shFrom (hw : WF o) (hd : 50 ≤ d) {a c : Nat} {sh nx : Nat → Int32} (ha : a < lS (gA o)) (hc : c < lS (gA o)) (h : CInv F G b o) (hs : eqR 25 (F 3 0) sh) (hX : eqR 25 (F 4 0) nx) : Td E d 123 0 [some (vr 1 0), some (vi (nI a)), some (vi (nI c)), none, none, none, none, none, none] [] x F G b none (fun F2 G2 => G2 = G ∧ eqR 25 (F2 4 0) (shF (gA o) (sh (5 * a + c)) a c nx) ∧ FrD (fun k _ => decide (k = 4)) F F2) := by
  have hL := h.2.1
  have hA := hw.1
  have hS := h.2.2.2.1.1
  have hwS := hw.2.1.1
  have hP6 := hA.2.1
  have hS5 := hA.1
  refine d_run 1 rfl ?_
  refine d_gR k123_1 (by first | assumption | exact Nat.le_of_ble_eq_true rfl | omega) ⟨rfl, rfl, rfl⟩ rfl ?_
  refine d_run 5 rfl ?_
  refine d_ia (N := 25) k123_9 (by decide) (by first | assumption | exact Nat.le_of_ble_eq_true rfl | omega) ⟨⟨rfl, rfl⟩, rfl, rfl⟩ (show 5 * a + c < 25 by omega) (ix5 a c) ?_
  rw [hs _ (show 5 * a + c < 25 by omega)]
  refine d_run 3 rfl ?_
  refine d_ic_ne k123_13 (fun h13 => ?_) (fun h13 => ?_)
  · have h13 := nI_ne h13
    rw [show shF (gA o) (sh (5 * a + c)) a c nx = (if sh (5 * a + c) = 0 then nx else shL (gA o) a c (sh (5 * a + c) / wys (gA o) a c) nx) by simp [shF, h13]]
    refine d_run 1 rfl ?_
    refine d_gR k123_32 (by first | assumption | exact Nat.le_of_ble_eq_true rfl | omega) ⟨rfl, rfl, rfl⟩ (Rs_land _) ?_
    refine d_gR k123_35 (by first | assumption | exact lx2 _ | exact Nat.le_of_ble_eq_true rfl | omega | exact Nat.lt_of_lt_of_le (m := 2) (by omega) (Nat.le_of_ble_eq_true rfl)) ⟨rfl, rfl, rfl⟩ rfl ?_
    refine d_run 1 rfl ?_
    refine d_ia (N := 5) k123_39 (by decide) (by first | assumption | exact lx2 _ | exact Nat.le_of_ble_eq_true rfl | omega | exact Nat.lt_of_lt_of_le (m := 2) (by omega) (Nat.le_of_ble_eq_true rfl)) ⟨⟨rfl, rfl⟩, rfl, rfl⟩ (by first | assumption | omega) rfl ?_
    rw [hL.ln a ha]
    refine d_run 6 rfl ?_
    refine d_gR k123_47 (by first | assumption | exact Nat.le_of_ble_eq_true rfl | omega) ⟨rfl, rfl, rfl⟩ (Rs_land _) ?_
    refine d_gR k123_50 (by first | assumption | exact lx2 _ | exact Nat.le_of_ble_eq_true rfl | omega | exact Nat.lt_of_lt_of_le (m := 2) (by omega) (Nat.le_of_ble_eq_true rfl)) ⟨rfl, rfl, rfl⟩ rfl ?_
    refine d_run 1 rfl ?_
    refine d_ia (N := 5) k123_54 (by decide) (by first | assumption | exact lx2 _ | exact Nat.le_of_ble_eq_true rfl | omega | exact Nat.lt_of_lt_of_le (m := 2) (by omega) (Nat.le_of_ble_eq_true rfl)) ⟨⟨rfl, rfl⟩, rfl, rfl⟩ (by first | assumption | omega) rfl ?_
    rw [hL.ln c hc]
    refine d_run 5 rfl ?_
    rw [nxO hA ha, nxO hA hc]
    refine d_run 1 rfl ?_
    refine d_callT 1 k123_63 (by omega) (Nat.le_of_ble_eq_true rfl) rfl (Nat.le_of_ble_eq_true rfl) (Nat.le_of_ble_eq_true rfl) recv_st rfl (c_bitsS (by omega)) rfl ?_
    refine d_run 1 rfl ?_
    refine d_callT 1 k123_68 (by omega) (Nat.le_of_ble_eq_true rfl) rfl (Nat.le_of_ble_eq_true rfl) (Nat.le_of_ble_eq_true rfl) recv_st rfl (c_bitsS (by omega)) rfl ?_
    refine d_run 3 rfl ?_
    refine d_if_eq k123_75 (fun h75 => ?_) (fun h75 => ?_)
    · rw [if_pos h75]
      refine d_ret k123_83 ?_
      exact ⟨rfl, hX, FrD.rf⟩
    · rw [if_neg h75]
      refine d_run 1 rfl ?_
      refine d_if_ne k123_80 (fun h80 => ?_) (fun h80 => ?_)
      · refine d_run 2 rfl ?_
        exact l_sh1 hw hd ha hc (lS (gA o)) 0 _ nx F rfl (by omega) h hX
      · exact absurd h80 (wys_0 hA ha hc)
  · have h13 := nI_inj h13 (by omega) (by omega)
    rw [show shF (gA o) (sh (5 * a + c)) a c nx = upd nx (5 * a + c) (nx (5 * a + c) + sh (5 * a + c)) by simp [shF, h13]]
    refine d_run 1 rfl ?_
    refine d_gR k123_17 (by first | assumption | exact Nat.le_of_ble_eq_true rfl | omega) ⟨rfl, rfl, rfl⟩ rfl ?_
    refine d_run 6 rfl ?_
    refine d_ia (N := 25) k123_26 (by decide) (by first | assumption | exact Nat.le_of_ble_eq_true rfl | omega) ⟨⟨rfl, rfl⟩, rfl, rfl⟩ (show 5 * a + c < 25 by omega) (ix5 a c) ?_
    rw [hX _ (show 5 * a + c < 25 by omega)]
    refine d_run 2 rfl ?_
    refine d_is (N := 25) k123_29 (by first | assumption | exact Nat.le_of_ble_eq_true rfl | omega) ⟨rfl, rfl⟩ (show 5 * a + c < 25 by omega) (ix5 a c) ?_
    refine d_ret k123_30 ?_
    exact ⟨rfl, by rw [uF_r]; exact eqR_u hX, FrD.rf.u rfl⟩
theorem l_so2 (hw : WF o) (hd : 60 ≤ d) {a : Nat} {sh : Nat → Int32} (ha : a < lS (gA o)) {R : Option PV} {QQ : FT → GT → Prop} : ∀ (r i : Nat) (iv : Int32) (nx : Nat → Int32) (F : FT), iv = nI i → i + r = lS (gA o) → CInv F G b o → eqR 25 (F 3 0) sh → eqR 25 (F 4 0) nx → (∀ F2, eqR 25 (F2 4 0) (lpN (fun c nx => shF (gA o) (sh (5 * a + c)) a c nx) i r nx) → FrD (fun k _ => decide (k = 4)) F F2 → Td E d 122 46 [some (vr 1 0), some (vi (nI a)), none] [] x F2 G b R QQ) → Td E d 122 23 [some (vr 1 0), some (vi (nI a)), some (vi iv)] [] x F G b R (QQ) := by
  intro r
  induction r with
  | zero =>
    intro i iv nx F hiv hir h hs hX kk
    subst hiv
    have hi : i = lS (gA o) := by omega
    have hL := h.2.1
    have hA := hw.1
    have hS := h.2.2.2.1.1
    have hwS := hw.2.1.1
    have hP6 := hA.2.1
    have hS5 := hA.1
    refine d_run 2 rfl ?_
    refine d_gR k122_25 (by first | assumption | exact Nat.le_of_ble_eq_true rfl | omega) ⟨rfl, rfl, rfl⟩ (Rs_land _) ?_
    refine d_gI k122_28 (by first | assumption | exact lx2 _ | exact Nat.le_of_ble_eq_true rfl | omega | exact Nat.lt_of_lt_of_le (m := 2) (by omega) (Nat.le_of_ble_eq_true rfl)) ⟨rfl, rfl, Or.inl rfl⟩ ?_
    refine d_ic_ge k122_31 (fun h31 => ?_) (fun h31 => ?_)
    · refine d_dr110 ?_
      exact kk F hX FrD.rf
    · exact absurd (lt_nI h31 hL.1 (by omega) (by omega)) (by omega)
  | succ r ih =>
    intro i iv nx F hiv hir h hs hX kk
    subst hiv
    have hi : i < lS (gA o) := by omega
    have hL := h.2.1
    have hA := hw.1
    have hS := h.2.2.2.1.1
    have hwS := hw.2.1.1
    have hP6 := hA.2.1
    have hS5 := hA.1
    refine d_run 2 rfl ?_
    refine d_gR k122_25 (by first | assumption | exact Nat.le_of_ble_eq_true rfl | omega) ⟨rfl, rfl, rfl⟩ (Rs_land _) ?_
    refine d_gI k122_28 (by first | assumption | exact lx2 _ | exact Nat.le_of_ble_eq_true rfl | omega | exact Nat.lt_of_lt_of_le (m := 2) (by omega) (Nat.le_of_ble_eq_true rfl)) ⟨rfl, rfl, Or.inl rfl⟩ ?_
    refine d_ic_ge k122_31 (fun h31 => ?_) (fun h31 => ?_)
    · exact absurd (ge_nI h31 hL.1 (by omega) (by omega)) (by omega)
    · refine d_run 3 rfl ?_
      refine d_call 3 k122_37 (by omega) (Nat.le_of_ble_eq_true rfl) rfl (Nat.le_of_ble_eq_true rfl) (Nat.le_of_ble_eq_true rfl) (recv_ok rfl (by first | assumption | exact Nat.le_of_ble_eq_true rfl | omega)) rfl (a_shFrom hw (by omega) ha hi h hs hX) rfl ?_
      rintro F1 G1 ⟨rfl, k1, f1⟩
      refine d_run 2 rfl ?_
      refine ih (i + 1) _ _ F1 (nI_1 i) (by omega) (h.fr (d4_Q f1) (fun _ _ => rfl)) (by rw [f1 3 0 rfl]; exact hs) k1 ?_
      intro F2 c2 f2
      exact kk F2 c2 (f1.tr f2)
theorem l_so1 (hw : WF o) (hd : 60 ≤ d) {sh : Nat → Int32} : ∀ (r i : Nat) (iv : Int32) (nx : Nat → Int32) (F : FT), iv = nI i → i + r = lS (gA o) → CInv F G b o → eqR 25 (F 3 0) sh → eqR 25 (F 4 0) nx → Td E d 122 10 [some (vr 1 0), some (vi iv), none] [] x F G b none (fun F2 G2 => G2 = G ∧ eqR 25 (F2 3 0) (lpN (fun a nx => lpN (fun c nx => shF (gA o) (sh (5 * a + c)) a c nx) 0 (lS (gA o)) nx) i r nx) ∧ FrD (fun k _ => decide (k = 3) || decide (k = 4)) F F2) := by
  intro r
  induction r with
  | zero =>
    intro i iv nx F hiv hir h hs hX
    subst hiv
    have hi : i = lS (gA o) := by omega
    have hL := h.2.1
    have hA := hw.1
    have hS := h.2.2.2.1.1
    have hwS := hw.2.1.1
    have hP6 := hA.2.1
    have hS5 := hA.1
    refine d_run 2 rfl ?_
    refine d_gR k122_12 (by first | assumption | exact Nat.le_of_ble_eq_true rfl | omega) ⟨rfl, rfl, rfl⟩ (Rs_land _) ?_
    refine d_gI k122_15 (by first | assumption | exact lx2 _ | exact Nat.le_of_ble_eq_true rfl | omega | exact Nat.lt_of_lt_of_le (m := 2) (by omega) (Nat.le_of_ble_eq_true rfl)) ⟨rfl, rfl, Or.inl rfl⟩ ?_
    refine d_ic_ge k122_18 (fun h18 => ?_) (fun h18 => ?_)
    · refine d_run 1 rfl ?_
      refine d_gR k122_53 (by first | assumption | exact Nat.le_of_ble_eq_true rfl | omega) ⟨rfl, rfl, rfl⟩ rfl ?_
      refine d_run 2 rfl ?_
      refine d_gR k122_58 (by first | assumption | exact Nat.le_of_ble_eq_true rfl | omega) ⟨rfl, rfl, rfl⟩ rfl ?_
      refine d_run 2 rfl ?_
      refine d_gR k122_63 (by first | assumption | exact Nat.le_of_ble_eq_true rfl | omega) ⟨rfl, rfl, rfl⟩ rfl ?_
      refine d_al k122_66 (by first | assumption | exact Nat.le_of_ble_eq_true rfl | omega) ⟨⟨rfl, rfl⟩, ⟨Nat.le_of_ble_eq_true rfl, Nat.le_of_ble_eq_true rfl⟩, rfl⟩ ?_
      refine d_cpy (mm := 25) k122_67 (by omega) (Nat.le_of_ble_eq_true rfl) ⟨⟨rfl, rfl⟩, rfl, rfl⟩ (by first | assumption | exact Nat.le_of_ble_eq_true rfl | omega) (by first | assumption | exact Nat.le_of_ble_eq_true rfl | omega) (Nat.le_of_ble_eq_true rfl) (Nat.le_of_ble_eq_true rfl) rfl rfl rfl ?_
      refine d_ret k122_70 ?_
      exact ⟨rfl, fun j hj => by rw [cF_at hj]; exact hX j hj, FrD.rf.c rfl⟩
    · exact absurd (lt_nI h18 hL.1 (by omega) (by omega)) (by omega)
  | succ r ih =>
    intro i iv nx F hiv hir h hs hX
    subst hiv
    have hi : i < lS (gA o) := by omega
    have hL := h.2.1
    have hA := hw.1
    have hS := h.2.2.2.1.1
    have hwS := hw.2.1.1
    have hP6 := hA.2.1
    have hS5 := hA.1
    refine d_run 2 rfl ?_
    refine d_gR k122_12 (by first | assumption | exact Nat.le_of_ble_eq_true rfl | omega) ⟨rfl, rfl, rfl⟩ (Rs_land _) ?_
    refine d_gI k122_15 (by first | assumption | exact lx2 _ | exact Nat.le_of_ble_eq_true rfl | omega | exact Nat.lt_of_lt_of_le (m := 2) (by omega) (Nat.le_of_ble_eq_true rfl)) ⟨rfl, rfl, Or.inl rfl⟩ ?_
    refine d_ic_ge k122_18 (fun h18 => ?_) (fun h18 => ?_)
    · exact absurd (ge_nI h18 hL.1 (by omega) (by omega)) (by omega)
    · refine d_run 2 rfl ?_
      refine l_so2 hw hd hi (lS (gA o)) 0 _ nx F rfl (by omega) h hs hX ?_
      intro F2 c2 f2
      refine d_run 2 rfl ?_
      exact td_mo (ih (i + 1) _ _ F2 (nI_1 i) (by omega) (h.fr (d4_Q f2) (fun _ _ => rfl)) (by rw [f2 3 0 rfl]; exact hs) c2) (fun F3 G3 e => ⟨e.1, e.2.1, (f2.mo (fun k m e => by simp only [Bool.or_eq_false_iff] at e; exact e.2)).tr e.2.2⟩)
theorem a_shOut (hw : WF o) (hd : 60 ≤ d) {sh : Nat → Int32} (h : CInv F G b o) (hs : eqR 25 (F 3 0) sh) : Td E d 122 0 [some (vr 1 0), none, none] [] x F G b none (fun F2 G2 => G2 = G ∧ eqR 25 (F2 3 0) (shO (gA o) sh) ∧ FrD (fun k _ => decide (k = 3) || decide (k = 4)) F F2) := by
  refine d_run 1 rfl ?_
  refine d_gR k122_1 (by first | assumption | exact Nat.le_of_ble_eq_true rfl | omega) ⟨rfl, rfl, rfl⟩ rfl ?_
  refine d_run 1 rfl ?_
  refine d_callT 2 k122_5 (by omega) (Nat.le_of_ble_eq_true rfl) rfl (Nat.le_of_ble_eq_true rfl) (Nat.le_of_ble_eq_true rfl) recv_st rfl (c_fill4 (by omega)) rfl ?_
  refine d_run 2 rfl ?_
  have f0 : FrD (fun k _ => decide (k = 4)) F (srow F 4 0 (fil (F 4 0) 25 0)) := FrD.rf.sr rfl
  refine td_mo (l_so1 hw hd (lS (gA o)) 0 _ (fun _ => 0) _ rfl (by omega) (h.fr (d4_Q f0) (fun _ _ => rfl)) (by rw [f0 3 0 rfl]; exact hs) (fun j hj => by simp [srow, fil, hj])) (fun F3 G3 e => ⟨e.1, e.2.1, (f0.mo (fun k m e => by simp only [Bool.or_eq_false_iff] at e; exact e.2)).tr e.2.2⟩)
theorem l_meet2 (h : CInv F G b o) (hw : WF o) (hd : 100 ≤ d) {p q n a c : Nat} {sh : Nat → Int32} (hs : eqR 25 (F 3 0) sh) : ∀ (r i : Nat) (iv acc : Int32), iv = nI i → i + r = 5 → acc = isum (fun k => sh (6 * k)) i → Td E d 107 106 [some (vr 1 0), some (vi (nI p)), some (vi (nI q)), some (vi (nI n)), some (vi (nI a)), some (vi (nI c)), some (vi acc), some (vi iv)] [] x F G b (some (vi (isum (fun k => sh (6 * k)) 5))) (CPost b o F G) := by
  intro r
  induction r with
  | zero =>
    intro i iv acc hiv hir hacc
    subst hiv
    refine d_run 2 rfl ?_
    refine d_ic_ge k107_109 (fun h109 => ?_) (fun h109 => ?_)
    · refine d_run 1 rfl ?_
      refine d_ir k107_137 rfl (by rw [hacc, show i = 5 by omega]) ?_
      exact CPost.q h FrD.rf
    · exact absurd (lt_nI h109 (b := 5) rfl (by omega) (by omega)) (by omega)
  | succ r ih =>
    intro i iv acc hiv hir hacc
    subst hiv
    refine d_run 2 rfl ?_
    refine d_ic_ge k107_109 (fun h109 => ?_) (fun h109 => ?_)
    · exact absurd (ge_nI h109 (b := 5) rfl (by omega) (by omega)) (by omega)
    · refine d_run 2 rfl ?_
      refine d_gR k107_115 (by first | assumption | exact Nat.le_of_ble_eq_true rfl | omega) ⟨rfl, rfl, rfl⟩ rfl ?_
      refine d_run 5 rfl ?_
      refine d_ia (N := 25) k107_125 (by decide) (by first | assumption | exact Nat.le_of_ble_eq_true rfl | omega) ⟨⟨rfl, rfl⟩, rfl, rfl⟩ (show 5 * i + i < 25 by omega) (ix5 i i) ?_
      rw [hs _ (show 5 * i + i < 25 by omega)]
      refine d_run 4 rfl ?_
      refine ih (i + 1) _ _ (nI_1 i) (by omega) ?_
      rw [hacc]
      simp only [isum, ibop]
      rw [show 5 * i + i = 6 * i by omega]
theorem l_meet1 (hw : WF o) (hd : 100 ≤ d) {p q n a c : Nat} (hn : n ≤ 6) : ∀ (r i : Nat) (iv : Int32) (sh : Nat → Int32) (F : FT), iv = nI i → i + r = n → CInv F G b o → eqR 25 (F 3 0) sh → Td E d 107 84 [some (vr 1 0), some (vi (nI p)), some (vi (nI q)), some (vi (nI n)), some (vi (nI a)), some (vi (nI c)), some (vi iv), none] [] x F G b (some (vi (isum (fun k => lpN (fun _ sh => shO (gA o) sh) i r sh (6 * k)) 5))) (CPost b o F G) := by
  intro r
  induction r with
  | zero =>
    intro i iv sh F hiv hir h hs
    subst hiv
    have hi : i = n := by omega
    refine d_run 2 rfl ?_
    refine d_ic_ge k107_87 (fun h87 => ?_) (fun h87 => ?_)
    · refine d_run 4 rfl ?_
      exact l_meet2 h hw hd hs 5 0 _ _ rfl (by omega) rfl
    · exact absurd (lt_nI h87 rfl (by omega) (by omega)) (by omega)
  | succ r ih =>
    intro i iv sh F hiv hir h hs
    subst hiv
    have hi : i < n := by omega
    refine d_run 2 rfl ?_
    refine d_ic_ge k107_87 (fun h87 => ?_) (fun h87 => ?_)
    · exact absurd (ge_nI h87 rfl (by omega) (by omega)) (by omega)
    · refine d_run 1 rfl ?_
      refine d_call 1 k107_91 (by omega) (Nat.le_of_ble_eq_true rfl) rfl (Nat.le_of_ble_eq_true rfl) (Nat.le_of_ble_eq_true rfl) (recv_ok rfl (by first | assumption | exact Nat.le_of_ble_eq_true rfl | omega)) rfl (a_shOut hw (by omega) h hs) rfl ?_
      rintro F1 G1 ⟨rfl, k1, f1⟩
      refine d_run 2 rfl ?_
      exact td_mo (ih (i + 1) _ _ F1 (nI_1 i) (by omega) (h.fr (d3_Q f1) (fun _ _ => rfl)) k1) (fun F2 G2 e => e.q2 (d3_Q f1))
theorem a_meet (h : CInv F G b o) (hw : WF o) (hd : 100 ≤ d) : Td E d 107 0 [some (vr 1 0), some (vi u), some (vi v), some (vi w), none, none, none, none] [] x F G b (some (vi (q_meet o u v w))) (CPost b (o) F G) := by
  have hL := h.2.1
  have hA := hw.1
  have hS := h.2.2.2.1.1
  have hwS := hw.2.1.1
  have hP6 := hA.2.1
  have hS5 := hA.1
  by_cases hN : isTwo u v (lP (gA o)) = true
  · obtain ⟨p, q, hp, hq, hpq, rfl, rfl⟩ := isTwo_ex hN (by omega)
    by_cases hM : isW2 w 1 6 = true
    · obtain ⟨n, hn, rfl⟩ := isW2_ex (H := 6) hM ⟨by decide, rfl, by decide⟩
      obtain ⟨a, ha, ea⟩ := hwS.1 p hp
      obtain ⟨c, hc, ec⟩ := hwS.1 q hq
      by_cases hac : a = c
      · have hg : g_meet o (nI p) (nI q) (nI n) = false := by simp [g_meet, ix_nI (show p < 100000 by omega), ix_nI (show q < 100000 by omega), ea, ec, hac]
        rw [show q_meet o (nI p) (nI q) (nI n) = -1 by simp [q_meet, hg]]
        refine d_run 3 rfl ?_
        refine d_callT 3 k107_3 (by omega) (Nat.le_of_ble_eq_true rfl) rfl (Nat.le_of_ble_eq_true rfl) (Nat.le_of_ble_eq_true rfl) (recv_ok rfl (by first | assumption | exact Nat.le_of_ble_eq_true rfl | omega)) rfl (a_isTwo hL (by omega)) rfl ?_
        rw [hN]
        refine d_if_eq k107_6 (fun h6 => ?_) (fun h6 => ?_)
        · exact absurd h6 (by decide)
        · refine d_run 3 rfl ?_
          refine d_callT 3 k107_13 (by omega) (Nat.le_of_ble_eq_true rfl) rfl (Nat.le_of_ble_eq_true rfl) (Nat.le_of_ble_eq_true rfl) recv_st rfl c_within rfl ?_
          rw [hM]
          refine d_if_ne k107_16 (fun h16 => ?_) (fun h16 => ?_)
          · refine d_run 1 rfl ?_
            refine d_gR k107_22 (by first | assumption | exact Nat.le_of_ble_eq_true rfl | omega) ⟨rfl, rfl, rfl⟩ rfl ?_
            refine d_gR k107_25 (by first | assumption | exact Nat.le_of_ble_eq_true rfl | omega | exact Nat.lt_of_lt_of_le (m := 5) (by omega) (Nat.le_of_ble_eq_true rfl)) ⟨rfl, rfl, rfl⟩ rfl ?_
            refine d_gR k107_28 (by first | assumption | exact Nat.le_of_ble_eq_true rfl | omega | exact Nat.lt_of_lt_of_le (m := 27) (by omega) (Nat.le_of_ble_eq_true rfl)) ⟨rfl, rfl, rfl⟩ rfl ?_
            refine d_run 1 rfl ?_
            refine d_ia (N := 6) k107_32 (by decide) (by first | assumption | exact Nat.le_of_ble_eq_true rfl | omega | exact Nat.lt_of_lt_of_le (m := 27) (by omega) (Nat.le_of_ble_eq_true rfl)) ⟨⟨rfl, rfl⟩, rfl, rfl⟩ (by first | assumption | omega) rfl ?_
            rw [show F 26 0 p = nI a from (hS.1 p hp).trans ea]
            refine d_run 2 rfl ?_
            refine d_gR k107_36 (by first | assumption | exact Nat.le_of_ble_eq_true rfl | omega) ⟨rfl, rfl, rfl⟩ rfl ?_
            refine d_gR k107_39 (by first | assumption | exact Nat.le_of_ble_eq_true rfl | omega | exact Nat.lt_of_lt_of_le (m := 5) (by omega) (Nat.le_of_ble_eq_true rfl)) ⟨rfl, rfl, rfl⟩ rfl ?_
            refine d_gR k107_42 (by first | assumption | exact Nat.le_of_ble_eq_true rfl | omega | exact Nat.lt_of_lt_of_le (m := 27) (by omega) (Nat.le_of_ble_eq_true rfl)) ⟨rfl, rfl, rfl⟩ rfl ?_
            refine d_run 1 rfl ?_
            refine d_ia (N := 6) k107_46 (by decide) (by first | assumption | exact Nat.le_of_ble_eq_true rfl | omega | exact Nat.lt_of_lt_of_le (m := 27) (by omega) (Nat.le_of_ble_eq_true rfl)) ⟨⟨rfl, rfl⟩, rfl, rfl⟩ (by first | assumption | omega) rfl ?_
            rw [show F 26 0 q = nI c from (hS.1 q hq).trans ec]
            refine d_run 3 rfl ?_
            refine d_ic_ne k107_53 (fun h53 => ?_) (fun h53 => ?_)
            · exact absurd (by rw [hac]) h53
            · refine d_run 1 rfl ?_
              refine d_ir k107_57 rfl (by rfl) ?_
              exact CPost.q h FrD.rf
          · exact absurd h16 (by decide)
      · have hg : g_meet o (nI p) (nI q) (nI n) = true := by simp [g_meet, hN, hM, ix_nI (show p < 100000 by omega), ix_nI (show q < 100000 by omega), ea, ec]; exact fun e => hac (nI_inj e (by omega) (by omega))
        rw [show q_meet o (nI p) (nI q) (nI n) = isum (fun k => shN (gA o) n (upd (fun _ => 0) (5 * a + c) 1000000) (6 * k)) 5 by simp only [q_meet]; rw [if_pos hg]; simp only [ix_nI (show p < 100000 by omega), ix_nI (show q < 100000 by omega), ea, ec, ix_nI (show a < 100000 by omega), ix_nI (show c < 100000 by omega), ix_nI (show n < 100000 by omega)]]
        refine d_run 3 rfl ?_
        refine d_callT 3 k107_3 (by omega) (Nat.le_of_ble_eq_true rfl) rfl (Nat.le_of_ble_eq_true rfl) (Nat.le_of_ble_eq_true rfl) (recv_ok rfl (by first | assumption | exact Nat.le_of_ble_eq_true rfl | omega)) rfl (a_isTwo hL (by omega)) rfl ?_
        rw [hN]
        refine d_if_eq k107_6 (fun h6 => ?_) (fun h6 => ?_)
        · exact absurd h6 (by decide)
        · refine d_run 3 rfl ?_
          refine d_callT 3 k107_13 (by omega) (Nat.le_of_ble_eq_true rfl) rfl (Nat.le_of_ble_eq_true rfl) (Nat.le_of_ble_eq_true rfl) recv_st rfl c_within rfl ?_
          rw [hM]
          refine d_if_ne k107_16 (fun h16 => ?_) (fun h16 => ?_)
          · refine d_run 1 rfl ?_
            refine d_gR k107_22 (by first | assumption | exact Nat.le_of_ble_eq_true rfl | omega) ⟨rfl, rfl, rfl⟩ rfl ?_
            refine d_gR k107_25 (by first | assumption | exact Nat.le_of_ble_eq_true rfl | omega | exact Nat.lt_of_lt_of_le (m := 5) (by omega) (Nat.le_of_ble_eq_true rfl)) ⟨rfl, rfl, rfl⟩ rfl ?_
            refine d_gR k107_28 (by first | assumption | exact Nat.le_of_ble_eq_true rfl | omega | exact Nat.lt_of_lt_of_le (m := 27) (by omega) (Nat.le_of_ble_eq_true rfl)) ⟨rfl, rfl, rfl⟩ rfl ?_
            refine d_run 1 rfl ?_
            refine d_ia (N := 6) k107_32 (by decide) (by first | assumption | exact Nat.le_of_ble_eq_true rfl | omega | exact Nat.lt_of_lt_of_le (m := 27) (by omega) (Nat.le_of_ble_eq_true rfl)) ⟨⟨rfl, rfl⟩, rfl, rfl⟩ (by first | assumption | omega) rfl ?_
            rw [show F 26 0 p = nI a from (hS.1 p hp).trans ea]
            refine d_run 2 rfl ?_
            refine d_gR k107_36 (by first | assumption | exact Nat.le_of_ble_eq_true rfl | omega) ⟨rfl, rfl, rfl⟩ rfl ?_
            refine d_gR k107_39 (by first | assumption | exact Nat.le_of_ble_eq_true rfl | omega | exact Nat.lt_of_lt_of_le (m := 5) (by omega) (Nat.le_of_ble_eq_true rfl)) ⟨rfl, rfl, rfl⟩ rfl ?_
            refine d_gR k107_42 (by first | assumption | exact Nat.le_of_ble_eq_true rfl | omega | exact Nat.lt_of_lt_of_le (m := 27) (by omega) (Nat.le_of_ble_eq_true rfl)) ⟨rfl, rfl, rfl⟩ rfl ?_
            refine d_run 1 rfl ?_
            refine d_ia (N := 6) k107_46 (by decide) (by first | assumption | exact Nat.le_of_ble_eq_true rfl | omega | exact Nat.lt_of_lt_of_le (m := 27) (by omega) (Nat.le_of_ble_eq_true rfl)) ⟨⟨rfl, rfl⟩, rfl, rfl⟩ (by first | assumption | omega) rfl ?_
            rw [show F 26 0 q = nI c from (hS.1 q hq).trans ec]
            refine d_run 3 rfl ?_
            refine d_ic_ne k107_53 (fun h53 => ?_) (fun h53 => ?_)
            · refine d_run 1 rfl ?_
              refine d_gR k107_59 (by first | assumption | exact Nat.le_of_ble_eq_true rfl | omega) ⟨rfl, rfl, rfl⟩ rfl ?_
              refine d_run 1 rfl ?_
              refine d_callT 2 k107_63 (by omega) (Nat.le_of_ble_eq_true rfl) rfl (Nat.le_of_ble_eq_true rfl) (Nat.le_of_ble_eq_true rfl) recv_st rfl (c_fill3 (by omega)) rfl ?_
              refine d_run 1 rfl ?_
              refine d_gR k107_67 (by first | assumption | exact Nat.le_of_ble_eq_true rfl | omega) ⟨rfl, rfl, rfl⟩ rfl ?_
              refine d_run 6 rfl ?_
              refine d_is (N := 25) k107_80 (by first | assumption | exact Nat.le_of_ble_eq_true rfl | omega) ⟨rfl, rfl⟩ (show 5 * a + c < 25 by omega) (ix5 a c) ?_
              refine d_run 2 rfl ?_
              have f0 : FrD (fun k _ => decide (k = 3) || decide (k = 4)) F (uF (srow F 3 0 (fil (F 3 0) 25 0)) 3 0 (5 * a + c) 1000000) := (FrD.rf.sr rfl).u rfl
              refine td_mo (l_meet1 hw hd hn n 0 _ (upd (fun _ => 0) (5 * a + c) 1000000) _ rfl (by omega) (h.fr (d3_Q f0) (fun _ _ => rfl)) ?_) (fun F2 G2 e => e.q2 (d3_Q f0))
              rw [uF_r]
              exact eqR_u (fun j hj => by simp [srow, fil, hj])
            · exact absurd (nI_inj h53 (by omega) (by omega)) hac
          · exact absurd h16 (by decide)
    · have hM : isW2 w 1 6 = false := by simpa using hM
      rw [show q_meet o (nI p) (nI q) w = -1 by simp [q_meet, g_meet, hM]]
      refine d_run 3 rfl ?_
      refine d_callT 3 k107_3 (by omega) (Nat.le_of_ble_eq_true rfl) rfl (Nat.le_of_ble_eq_true rfl) (Nat.le_of_ble_eq_true rfl) (recv_ok rfl (by first | assumption | exact Nat.le_of_ble_eq_true rfl | omega)) rfl (a_isTwo hL (by omega)) rfl ?_
      rw [hN]
      refine d_if_eq k107_6 (fun h6 => ?_) (fun h6 => ?_)
      · exact absurd h6 (by decide)
      · refine d_run 3 rfl ?_
        refine d_callT 3 k107_13 (by omega) (Nat.le_of_ble_eq_true rfl) rfl (Nat.le_of_ble_eq_true rfl) (Nat.le_of_ble_eq_true rfl) recv_st rfl c_within rfl ?_
        rw [hM]
        refine d_if_ne k107_16 (fun h16 => ?_) (fun h16 => ?_)
        · exact absurd h16 (by decide)
        · refine d_run 1 rfl ?_
          refine d_ir k107_20 rfl (by rfl) ?_
          exact CPost.q h FrD.rf
  · have hN : isTwo u v (lP (gA o)) = false := by simpa using hN
    rw [show q_meet o u v w = -1 by simp [q_meet, g_meet, hN]]
    refine d_run 3 rfl ?_
    refine d_callT 3 k107_3 (by omega) (Nat.le_of_ble_eq_true rfl) rfl (Nat.le_of_ble_eq_true rfl) (Nat.le_of_ble_eq_true rfl) (recv_ok rfl (by first | assumption | exact Nat.le_of_ble_eq_true rfl | omega)) rfl (a_isTwo hL (by omega)) rfl ?_
    rw [hN]
    refine d_if_eq k107_6 (fun h6 => ?_) (fun h6 => ?_)
    · refine d_run 1 rfl ?_
      refine d_ir k107_20 rfl (by rfl) ?_
      exact CPost.q h FrD.rf
    · exact absurd h6 (by decide)
end P9
