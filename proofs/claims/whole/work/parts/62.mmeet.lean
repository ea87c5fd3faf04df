theorem d_dr11110000 {E : EV} {d m pc x : Nat} {st : List PV} {F : FT} {G : GT} {b : Bool} {r : Option PV} {Q : FT → GT → Prop} {a0 a1 a2 a3 a4 a5 a6 a7 : Option PV} (kk : Td E d m pc [a0, a1, a2, a3, none, none, none, none] st x F G b r Q) : Td E d m pc [a0, a1, a2, a3, a4, a5, a6, a7] st x F G b r Q := d_le (by simp [leL]) kk
theorem d_dr11111100 {E : EV} {d m pc x : Nat} {st : List PV} {F : FT} {G : GT} {b : Bool} {r : Option PV} {Q : FT → GT → Prop} {a0 a1 a2 a3 a4 a5 a6 a7 : Option PV} (kk : Td E d m pc [a0, a1, a2, a3, a4, a5, none, none] st x F G b r Q) : Td E d m pc [a0, a1, a2, a3, a4, a5, a6, a7] st x F G b r Q := d_le (by simp [leL]) kk
/-! MEET OF THE REFERENCE -/
theorem lpN_rel {σ τ : Type} {f : Nat → σ → σ} {h : Nat → τ → τ} {I : Nat → σ → τ → Prop} : ∀ (k i : Nat) (s : σ) (t : τ), (∀ j s t, i ≤ j → j < i + k → I j s t → I (j + 1) (f j s) (h j t)) → I i s t → I (i + k) (lpN f i k s) (lpN h i k t)
  | 0, _, _, _, _, h0 => h0
  | k + 1, i, s, t, hf, h0 => by
    have := lpN_rel (I := I) k (i + 1) (f i s) (h i t) (fun j s t a c => hf j s t (by omega) (by omega)) (hf i s t (by omega) (by omega) h0)
    rw [show i + 1 + k = i + (k + 1) by omega] at this
    exact this
def rsF (A : LA) (sh : Nat → Int32) (a c : Nat) (nx : Nat → Int32) : Nat → Int32 := if a = c then nx else shL A a c (sh (5 * a + c) / wys A a c) nx
def rsO (A : LA) (sh : Nat → Int32) : Nat → Int32 := lpN (fun a nx => lpN (fun c nx => rsF A sh a c nx) 0 (lS A) nx) 0 (lS A) (fun _ => 0)
def mRR (V : Nat → Bool) (cs nc nr : Nat → Int32) : Prop := ∀ k, k < 25 → nc k = nr k + (if V k = true then cs k else 0)
theorem shI_rel {A : LA} {a c i j : Nat} {m : Int32} {V : Nat → Bool} {cs nc nr : Nat → Int32} (h : mRR V cs nc nr) (hi : i < 5) (hj : j < 5) : mRR V cs (shI A a c m i j nc) (shI A a c m i j nr) := by
  unfold shI
  split
  · intro k hk
    simp only [upd]
    split
    · rename_i e
      rw [h (5 * i + j) (by omega), ← e]
      rw [Int32.add_assoc, Int32.add_comm _ m, ← Int32.add_assoc]
    · exact h k hk
  · exact h
theorem shL_rel {A : LA} (h5 : lS A ≤ 5) {a c : Nat} {m : Int32} {V : Nat → Bool} {cs nc nr : Nat → Int32} (h : mRR V cs nc nr) : mRR V cs (shL A a c m nc) (shL A a c m nr) := by
  unfold shL
  refine lpN_rel (I := fun _ s t => mRR V cs s t) _ _ _ _ (fun i s t _ hi hr => ?_) h
  exact lpN_rel (I := fun _ s t => mRR V cs s t) _ _ _ _ (fun j s t _ hj hr => shI_rel hr (by omega) (by omega)) hr
theorem shI_z {A : LA} {a c i j : Nat} {nx : Nat → Int32} : shI A a c 0 i j nx = nx := by
  unfold shI
  split
  · funext k
    simp only [upd]
    split
    · rename_i e
      rw [e, Int32.add_zero]
    · rfl
  · rfl
theorem lpN_id {σ : Type} {f : Nat → σ → σ} (h : ∀ j s, f j s = s) : ∀ (k i : Nat) (s : σ), lpN f i k s = s
  | 0, _, _ => rfl
  | k + 1, i, s => by
    simp only [lpN]
    rw [h i s]
    exact lpN_id h k (i + 1) s
theorem shL_z {A : LA} {a c : Nat} {nx : Nat → Int32} : shL A a c 0 nx = nx := by
  unfold shL
  exact lpN_id (fun i s => lpN_id (fun j s => shI_z) _ _ _) _ _ _
def mV (a c k : Nat) : Bool := decide (k % 6 = 0) && (decide (k / 6 < a) || (decide (k / 6 = a) && decide (a < c)))
theorem mV_off {a c a2 c2 k : Nat} (h : k % 6 = 0 → ((k / 6 < a ∨ (k / 6 = a ∧ a < c)) ↔ (k / 6 < a2 ∨ (k / 6 = a2 ∧ a2 < c2)))) : mV a c k = mV a2 c2 k := by
  have e : (mV a c k = true) = (mV a2 c2 k = true) := by
    simp only [mV, Bool.and_eq_true, Bool.or_eq_true, decide_eq_true_eq]
    apply propext
    constructor
    · intro ⟨h1, h2⟩; exact ⟨h1, (h h1).mp h2⟩
    · intro ⟨h1, h2⟩; exact ⟨h1, (h h1).mpr h2⟩
  cases h1 : mV a c k <;> cases h2 : mV a2 c2 k <;> simp_all
theorem mRR_V {V W : Nat → Bool} {cs nc nr : Nat → Int32} (h : mRR V cs nc nr) (e : ∀ k, k < 25 → V k = W k) : mRR W cs nc nr := fun k hk => by rw [← e k hk]; exact h k hk
theorem rsF_rel {A : LA} (h5 : lS A ≤ 5) {a c : Nat} {cs sh nc nr : Nat → Int32} (ha : a < lS A) (hc : c < lS A) (he : ∀ a c, a < 5 → c < 5 → a ≠ c → sh (5 * a + c) = cs (5 * a + c)) (h : mRR (mV a c) cs nc nr) : mRR (mV a (c + 1)) cs (shF A (cs (5 * a + c)) a c nc) (rsF A sh a c nr) := by
  unfold shF rsF
  by_cases e : a = c
  · rw [if_pos e, if_pos e]
    subst e
    intro k hk
    simp only [upd]
    by_cases ek : k = 5 * a + a
    · rw [if_pos ek, h (5 * a + a) (by omega), ek]
      have e1 : mV a a (5 * a + a) = false := by
        simp only [mV, Bool.and_eq_false_iff, Bool.or_eq_false_iff, decide_eq_false_iff_not]
        omega
      have e2 : mV a (a + 1) (5 * a + a) = true := by
        simp only [mV, Bool.and_eq_true, Bool.or_eq_true, decide_eq_true_eq]
        omega
      rw [e1, e2]
      simp
    · rw [if_neg ek, h k hk]
      rw [mV_off (a := a) (c := a) (a2 := a) (c2 := a + 1) (k := k) (by omega)]
  · rw [if_neg e, if_neg e]
    have hV : mRR (mV a (c + 1)) cs nc nr := mRR_V h (fun k hk => mV_off (by omega))
    rw [he a c (by omega) (by omega) e]
    by_cases e0 : cs (5 * a + c) = 0
    · rw [if_pos e0, e0, show (0 : Int32) / wys A a c = 0 from Int32.zero_div, shL_z]
      exact hV
    · rw [if_neg e0]
      exact shL_rel h5 hV
theorem rsO_rel {A : LA} (h5 : lS A ≤ 5) {cs sh : Nat → Int32} (he : ∀ a c, a < 5 → c < 5 → a ≠ c → sh (5 * a + c) = cs (5 * a + c)) : mRR (mV (lS A) 0) cs (shO A cs) (rsO A sh) := by
  have h0 : mRR (mV 0 0) cs (fun _ => 0) (fun _ => 0) := fun k _ => by
    rw [show mV 0 0 k = false by simp [mV]]
    rfl
  have := lpN_rel (I := fun a s t => mRR (mV a 0) cs s t) (lS A) 0 (fun _ => 0) (fun _ => 0) (f := fun a nx => lpN (fun c nx => shF A (cs (5 * a + c)) a c nx) 0 (lS A) nx) (h := fun a nx => lpN (fun c nx => rsF A sh a c nx) 0 (lS A) nx) (fun a s t _ ha hr => by
    have h1 := lpN_rel (I := fun c s t => mRR (mV a c) cs s t) (lS A) 0 s t (f := fun c nx => shF A (cs (5 * a + c)) a c nx) (h := fun c nx => rsF A sh a c nx) (fun c s t _ hc hr => rsF_rel h5 (by omega) (by omega) he hr) hr
    refine mRR_V h1 (fun k hk => mV_off ?_)
    omega) h0
  rw [Nat.zero_add] at this
  exact this
/-- nothing beyond the streets -/
def mZ (S : Nat) (nx : Nat → Int32) : Prop := ∀ z, S ≤ z → z < 5 → nx (6 * z) = 0
theorem shL_Z {A : LA} (h5 : lS A ≤ 5) {a c : Nat} {m : Int32} {nx : Nat → Int32} (h : mZ (lS A) nx) : mZ (lS A) (shL A a c m nx) := by
  unfold shL
  refine lpN_pr (I := mZ (lS A)) _ _ _ (fun i s _ hi hs => ?_) h
  refine lpN_pr (I := mZ (lS A)) _ _ _ (fun j s _ hj hs => ?_) hs
  unfold shI
  split
  · intro z h1 h2
    simp only [upd]
    rw [if_neg (by omega)]
    exact hs z h1 h2
  · exact hs
theorem rsO_Z {A : LA} (h5 : lS A ≤ 5) {sh : Nat → Int32} : mZ (lS A) (rsO A sh) := by
  unfold rsO
  refine lpN_pr (I := mZ (lS A)) _ _ _ (fun i s _ hi hs => ?_) (fun _ _ _ => rfl)
  refine lpN_pr (I := mZ (lS A)) _ _ _ (fun j s _ hj hs => ?_) hs
  unfold rsF
  split
  · exact hs
  · exact shL_Z h5 hs
theorem isum_ad {f h : Nat → Int32} : ∀ k, isum f k + isum h k = isum (fun i => f i + h i) k
  | 0 => Int32.add_zero _
  | k + 1 => by
    simp only [isum]
    rw [← isum_ad k]
    ac_rfl
theorem isum_dg (f : Nat → Int32) : isum (fun k => if k / 5 = k % 5 then f k else 0) 25 = isum (fun z => f (6 * z)) 5 := by
  simp [isum]
/-- an hour: what the class has, what the reference has -/
def mHs (A : LA) (cs sh : Nat → Int32) (met : Int32) : Prop := (∀ a c, a < 5 → c < 5 → a ≠ c → sh (5 * a + c) = cs (5 * a + c)) ∧ met = isum (fun z => cs (6 * z)) 5 ∧ mZ (lS A) cs
theorem mHs_next {A : LA} (h5 : lS A ≤ 5) {cs sh : Nat → Int32} {met : Int32} (h : mHs A cs sh met) : mHs A (shO A cs) (rsO A sh) (met + isum (fun z => rsO A sh (6 * z)) 5) := by
  obtain ⟨h1, h2, h3⟩ := h
  have hr := rsO_rel h5 h1
  have hz := rsO_Z h5 (sh := sh)
  refine ⟨fun a c ha hc e => ?_, ?_, fun z a c => ?_⟩
  · rw [hr (5 * a + c) (by omega)]
    have e1 : mV (lS A) 0 (5 * a + c) = false := by
      simp only [mV, Bool.and_eq_false_iff, Bool.or_eq_false_iff, decide_eq_false_iff_not]
      omega
    rw [e1]
    simp
  · rw [h2, isum_ad]
    refine isum_c (fun z hz5 => ?_)
    rw [hr (6 * z) (by omega), Int32.add_comm]
    congr 1
    by_cases e : z < lS A
    · rw [if_pos]
      simp only [mV, Bool.and_eq_true, Bool.or_eq_true, decide_eq_true_eq]
      omega
    · rw [if_neg]
      · exact h3 z (by omega) hz5
      · simp only [mV, Bool.and_eq_true, Bool.or_eq_true, decide_eq_true_eq]
        omega
  · rw [hr (6 * z) (by omega), hz z a c, if_neg]
    · rfl
    · simp only [mV, Bool.and_eq_true, Bool.or_eq_true, decide_eq_true_eq]
      omega
theorem lmy {f : Nat → Bool} {a : Nat} : ∀ {S : Nat}, a < S → f a = false → 1 + isum (fun k => b2i (f k)) S = cnt (fun k => decide (k = a) || f k) S
  | 0, h, _ => absurd h (by omega)
  | S + 1, h, hf => by
    by_cases e : a = S
    · subst e
      have e1 : cnt (fun k => decide (k = a) || f k) a = isum (fun k => b2i (f k)) a := isum_c (fun k hk => by simp [show ¬ k = a by omega])
      show 1 + (isum (fun k => b2i (f k)) a + b2i (f a)) = cnt (fun k => decide (k = a) || f k) a + b2i (decide (a = a) || f a)
      rw [e1, hf]
      simp [b2i, Int32.add_comm]
    · have ih := lmy (f := f) (a := a) (S := S) (by omega) hf
      show 1 + (isum (fun k => b2i (f k)) S + b2i (f S)) = cnt (fun k => decide (k = a) || f k) S + b2i (decide (S = a) || f S)
      rw [← ih, decide_eq_false (fun h => e h.symm), Bool.false_or, Int32.add_assoc]
theorem ln_self {A : LA} (hA : wfL A) {a : Nat} (ha : a < lS A) : bit (lLn A a) a = false := by
  obtain ⟨f, hf⟩ := hA.2.2.2.2.2.2.2
  have h5 := hA.1
  rw [(hf a ha).1, bit_bset (by omega) (by omega), (hf a ha).2]
  simp
theorem ix25 (a c : Nat) : ibop 0 (ibop 0 25 (ibop 2 5 (nI a))) (nI c) = nI (25 + (5 * a + c)) := by
  show 25 + 5 * nI a + nI c = _
  rw [show (5 : Int32) = nI 5 from rfl, show (25 : Int32) = nI 25 from rfl, pk_mul, nI_add, nI_add, Nat.add_assoc]
theorem ix5b (a c : Nat) : ibop 0 (ibop 2 5 (nI a)) (nI c) = nI (5 * a + c) := by
  show 5 * nI a + nI c = _
  rw [show (5 : Int32) = nI 5 from rfl, pk_mul, nI_add]
def d78 (k : Nat) : Bool := decide (k = 78)
theorem d78_k {F F2 : FT} (h : FrK d78 F F2) : FrK dMk F F2 := h.mo (fun k e => by
  simp only [dMk, Bool.or_eq_false_iff, Bool.and_eq_false_iff, decide_eq_false_iff_not] at e
  simp only [d78, decide_eq_false_iff_not]
  omega)
section M15
variable {E : EV} {d x : Nat} {F : FT} {G : GT} {b : Bool} {o : SG} {u v w : Int32} {A : LA} {s : ST}
theorem l_lany (hL : ML F A) (hA : wfL A) {a : Nat} (ha : a < lS A) : ∀ (r i : Nat) (iv : Int32) (acc : Int32), iv = nI i → i + r = lS A → acc = 1 + isum (fun k => b2i (bit (lLn A a) k)) i → Td E d 220 4 [some (vr 40 0), some (vi (nI a)), some (vi acc), some (vi iv)] [] x F G b (some (vi (cnt (goB A a) (lS A)))) (fun F2 G2 => F2 = F ∧ G2 = G) := by
  intro r
  induction r with
  | zero =>
    intro i iv acc hiv hir hac
    subst hiv
    have hi : i = lS A := by omega
    have hS5 := hA.1
    refine d_run 2 rfl ?_
    refine d_gR k220_6 (by first | assumption | exact Nat.le_of_ble_eq_true rfl | omega) ⟨rfl, rfl, rfl⟩ rfl ?_
    refine d_run 1 rfl ?_
    refine d_ia (N := 8) (j := 0) k220_10 (by decide) (by first | assumption | exact Nat.le_of_ble_eq_true rfl | omega) ⟨⟨rfl, rfl⟩, rfl, rfl⟩ (by decide) rfl ?_
    refine d_ic_ge k220_11 (fun h11 => ?_) (fun h11 => ?_)
    · refine d_run 1 rfl ?_
      refine d_ir k220_34 rfl (by rw [hac, hi]; exact lmy ha (ln_self hA ha)) ?_
      exact ⟨rfl, rfl⟩
    · exact absurd (lt_nI h11 hL.1 (by omega) (by omega)) (by omega)
  | succ r ih =>
    intro i iv acc hiv hir hac
    subst hiv
    have hi : i < lS A := by omega
    have hS5 := hA.1
    refine d_run 2 rfl ?_
    refine d_gR k220_6 (by first | assumption | exact Nat.le_of_ble_eq_true rfl | omega) ⟨rfl, rfl, rfl⟩ rfl ?_
    refine d_run 1 rfl ?_
    refine d_ia (N := 8) (j := 0) k220_10 (by decide) (by first | assumption | exact Nat.le_of_ble_eq_true rfl | omega) ⟨⟨rfl, rfl⟩, rfl, rfl⟩ (by decide) rfl ?_
    refine d_ic_ge k220_11 (fun h11 => ?_) (fun h11 => ?_)
    · exact absurd (ge_nI h11 hL.1 (by omega) (by omega)) (by omega)
    · refine d_run 2 rfl ?_
      refine d_gR k220_16 (by first | assumption | exact Nat.le_of_ble_eq_true rfl | omega) ⟨rfl, rfl, rfl⟩ rfl ?_
      refine d_run 1 rfl ?_
      refine d_ia (N := 10) k220_20 (by decide) (by first | assumption | exact Nat.le_of_ble_eq_true rfl | omega) ⟨⟨rfl, rfl⟩, rfl, rfl⟩ (by first | assumption | omega) rfl ?_
      rw [hL.2.2.2.2.1 a ha]
      refine d_run 8 rfl ?_
      refine ih (i + 1) _ _ (nI_1 i) (by omega) ?_
      rw [hac, b2i_bit]
      exact Int32.add_assoc _ _ _
theorem b_lany (hL : ML F A) (hA : wfL A) {a : Nat} (ha : a < lS A) : Td E d 220 0 [some (vr 40 0), some (vi (nI a)), none, none] [] x F G b (some (vi (cnt (goB A a) (lS A)))) (fun F2 G2 => F2 = F ∧ G2 = G) := by
  refine d_run 4 rfl ?_
  exact l_lany hL hA ha (lS A) 0 _ _ rfl (by omega) rfl
theorem b_gob (hL : ML F A) (hA : wfL A) {a c : Nat} (ha : a < lS A) (hc : c < lS A) : Tm E d 221 0 [some (vr 40 0), some (vi (nI a)), some (vi (nI c))] [] (cC x) F G (Rs b) (some (vi (b2i (goB A a c)))) (cC x, F, G, Rs b) := by
  have hS5 := hA.1
  refine t_run 2 rfl ?_
  refine t_ic_eq k221_2 (fun h2 => ?_) (fun h2 => ?_)
  · have h2 := nI_inj h2 (by omega) (by omega)
    rw [show goB A a c = true by simp only [goB]; rw [decide_eq_true h2.symm]; rfl]
    refine t_run 2 rfl ?_
    exact t_ib k221_24 (by rfl)
  · have h2 : ¬ c = a := fun e => h2 (by rw [e])
    refine t_run 1 rfl ?_
    refine t_gR k221_6 (by first | assumption | exact Nat.le_of_ble_eq_true rfl | omega) ⟨rfl, rfl, rfl⟩ rfl ?_
    refine t_run 1 rfl ?_
    refine t_ia (N := 10) k221_10 (by decide) (by first | assumption | exact Nat.le_of_ble_eq_true rfl | omega) ⟨⟨rfl, rfl⟩, rfl, rfl⟩ (by first | assumption | omega) rfl ?_
    rw [hL.2.2.2.2.1 a ha]
    refine t_run 5 rfl ?_
    refine t_ic_ne k221_16 (fun h16 => ?_) (fun h16 => ?_)
    · rw [show (ibop 3 (ibop 7 (lLn A a) (nI c)) 1 = 1) = (bit (lLn A a) c = true) from bit1 _ _, Bool.not_eq_true] at h16
      rw [show goB A a c = false by simp only [goB]; rw [decide_eq_false h2, h16]; rfl]
      refine t_run 1 rfl ?_
      exact t_ib k221_24 (by rfl)
    · rw [show (ibop 3 (ibop 7 (lLn A a) (nI c)) 1 = 1) = (bit (lLn A a) c = true) from bit1 _ _] at h16
      rw [show goB A a c = true by simp only [goB]; rw [h16, Bool.or_true]]
      refine t_run 2 rfl ?_
      exact t_ib k221_24 (by rfl)
theorem l_rs2 (hA : wfL A) (hd : 20 ≤ d) {F0 : FT} (hL0 : ML F0 A) {a c : Nat} (ha : a < lS A) (hc : c < lS A) {ii : Nat} (hii : ii < lS A) {R : Option PV} {QQ : FT → GT → Prop} : ∀ (r i : Nat) (iv : Int32) (nx : Nat → Int32) (F : FT), iv = nI i → i + r = lS A → eqR 25 (fun k => F 78 0 (25 + k)) nx → (FrK d78 F0 F ∧ (∀ k, k < 25 → F 78 0 k = F0 78 0 k)) → (∀ F2, eqR 25 (fun k => F2 78 0 (25 + k)) (lpN (shI A a c u ii) i r nx) → (FrK d78 F0 F2 ∧ (∀ k, k < 25 → F2 78 0 k = F0 78 0 k)) → Td E d 222 100 [some (vr 40 0), some (vi (nI a)), some (vi (nI c)), some (vi u), some (vi (nI ii)), none] [] x F2 G b R (QQ)) → Td E d 222 40 [some (vr 40 0), some (vi (nI a)), some (vi (nI c)), some (vi u), some (vi (nI ii)), some (vi iv)] [] x F G b R (QQ) := by
  intro r
  induction r with
  | zero =>
    intro i iv nx F hiv hir q1 q3 kk
    subst hiv
    have hi : i = lS A := by omega
    have hL : ML F A := hL0.fr (fun k a b => q3.1 k (by simp only [d78, decide_eq_false_iff_not]; omega))
    have hS5 := hA.1
    refine d_run 2 rfl ?_
    refine d_gR k222_43 (by first | assumption | exact Nat.le_of_ble_eq_true rfl | omega) ⟨rfl, rfl, rfl⟩ rfl ?_
    refine d_run 1 rfl ?_
    refine d_ia (N := 8) (j := 0) k222_47 (by decide) (by first | assumption | exact Nat.le_of_ble_eq_true rfl | omega) ⟨⟨rfl, rfl⟩, rfl, rfl⟩ (by decide) rfl ?_
    refine d_ic_ge k222_48 (fun h48 => ?_) (fun h48 => ?_)
    · refine d_dr111110 ?_
      exact kk F q1 q3
    · exact absurd (lt_nI h48 hL.1 (by omega) (by omega)) (by omega)
  | succ r ih =>
    intro i iv nx F hiv hir q1 q3 kk
    subst hiv
    have hi : i < lS A := by omega
    have hL : ML F A := hL0.fr (fun k a b => q3.1 k (by simp only [d78, decide_eq_false_iff_not]; omega))
    have hS5 := hA.1
    refine d_run 2 rfl ?_
    refine d_gR k222_43 (by first | assumption | exact Nat.le_of_ble_eq_true rfl | omega) ⟨rfl, rfl, rfl⟩ rfl ?_
    refine d_run 1 rfl ?_
    refine d_ia (N := 8) (j := 0) k222_47 (by decide) (by first | assumption | exact Nat.le_of_ble_eq_true rfl | omega) ⟨⟨rfl, rfl⟩, rfl, rfl⟩ (by decide) rfl ?_
    refine d_ic_ge k222_48 (fun h48 => ?_) (fun h48 => ?_)
    · exact absurd (ge_nI h48 hL.1 (by omega) (by omega)) (by omega)
    · refine d_run 1 rfl ?_
      refine d_gR k222_52 (by first | assumption | exact Nat.le_of_ble_eq_true rfl | omega) ⟨rfl, rfl, rfl⟩ rfl ?_
      refine d_run 8 rfl ?_
      refine d_ia (N := 50) (j := 25 + (5 * ii + i)) k222_66 (by decide) (by first | assumption | exact Nat.le_of_ble_eq_true rfl | omega) ⟨⟨rfl, rfl⟩, rfl, rfl⟩ (show 25 + (5 * ii + i) < 50 by omega) (ix25 ii i) ?_
      rw [show F 78 0 (25 + (5 * ii + i)) = nx (5 * ii + i) from q1 _ (by omega)]
      refine d_run 3 rfl ?_
      refine d_callT 3 k222_71 (by omega) (Nat.le_of_ble_eq_true rfl) rfl (Nat.le_of_ble_eq_true rfl) (Nat.le_of_ble_eq_true rfl) (recv_ok rfl (by first | assumption | exact Nat.le_of_ble_eq_true rfl | omega)) rfl (b_gob hL hA ha hii) rfl ?_
      refine d_if_eq k222_74 (fun h74 => ?_) (fun h74 => ?_)
      · rw [b2i0] at h74
        have eI : ∀ k, k < 25 → upd nx (5 * ii + i) (nx (5 * ii + i) + 0) k = shI A a c u ii i nx k := fun k _ => by simp only [shI]; rw [h74, Int32.add_zero]; simp [upd]; intro e; rw [e]
        refine d_run 2 rfl ?_
        refine d_is (N := 50) (j := 25 + (5 * ii + i)) k222_93 (by first | assumption | exact Nat.le_of_ble_eq_true rfl | omega) ⟨rfl, rfl⟩ (show 25 + (5 * ii + i) < 50 by omega) (ix25 ii i) ?_
        refine d_run 2 rfl ?_
        refine ih (i + 1) _ (shI A a c u ii i nx) _ (nI_1 i) (by omega) (fun k hk => ?_) ⟨q3.1.u rfl, fun k hk => ?_⟩ kk
        · rw [← eI k hk, uF_r]
          simp only [upd]
          by_cases e : k = 5 * ii + i
          · rw [if_pos (by omega), if_pos e]
            rfl
          · rw [if_neg (by omega), if_neg e]
            exact q1 k hk
        · rw [uF_r, pk_un (by omega)]
          exact q3.2 k hk
      · rw [b2i0, Bool.not_eq_false] at h74
        refine d_run 3 rfl ?_
        refine d_callT 3 k222_81 (by omega) (Nat.le_of_ble_eq_true rfl) rfl (Nat.le_of_ble_eq_true rfl) (Nat.le_of_ble_eq_true rfl) (recv_ok rfl (by first | assumption | exact Nat.le_of_ble_eq_true rfl | omega)) rfl (b_gob hL hA hc hi) rfl ?_
        refine d_if_eq k222_84 (fun h84 => ?_) (fun h84 => ?_)
        · rw [b2i0] at h84
          have eI : ∀ k, k < 25 → upd nx (5 * ii + i) (nx (5 * ii + i) + 0) k = shI A a c u ii i nx k := fun k _ => by simp only [shI]; rw [h84, Int32.add_zero]; simp [upd]; intro e; rw [e]
          refine d_run 2 rfl ?_
          refine d_is (N := 50) (j := 25 + (5 * ii + i)) k222_93 (by first | assumption | exact Nat.le_of_ble_eq_true rfl | omega) ⟨rfl, rfl⟩ (show 25 + (5 * ii + i) < 50 by omega) (ix25 ii i) ?_
          refine d_run 2 rfl ?_
          refine ih (i + 1) _ (shI A a c u ii i nx) _ (nI_1 i) (by omega) (fun k hk => ?_) ⟨q3.1.u rfl, fun k hk => ?_⟩ kk
          · rw [← eI k hk, uF_r]
            simp only [upd]
            by_cases e : k = 5 * ii + i
            · rw [if_pos (by omega), if_pos e]
              rfl
            · rw [if_neg (by omega), if_neg e]
              exact q1 k hk
          · rw [uF_r, pk_un (by omega)]
            exact q3.2 k hk
        · rw [b2i0, Bool.not_eq_false] at h84
          have eI : ∀ k, k < 25 → upd nx (5 * ii + i) (nx (5 * ii + i) + u) k = shI A a c u ii i nx k := fun k _ => by simp only [shI]; rw [h74, h84]; rfl
          refine d_run 3 rfl ?_
          refine d_is (N := 50) (j := 25 + (5 * ii + i)) k222_93 (by first | assumption | exact Nat.le_of_ble_eq_true rfl | omega) ⟨rfl, rfl⟩ (show 25 + (5 * ii + i) < 50 by omega) (ix25 ii i) ?_
          refine d_run 2 rfl ?_
          refine ih (i + 1) _ (shI A a c u ii i nx) _ (nI_1 i) (by omega) (fun k hk => ?_) ⟨q3.1.u rfl, fun k hk => ?_⟩ kk
          · rw [← eI k hk, uF_r]
            simp only [upd]
            by_cases e : k = 5 * ii + i
            · rw [if_pos (by omega), if_pos e]
              rfl
            · rw [if_neg (by omega), if_neg e]
              exact q1 k hk
          · rw [uF_r, pk_un (by omega)]
            exact q3.2 k hk
theorem l_rs1 (hA : wfL A) (hd : 20 ≤ d) {F0 : FT} (hL0 : ML F0 A) {a c : Nat} (ha : a < lS A) (hc : c < lS A) : ∀ (r i : Nat) (iv : Int32) (nx : Nat → Int32) (F : FT), iv = nI i → i + r = lS A → eqR 25 (fun k => F 78 0 (25 + k)) nx → (FrK d78 F0 F ∧ (∀ k, k < 25 → F 78 0 k = F0 78 0 k)) → Td E d 222 26 [some (vr 40 0), some (vi (nI a)), some (vi (nI c)), some (vi u), some (vi iv), none] [] x F G b none (fun F2 G2 => G2 = G ∧ eqR 25 (fun k => F2 78 0 (25 + k)) (lpN (fun i nx => lpN (shI A a c u i) 0 (lS A) nx) i r nx) ∧ FrK d78 F0 F2 ∧ (∀ k, k < 25 → F2 78 0 k = F0 78 0 k)) := by
  intro r
  induction r with
  | zero =>
    intro i iv nx F hiv hir q1 q3
    subst hiv
    have hi : i = lS A := by omega
    have hL : ML F A := hL0.fr (fun k a b => q3.1 k (by simp only [d78, decide_eq_false_iff_not]; omega))
    have hS5 := hA.1
    refine d_run 2 rfl ?_
    refine d_gR k222_29 (by first | assumption | exact Nat.le_of_ble_eq_true rfl | omega) ⟨rfl, rfl, rfl⟩ rfl ?_
    refine d_run 1 rfl ?_
    refine d_ia (N := 8) (j := 0) k222_33 (by decide) (by first | assumption | exact Nat.le_of_ble_eq_true rfl | omega) ⟨⟨rfl, rfl⟩, rfl, rfl⟩ (by decide) rfl ?_
    refine d_ic_ge k222_34 (fun h34 => ?_) (fun h34 => ?_)
    · refine d_ret k222_106 ?_
      exact ⟨rfl, q1, q3⟩
    · exact absurd (lt_nI h34 hL.1 (by omega) (by omega)) (by omega)
  | succ r ih =>
    intro i iv nx F hiv hir q1 q3
    subst hiv
    have hi : i < lS A := by omega
    have hL : ML F A := hL0.fr (fun k a b => q3.1 k (by simp only [d78, decide_eq_false_iff_not]; omega))
    have hS5 := hA.1
    refine d_run 2 rfl ?_
    refine d_gR k222_29 (by first | assumption | exact Nat.le_of_ble_eq_true rfl | omega) ⟨rfl, rfl, rfl⟩ rfl ?_
    refine d_run 1 rfl ?_
    refine d_ia (N := 8) (j := 0) k222_33 (by decide) (by first | assumption | exact Nat.le_of_ble_eq_true rfl | omega) ⟨⟨rfl, rfl⟩, rfl, rfl⟩ (by decide) rfl ?_
    refine d_ic_ge k222_34 (fun h34 => ?_) (fun h34 => ?_)
    · exact absurd (ge_nI h34 hL.1 (by omega) (by omega)) (by omega)
    · refine d_run 2 rfl ?_
      refine l_rs2 hA hd hL0 ha hc hi (lS A) 0 _ nx F rfl (by omega) q1 q3 ?_
      intro F2 r1 r3
      refine d_run 2 rfl ?_
      exact ih (i + 1) _ _ F2 (nI_1 i) (by omega) r1 r3
theorem b_shO (hA : wfL A) (hd : 20 ≤ d) (hL : ML F A) {a c : Nat} (ha : a < lS A) (hc : c < lS A) {sh nx : Nat → Int32} (hs : eqR 25 (F 78 0) sh) (hn : eqR 25 (fun k => F 78 0 (25 + k)) nx) : Td E d 222 0 [some (vr 40 0), some (vi (nI a)), some (vi (nI c)), none, none, none] [] x F G b none (fun F2 G2 => G2 = G ∧ eqR 25 (fun k => F2 78 0 (25 + k)) (shL A a c (sh (5 * a + c) / wys A a c) nx) ∧ FrK d78 F F2 ∧ (∀ k, k < 25 → F2 78 0 k = F 78 0 k)) := by
  have hS5 := hA.1
  refine d_run 1 rfl ?_
  refine d_gR k222_1 (by first | assumption | exact Nat.le_of_ble_eq_true rfl | omega) ⟨rfl, rfl, rfl⟩ rfl ?_
  refine d_run 5 rfl ?_
  refine d_ia (N := 50) (j := 5 * a + c) k222_9 (by decide) (by first | assumption | exact Nat.le_of_ble_eq_true rfl | omega) ⟨⟨rfl, rfl⟩, rfl, rfl⟩ (show 5 * a + c < 50 by omega) (ix5b a c) ?_
  rw [hs _ (show 5 * a + c < 25 by omega)]
  refine d_run 2 rfl ?_
  refine d_call 2 k222_12 (by omega) (Nat.le_of_ble_eq_true rfl) rfl (Nat.le_of_ble_eq_true rfl) (Nat.le_of_ble_eq_true rfl) (recv_ok rfl (by first | assumption | exact Nat.le_of_ble_eq_true rfl | omega)) rfl (b_lany hL hA ha) rfl ?_
  rintro F1 G1 ⟨rfl, rfl⟩
  refine d_run 2 rfl ?_
  refine d_call 2 k222_17 (by omega) (Nat.le_of_ble_eq_true rfl) rfl (Nat.le_of_ble_eq_true rfl) (Nat.le_of_ble_eq_true rfl) (recv_ok rfl (by first | assumption | exact Nat.le_of_ble_eq_true rfl | omega)) rfl (b_lany hL hA hc) rfl ?_
  rintro F2 G2 ⟨rfl, rfl⟩
  refine d_run 1 rfl ?_
  refine d_p k222_21 (by decide) (if_neg (wys_0 hA ha hc)) ?_
  refine d_run 3 rfl ?_
  exact l_rs1 hA hd hL ha hc (lS A) 0 _ nx _ rfl (by omega) hn ⟨FrK.rf, fun _ _ => rfl⟩
theorem l_rm2 (hA : wfL A) (hd : 50 ≤ d) {F0 : FT} (hL0 : ML F0 A) {u v w met tt : Int32} {sh : Nat → Int32} (hs0 : eqR 25 (F0 78 0) sh) {R : Option PV} {QQ : FT → GT → Prop} {a : Nat} (ha : a < lS A) : ∀ (r i : Nat) (iv : Int32) (nx : Nat → Int32) (F : FT), iv = nI i → i + r = lS A → eqR 25 (fun k => F 78 0 (25 + k)) nx → (FrK d78 F0 F ∧ (∀ k, k < 25 → F 78 0 k = F0 78 0 k)) → (∀ F2, eqR 25 (fun k => F2 78 0 (25 + k)) (lpN (fun c nx => rsF A sh a c nx) i r nx) → (FrK d78 F0 F2 ∧ (∀ k, k < 25 → F2 78 0 k = F0 78 0 k)) → Td E d 223 157 [some (vr 40 0), some (vi u), some (vi v), some (vi w), some (vi met), some (vi tt), some (vi (nI a)), none] [] x F2 G b R (QQ)) → Td E d 223 125 [some (vr 40 0), some (vi u), some (vi v), some (vi w), some (vi met), some (vi tt), some (vi (nI a)), some (vi iv)] [] x F G b R (QQ) := by
  intro r
  induction r with
  | zero =>
    intro i iv nx F hiv hir q1 q3 kk
    subst hiv
    have hi : i = lS A := by omega
    have hL : ML F A := hL0.fr (fun k a b => q3.1 k (by simp only [d78, decide_eq_false_iff_not]; omega))
    have hS5 := hA.1
    have hs : eqR 25 (F 78 0) sh := fun k hk => (q3.2 k hk).trans (hs0 k hk)
    refine d_run 2 rfl ?_
    refine d_gR k223_128 (by first | assumption | exact Nat.le_of_ble_eq_true rfl | omega) ⟨rfl, rfl, rfl⟩ rfl ?_
    refine d_run 1 rfl ?_
    refine d_ia (N := 8) (j := 0) k223_132 (by decide) (by first | assumption | exact Nat.le_of_ble_eq_true rfl | omega) ⟨⟨rfl, rfl⟩, rfl, rfl⟩ (by decide) rfl ?_
    refine d_ic_ge k223_133 (fun h133 => ?_) (fun h133 => ?_)
    · refine d_dr11111110 ?_
      exact kk F q1 q3
    · exact absurd (lt_nI h133 hL.1 (by omega) (by omega)) (by omega)
  | succ r ih =>
    intro i iv nx F hiv hir q1 q3 kk
    subst hiv
    have hi : i < lS A := by omega
    have hL : ML F A := hL0.fr (fun k a b => q3.1 k (by simp only [d78, decide_eq_false_iff_not]; omega))
    have hS5 := hA.1
    have hs : eqR 25 (F 78 0) sh := fun k hk => (q3.2 k hk).trans (hs0 k hk)
    refine d_run 2 rfl ?_
    refine d_gR k223_128 (by first | assumption | exact Nat.le_of_ble_eq_true rfl | omega) ⟨rfl, rfl, rfl⟩ rfl ?_
    refine d_run 1 rfl ?_
    refine d_ia (N := 8) (j := 0) k223_132 (by decide) (by first | assumption | exact Nat.le_of_ble_eq_true rfl | omega) ⟨⟨rfl, rfl⟩, rfl, rfl⟩ (by decide) rfl ?_
    refine d_ic_ge k223_133 (fun h133 => ?_) (fun h133 => ?_)
    · exact absurd (ge_nI h133 hL.1 (by omega) (by omega)) (by omega)
    · refine d_run 2 rfl ?_
      refine d_ic_eq k223_140 (fun h140 => ?_) (fun h140 => ?_)
      · have e : a = i := nI_inj h140 (by omega) (by omega)
        have eR : rsF A sh a i nx = nx := by simp only [rsF]; rw [if_pos e]
        refine d_run 2 rfl ?_
        simp only [lpN] at kk
        rw [eR] at kk
        first
        | exact ih (i + 1) _ nx F (nI_1 i) (by omega) q1 q3 kk
        | exact ih (i + 1) _ _ F1 (nI_1 i) (by omega) r1 ⟨q3.1.tr r3.1, fun k hk => (r3.2 k hk).trans (q3.2 k hk)⟩ kk
      · have e : ¬ a = i := fun e => h140 (by rw [e])
        have eR : rsF A sh a i nx = shL A a i (sh (5 * a + i) / wys A a i) nx := by simp only [rsF]; rw [if_neg e]
        refine d_run 3 rfl ?_
        refine d_call 3 k223_148 (by omega) (Nat.le_of_ble_eq_true rfl) rfl (Nat.le_of_ble_eq_true rfl) (Nat.le_of_ble_eq_true rfl) (recv_ok rfl (by first | assumption | exact Nat.le_of_ble_eq_true rfl | omega)) rfl (b_shO hA (by omega) hL ha hi hs q1) rfl ?_
        rintro F1 G1 ⟨rfl, r1, r3⟩
        refine d_run 2 rfl ?_
        simp only [lpN] at kk
        rw [eR] at kk
        first
        | exact ih (i + 1) _ nx F (nI_1 i) (by omega) q1 q3 kk
        | exact ih (i + 1) _ _ F1 (nI_1 i) (by omega) r1 ⟨q3.1.tr r3.1, fun k hk => (r3.2 k hk).trans (q3.2 k hk)⟩ kk
theorem l_rm1 (hA : wfL A) (hd : 50 ≤ d) {F0 : FT} (hL0 : ML F0 A) {u v w met tt : Int32} {sh : Nat → Int32} (hs0 : eqR 25 (F0 78 0) sh) {R : Option PV} {QQ : FT → GT → Prop} : ∀ (r i : Nat) (iv : Int32) (nx : Nat → Int32) (F : FT), iv = nI i → i + r = lS A → eqR 25 (fun k => F 78 0 (25 + k)) nx → (FrK d78 F0 F ∧ (∀ k, k < 25 → F 78 0 k = F0 78 0 k)) → (∀ F2, eqR 25 (fun k => F2 78 0 (25 + k)) (lpN (fun a nx => lpN (fun c nx => rsF A sh a c nx) 0 (lS A) nx) i r nx) → (FrK d78 F0 F2 ∧ (∀ k, k < 25 → F2 78 0 k = F0 78 0 k)) → Td E d 223 163 [some (vr 40 0), some (vi u), some (vi v), some (vi w), some (vi met), some (vi tt), none, none] [] x F2 G b R (QQ)) → Td E d 223 111 [some (vr 40 0), some (vi u), some (vi v), some (vi w), some (vi met), some (vi tt), some (vi iv), none] [] x F G b R (QQ) := by
  intro r
  induction r with
  | zero =>
    intro i iv nx F hiv hir q1 q3 kk
    subst hiv
    have hi : i = lS A := by omega
    have hL : ML F A := hL0.fr (fun k a b => q3.1 k (by simp only [d78, decide_eq_false_iff_not]; omega))
    have hS5 := hA.1
    have hs : eqR 25 (F 78 0) sh := fun k hk => (q3.2 k hk).trans (hs0 k hk)
    refine d_run 2 rfl ?_
    refine d_gR k223_114 (by first | assumption | exact Nat.le_of_ble_eq_true rfl | omega) ⟨rfl, rfl, rfl⟩ rfl ?_
    refine d_run 1 rfl ?_
    refine d_ia (N := 8) (j := 0) k223_118 (by decide) (by first | assumption | exact Nat.le_of_ble_eq_true rfl | omega) ⟨⟨rfl, rfl⟩, rfl, rfl⟩ (by decide) rfl ?_
    refine d_ic_ge k223_119 (fun h119 => ?_) (fun h119 => ?_)
    · refine d_dr11111100 ?_
      exact kk F q1 q3
    · exact absurd (lt_nI h119 hL.1 (by omega) (by omega)) (by omega)
  | succ r ih =>
    intro i iv nx F hiv hir q1 q3 kk
    subst hiv
    have hi : i < lS A := by omega
    have hL : ML F A := hL0.fr (fun k a b => q3.1 k (by simp only [d78, decide_eq_false_iff_not]; omega))
    have hS5 := hA.1
    have hs : eqR 25 (F 78 0) sh := fun k hk => (q3.2 k hk).trans (hs0 k hk)
    refine d_run 2 rfl ?_
    refine d_gR k223_114 (by first | assumption | exact Nat.le_of_ble_eq_true rfl | omega) ⟨rfl, rfl, rfl⟩ rfl ?_
    refine d_run 1 rfl ?_
    refine d_ia (N := 8) (j := 0) k223_118 (by decide) (by first | assumption | exact Nat.le_of_ble_eq_true rfl | omega) ⟨⟨rfl, rfl⟩, rfl, rfl⟩ (by decide) rfl ?_
    refine d_ic_ge k223_119 (fun h119 => ?_) (fun h119 => ?_)
    · exact absurd (ge_nI h119 hL.1 (by omega) (by omega)) (by omega)
    · refine d_run 2 rfl ?_
      refine l_rm2 hA hd hL0 hs0 hi (lS A) 0 _ nx F rfl (by omega) q1 q3 ?_
      intro F2 r1 r3
      refine d_run 2 rfl ?_
      exact ih (i + 1) _ _ F2 (nI_1 i) (by omega) r1 r3 kk
theorem dm5 : ∀ i, i < 25 → ((nI i / 5 = nI i - nI i / 5 * 5) = (i / 5 = i % 5)) := by
  have h : ∀ i, i < 25 → (decide (nI i / 5 = nI i - nI i / 5 * 5) = decide (i / 5 = i % 5)) := by decide +kernel
  intro i hi
  have := h i hi
  simpa using this
theorem l_rm3 {F0 : FT} {u v w tt met0 : Int32} {nx : Nat → Int32} {R : Option PV} {QQ : FT → GT → Prop} : ∀ (r i : Nat) (iv : Int32) (met : Int32) (F : FT), iv = nI i → i + r = 25 → met = met0 + isum (fun k => if k / 5 = k % 5 then nx k else 0) i → ((∀ k, k < i → F 78 0 k = nx k) ∧ (∀ k, i ≤ k → k < 25 → F 78 0 (25 + k) = nx k) ∧ (∀ k, k < i → F 78 0 (25 + k) = 0)) → FrK d78 F0 F → (∀ F2, (∀ k, k < 25 → F2 78 0 k = nx k) → (∀ k, k < 25 → F2 78 0 (25 + k) = 0) → FrK d78 F0 F2 → Td E d 223 237 [some (vr 40 0), some (vi u), some (vi v), some (vi w), some (vi (met0 + isum (fun k => if k / 5 = k % 5 then nx k else 0) 25)), some (vi tt), none, none] [] x F2 G b R (QQ)) → Td E d 223 166 [some (vr 40 0), some (vi u), some (vi v), some (vi w), some (vi met), some (vi tt), some (vi iv), none] [] x F G b R (QQ) := by
  intro r
  induction r with
  | zero =>
    intro i iv met F hiv hir hm q1 q3 kk
    subst hiv
    have hi : i = 25 := by omega
    refine d_run 2 rfl ?_
    refine d_ic_ge k223_170 (fun h170 => ?_) (fun h170 => ?_)
    · refine d_dr11111100 ?_
      rw [hi] at hm q1
      rw [hm]
      exact kk F q1.1 q1.2.2 q3
    · exact absurd (lt_nI h170 (b := 25) rfl (by omega) (by omega)) (by omega)
  | succ r ih =>
    intro i iv met F hiv hir hm q1 q3 kk
    subst hiv
    have hi : i < 25 := by omega
    refine d_run 2 rfl ?_
    refine d_ic_ge k223_170 (fun h170 => ?_) (fun h170 => ?_)
    · exact absurd (ge_nI h170 (b := 25) rfl (by omega) (by omega)) (by omega)
    · refine d_run 7 rfl ?_
      refine d_ic_ne k223_183 (fun h183 => ?_) (fun h183 => ?_)
      · rw [show (nI i / 5 = nI i - nI i / 5 * 5) = (i / 5 = i % 5) from dm5 i hi] at h183
        have eM : (if i / 5 = i % 5 then nx i else 0) = 0 := if_neg h183
        refine d_run 4 rfl ?_
        refine d_gR k223_204 (by first | assumption | exact Nat.le_of_ble_eq_true rfl | omega) ⟨rfl, rfl, rfl⟩ rfl ?_
        refine d_run 2 rfl ?_
        refine d_gR k223_210 (by first | assumption | exact Nat.le_of_ble_eq_true rfl | omega) ⟨rfl, rfl, rfl⟩ rfl ?_
        refine d_run 3 rfl ?_
        refine d_ia (N := 50) (j := 25 + i) k223_218 (by decide) (by first | assumption | exact Nat.le_of_ble_eq_true rfl | omega) ⟨⟨rfl, rfl⟩, rfl, rfl⟩ (show 25 + i < 50 by omega) (nI_add 25 _) ?_
        rw [q1.2.1 i (by omega) hi]
        refine d_is (N := 50) k223_219 (by first | assumption | exact Nat.le_of_ble_eq_true rfl | omega) ⟨rfl, rfl⟩ (show i < 50 by omega) rfl ?_
        refine d_run 1 rfl ?_
        refine d_gR k223_221 (by first | assumption | exact Nat.le_of_ble_eq_true rfl | omega) ⟨rfl, rfl, rfl⟩ rfl ?_
        refine d_run 4 rfl ?_
        refine d_is (N := 50) (j := 25 + i) k223_230 (by first | assumption | exact Nat.le_of_ble_eq_true rfl | omega) ⟨rfl, rfl⟩ (show 25 + i < 50 by omega) (nI_add 25 _) ?_
        refine d_run 2 rfl ?_
        refine ih (i + 1) _ _ _ (nI_1 i) (by omega) ?_ ⟨fun k hk => ?_, fun k h1 h2 => ?_, fun k hk => ?_⟩ ((q3.u rfl).u rfl) kk
        · rw [hm]
          simp only [isum, eM]
          exact Int32.add_assoc _ _ _
        · rw [uF_r, pk_un (by omega), uF_r]
          by_cases e : k = i
          · subst e
            exact pk_us
          · rw [pk_un e]
            exact q1.1 k (by omega)
        · rw [uF_r, pk_un (by omega), uF_r, pk_un (by omega)]
          exact q1.2.1 k (by omega) h2
        · rw [uF_r]
          by_cases e : k = i
          · subst e
            exact pk_us
          · rw [pk_un (by omega), uF_r, pk_un (by omega)]
            exact q1.2.2 k (by omega)
      · rw [show (nI i / 5 = nI i - nI i / 5 * 5) = (i / 5 = i % 5) from dm5 i hi] at h183
        have eM : (if i / 5 = i % 5 then nx i else 0) = nx i := if_pos h183
        refine d_run 1 rfl ?_
        refine d_gR k223_187 (by first | assumption | exact Nat.le_of_ble_eq_true rfl | omega) ⟨rfl, rfl, rfl⟩ rfl ?_
        refine d_run 3 rfl ?_
        refine d_ia (N := 50) (j := 25 + i) k223_195 (by decide) (by first | assumption | exact Nat.le_of_ble_eq_true rfl | omega) ⟨⟨rfl, rfl⟩, rfl, rfl⟩ (show 25 + i < 50 by omega) (nI_add 25 _) ?_
        rw [q1.2.1 i (by omega) hi]
        refine d_run 4 rfl ?_
        refine d_gR k223_204 (by first | assumption | exact Nat.le_of_ble_eq_true rfl | omega) ⟨rfl, rfl, rfl⟩ rfl ?_
        refine d_run 2 rfl ?_
        refine d_gR k223_210 (by first | assumption | exact Nat.le_of_ble_eq_true rfl | omega) ⟨rfl, rfl, rfl⟩ rfl ?_
        refine d_run 3 rfl ?_
        refine d_ia (N := 50) (j := 25 + i) k223_218 (by decide) (by first | assumption | exact Nat.le_of_ble_eq_true rfl | omega) ⟨⟨rfl, rfl⟩, rfl, rfl⟩ (show 25 + i < 50 by omega) (nI_add 25 _) ?_
        rw [q1.2.1 i (by omega) hi]
        refine d_is (N := 50) k223_219 (by first | assumption | exact Nat.le_of_ble_eq_true rfl | omega) ⟨rfl, rfl⟩ (show i < 50 by omega) rfl ?_
        refine d_run 1 rfl ?_
        refine d_gR k223_221 (by first | assumption | exact Nat.le_of_ble_eq_true rfl | omega) ⟨rfl, rfl, rfl⟩ rfl ?_
        refine d_run 4 rfl ?_
        refine d_is (N := 50) (j := 25 + i) k223_230 (by first | assumption | exact Nat.le_of_ble_eq_true rfl | omega) ⟨rfl, rfl⟩ (show 25 + i < 50 by omega) (nI_add 25 _) ?_
        refine d_run 2 rfl ?_
        refine ih (i + 1) _ _ _ (nI_1 i) (by omega) ?_ ⟨fun k hk => ?_, fun k h1 h2 => ?_, fun k hk => ?_⟩ ((q3.u rfl).u rfl) kk
        · rw [hm]
          simp only [isum, eM]
          exact Int32.add_assoc _ _ _
        · rw [uF_r, pk_un (by omega), uF_r]
          by_cases e : k = i
          · subst e
            exact pk_us
          · rw [pk_un e]
            exact q1.1 k (by omega)
        · rw [uF_r, pk_un (by omega), uF_r, pk_un (by omega)]
          exact q1.2.1 k (by omega) h2
        · rw [uF_r]
          by_cases e : k = i
          · subst e
            exact pk_us
          · rw [pk_un (by omega), uF_r, pk_un (by omega)]
            exact q1.2.2 k (by omega)
theorem l_rm4 (hA : wfL A) (hd : 60 ≤ d) {F0 : FT} (hL0 : ML F0 A) {u v : Int32} {n : Nat} (hn : n ≤ 6) : ∀ (r i : Nat) (iv : Int32) (met : Int32) (cs sh : Nat → Int32) (F : FT), iv = nI i → i + r = n → mHs A cs sh met → eqR 25 (F 78 0) sh → (∀ k, k < 25 → F 78 0 (25 + k) = 0) → FrK d78 F0 F → Td E d 223 102 [some (vr 40 0), some (vi u), some (vi v), some (vi (nI n)), some (vi met), some (vi iv), none, none] [] x F G b (some (vi (isum (fun z => lpN (fun _ sh => shO A sh) i r cs (6 * z)) 5))) (fun F2 G2 => G2 = G ∧ FrK d78 F0 F2) := by
  intro r
  induction r with
  | zero =>
    intro i iv met cs sh F hiv hir hH hs hz q3
    subst hiv
    have hi : i = n := by omega
    refine d_run 2 rfl ?_
    refine d_ic_ge k223_105 (fun h105 => ?_) (fun h105 => ?_)
    · refine d_run 1 rfl ?_
      refine d_ir k223_245 rfl (by exact hH.2.1) ?_
      exact ⟨rfl, q3⟩
    · exact absurd (lt_nI h105 rfl (by omega) (by omega)) (by omega)
  | succ r ih =>
    intro i iv met cs sh F hiv hir hH hs hz q3
    subst hiv
    have hi : i < n := by omega
    refine d_run 2 rfl ?_
    refine d_ic_ge k223_105 (fun h105 => ?_) (fun h105 => ?_)
    · exact absurd (ge_nI h105 rfl (by omega) (by omega)) (by omega)
    · refine d_run 2 rfl ?_
      have hL : ML F A := hL0.fr (fun k a b => q3 k (by simp only [d78, decide_eq_false_iff_not]; omega))
      have hS5 := hA.1
      refine l_rm1 hA (by omega) hL hs (lS A) 0 _ (fun _ => 0) F rfl (by omega) (fun k hk => hz k hk) ⟨FrK.rf, fun _ _ => rfl⟩ ?_
      intro F2 r1 r3
      refine d_run 2 rfl ?_
      refine l_rm3 (F0 := F0) (met0 := met) (nx := rsO A sh) 25 0 _ met F2 rfl (by omega) (Int32.add_zero _).symm ⟨fun k hk => absurd hk (by omega), fun k _ hk => r1 k hk, fun k hk => absurd hk (by omega)⟩ (q3.tr r3.1) ?_
      intro F3 s1 s2 s3
      rw [isum_dg]
      refine d_run 2 rfl ?_
      exact ih (i + 1) _ _ (shO A cs) (rsO A sh) F3 (nI_1 i) (by omega) (mHs_next hS5 hH) s1 s2 s3
theorem l_rm0 {F0 : FT} {u v w : Int32} {R : Option PV} {QQ : FT → GT → Prop} : ∀ (r i : Nat) (iv : Int32) (F : FT), iv = nI i → i + r = 50 → (∀ k, k < i → F 78 0 k = 0) → FrK d78 F0 F → (∀ F2, (∀ k, k < 50 → F2 78 0 k = 0) → FrK d78 F0 F2 → Td E d 223 69 [some (vr 40 0), some (vi u), some (vi v), some (vi w), none, none, none, none] [] x F2 G b R (QQ)) → Td E d 223 48 [some (vr 40 0), some (vi u), some (vi v), some (vi w), some (vi iv), none, none, none] [] x F G b R (QQ) := by
  intro r
  induction r with
  | zero =>
    intro i iv F hiv hir q1 q3 kk
    subst hiv
    have hi : i = 50 := by omega
    refine d_run 2 rfl ?_
    refine d_ic_ge k223_52 (fun h52 => ?_) (fun h52 => ?_)
    · refine d_dr11110000 ?_
      rw [hi] at q1
      exact kk F q1 q3
    · exact absurd (lt_nI h52 (b := 50) rfl (by omega) (by omega)) (by omega)
  | succ r ih =>
    intro i iv F hiv hir q1 q3 kk
    subst hiv
    have hi : i < 50 := by omega
    refine d_run 2 rfl ?_
    refine d_ic_ge k223_52 (fun h52 => ?_) (fun h52 => ?_)
    · exact absurd (ge_nI h52 (b := 50) rfl (by omega) (by omega)) (by omega)
    · refine d_run 1 rfl ?_
      refine d_gR k223_56 (by first | assumption | exact Nat.le_of_ble_eq_true rfl | omega) ⟨rfl, rfl, rfl⟩ rfl ?_
      refine d_run 2 rfl ?_
      refine d_is (N := 50) k223_62 (by first | assumption | exact Nat.le_of_ble_eq_true rfl | omega) ⟨rfl, rfl⟩ (show i < 50 by omega) rfl ?_
      refine d_run 2 rfl ?_
      refine ih (i + 1) _ _ (nI_1 i) (by omega) (fun k hk => ?_) (q3.u rfl) kk
      rw [uF_r]
      by_cases e : k = i
      · subst e
        exact pk_us
      · rw [pk_un e]
        exact q1 k (by omega)
theorem e_meet0 (h : MInv F G o) (hw : WF o) (hd : 90 ≤ d) : Td E d 223 5 [some (vr 40 0), some (vi u), some (vi v), some (vi w), none, none, none, none] [] x F G b (some (vi (q_meet o u v w))) (MPost (o) F G) := by
  have hL := h.2.1
  have hA := hw.1
  have hS := h.2.2.2.1.1
  have hwS := hw.2.1.1
  have hP6 := hA.2.1
  have hS5 := hA.1
  by_cases hN : isTwo u v (lP (gA o)) = true
  · obtain ⟨p, q, hp, hq, hpq, rfl, rfl⟩ := isTwo_ex hN (by omega)
    cases hM : isW2 w 1 6 with
    | false =>
      rw [show q_meet o (nI p) (nI q) w = -1 by simp [q_meet, g_meet, hM]]
      refine d_run 3 rfl ?_
      refine d_callT 3 k223_8 (by omega) (Nat.le_of_ble_eq_true rfl) rfl (Nat.le_of_ble_eq_true rfl) (Nat.le_of_ble_eq_true rfl) (recv_ok rfl (by first | assumption | exact Nat.le_of_ble_eq_true rfl | omega)) rfl (e_isTwo hL (by omega)) rfl ?_
      rw [hN]
      refine d_if_eq k223_11 (fun h11 => ?_) (fun h11 => ?_)
      · exact absurd h11 (by decide)
      · refine d_run 3 rfl ?_
        refine d_callT 3 k223_18 (by omega) (Nat.le_of_ble_eq_true rfl) rfl (Nat.le_of_ble_eq_true rfl) (Nat.le_of_ble_eq_true rfl) recv_st rfl e_within rfl ?_
        rw [hM]
        refine d_if_eq k223_21 (fun h21 => ?_) (fun h21 => ?_)
        · refine d_run 1 rfl ?_
          refine d_ir k223_44 rfl (by rfl) ?_
          exact MPost.q0 h
        · exact absurd h21 (by decide)
    | true =>
      obtain ⟨n, hn, rfl⟩ := isW2_ex (H := 6) hM ⟨by decide, rfl, by decide⟩
      by_cases he : sAt (gS o) p = sAt (gS o) q
      · have eg : g_meet o (nI p) (nI q) (nI n) = false := by simp only [g_meet]; rw [ix_nI (show p < 100000 by omega), ix_nI (show q < 100000 by omega), decide_eq_false (fun e => e he), Bool.and_false]
        rw [show q_meet o (nI p) (nI q) (nI n) = -1 by simp only [q_meet]; rw [eg]; rfl]
        refine d_run 3 rfl ?_
        refine d_callT 3 k223_8 (by omega) (Nat.le_of_ble_eq_true rfl) rfl (Nat.le_of_ble_eq_true rfl) (Nat.le_of_ble_eq_true rfl) (recv_ok rfl (by first | assumption | exact Nat.le_of_ble_eq_true rfl | omega)) rfl (e_isTwo hL (by omega)) rfl ?_
        rw [hN]
        refine d_if_eq k223_11 (fun h11 => ?_) (fun h11 => ?_)
        · exact absurd h11 (by decide)
        · refine d_run 3 rfl ?_
          refine d_callT 3 k223_18 (by omega) (Nat.le_of_ble_eq_true rfl) rfl (Nat.le_of_ble_eq_true rfl) (Nat.le_of_ble_eq_true rfl) recv_st rfl e_within rfl ?_
          rw [hM]
          refine d_if_eq k223_21 (fun h21 => ?_) (fun h21 => ?_)
          · exact absurd h21 (by decide)
          · refine d_run 1 rfl ?_
            refine d_gR k223_25 (by first | assumption | exact Nat.le_of_ble_eq_true rfl | omega) ⟨rfl, rfl, rfl⟩ rfl ?_
            refine d_run 3 rfl ?_
            refine d_ia (N := 50) k223_31 (by decide) (by first | assumption | exact Nat.le_of_ble_eq_true rfl | omega) ⟨⟨rfl, rfl⟩, rfl, rfl⟩ (by first | assumption | omega) (nI_add 2 _) ?_
            rw [hS.2.2.1 p hp]
            refine d_run 1 rfl ?_
            refine d_gR k223_33 (by first | assumption | exact Nat.le_of_ble_eq_true rfl | omega) ⟨rfl, rfl, rfl⟩ rfl ?_
            refine d_run 3 rfl ?_
            refine d_ia (N := 50) k223_39 (by decide) (by first | assumption | exact Nat.le_of_ble_eq_true rfl | omega) ⟨⟨rfl, rfl⟩, rfl, rfl⟩ (by first | assumption | omega) (nI_add 2 _) ?_
            rw [hS.2.2.1 q hq]
            refine d_ic_ne k223_40 (fun h40 => ?_) (fun h40 => ?_)
            · exact absurd he h40
            · refine d_run 1 rfl ?_
              refine d_ir k223_44 rfl (by rfl) ?_
              exact MPost.q0 h
      · obtain ⟨a, ha, ea⟩ := hwS.1 p hp
        obtain ⟨c, hc, ec⟩ := hwS.1 q hq
        have hac : a ≠ c := fun e => he (by rw [ea, ec, e])
        have eg : g_meet o (nI p) (nI q) (nI n) = true := by simp only [g_meet]; rw [ix_nI (show p < 100000 by omega), ix_nI (show q < 100000 by omega), hN, hM, decide_eq_true he]; rfl
        rw [show q_meet o (nI p) (nI q) (nI n) = isum (fun k => shN (gA o) n (upd (fun _ => 0) (5 * a + c) 1000000) (6 * k)) 5 by simp only [q_meet]; rw [if_pos eg, ix_nI (show p < 100000 by omega), ix_nI (show q < 100000 by omega), ix_nI (show n < 100000 by omega), ea, ec, ix_nI (show a < 100000 by omega), ix_nI (show c < 100000 by omega)]]
        refine d_run 3 rfl ?_
        refine d_callT 3 k223_8 (by omega) (Nat.le_of_ble_eq_true rfl) rfl (Nat.le_of_ble_eq_true rfl) (Nat.le_of_ble_eq_true rfl) (recv_ok rfl (by first | assumption | exact Nat.le_of_ble_eq_true rfl | omega)) rfl (e_isTwo hL (by omega)) rfl ?_
        rw [hN]
        refine d_if_eq k223_11 (fun h11 => ?_) (fun h11 => ?_)
        · exact absurd h11 (by decide)
        · refine d_run 3 rfl ?_
          refine d_callT 3 k223_18 (by omega) (Nat.le_of_ble_eq_true rfl) rfl (Nat.le_of_ble_eq_true rfl) (Nat.le_of_ble_eq_true rfl) recv_st rfl e_within rfl ?_
          rw [hM]
          refine d_if_eq k223_21 (fun h21 => ?_) (fun h21 => ?_)
          · exact absurd h21 (by decide)
          · refine d_run 1 rfl ?_
            refine d_gR k223_25 (by first | assumption | exact Nat.le_of_ble_eq_true rfl | omega) ⟨rfl, rfl, rfl⟩ rfl ?_
            refine d_run 3 rfl ?_
            refine d_ia (N := 50) k223_31 (by decide) (by first | assumption | exact Nat.le_of_ble_eq_true rfl | omega) ⟨⟨rfl, rfl⟩, rfl, rfl⟩ (by first | assumption | omega) (nI_add 2 _) ?_
            rw [hS.2.2.1 p hp]
            refine d_run 1 rfl ?_
            refine d_gR k223_33 (by first | assumption | exact Nat.le_of_ble_eq_true rfl | omega) ⟨rfl, rfl, rfl⟩ rfl ?_
            refine d_run 3 rfl ?_
            refine d_ia (N := 50) k223_39 (by decide) (by first | assumption | exact Nat.le_of_ble_eq_true rfl | omega) ⟨⟨rfl, rfl⟩, rfl, rfl⟩ (by first | assumption | omega) (nI_add 2 _) ?_
            rw [hS.2.2.1 q hq]
            refine d_ic_ne k223_40 (fun h40 => ?_) (fun h40 => ?_)
            · refine d_run 2 rfl ?_
              refine l_rm0 (F0 := F) 50 0 _ F rfl (by omega) (fun k hk => absurd hk (by omega)) FrK.rf ?_
              intro F1 q1 q3
              have hS1 : rowS (F1 70 0) (lP (gA o)) (gS o) := by rw [q3 70 rfl]; exact hS
              have hL1 : ML F1 (gA o) := hL.fr (fun k a b => q3 k (by simp only [d78, decide_eq_false_iff_not]; omega))
              refine d_run 1 rfl ?_
              refine d_gR k223_70 (by first | assumption | exact Nat.le_of_ble_eq_true rfl | omega) ⟨rfl, rfl, rfl⟩ rfl ?_
              refine d_run 2 rfl ?_
              refine d_gR k223_75 (by first | assumption | exact Nat.le_of_ble_eq_true rfl | omega) ⟨rfl, rfl, rfl⟩ rfl ?_
              refine d_run 3 rfl ?_
              refine d_ia (N := 50) k223_81 (by decide) (by first | assumption | exact Nat.le_of_ble_eq_true rfl | omega) ⟨⟨rfl, rfl⟩, rfl, rfl⟩ (by first | assumption | omega) (nI_add 2 _) ?_
              rw [hS1.2.2.1 p hp, ea]
              refine d_run 2 rfl ?_
              refine d_gR k223_84 (by first | assumption | exact Nat.le_of_ble_eq_true rfl | omega) ⟨rfl, rfl, rfl⟩ rfl ?_
              refine d_run 3 rfl ?_
              refine d_ia (N := 50) k223_90 (by decide) (by first | assumption | exact Nat.le_of_ble_eq_true rfl | omega) ⟨⟨rfl, rfl⟩, rfl, rfl⟩ (by first | assumption | omega) (nI_add 2 _) ?_
              rw [hS1.2.2.1 q hq, ec]
              refine d_run 2 rfl ?_
              refine d_is (N := 50) (j := 5 * a + c) k223_95 (by first | assumption | exact Nat.le_of_ble_eq_true rfl | omega) ⟨rfl, rfl⟩ (show 5 * a + c < 50 by omega) (ix5b a c) ?_
              refine d_run 4 rfl ?_
              refine td_mo (l_rm4 hA (by omega) hL (show n ≤ 6 by omega) n 0 _ 0 (upd (fun _ => 0) (5 * a + c) 1000000) (upd (fun _ => 0) (5 * a + c) 1000000) _ rfl (by omega) ?_ ?_ ?_ (q3.u rfl)) ?_
              · refine ⟨fun _ _ _ _ _ => rfl, ?_, fun z h1 h2 => ?_⟩
                · have hz : ∀ z, z < 5 → upd (fun _ => (0 : Int32)) (5 * a + c) 1000000 (6 * z) = 0 := fun z hz => by rw [pk_un (by omega)]
                  rw [isum_c (h := fun _ => 0) (fun z hz5 => hz z hz5)]
                  rfl
                · rw [pk_un (by omega)]
              · intro k hk
                rw [uF_r]
                simp only [upd]
                split
                · rfl
                · exact q1 k (by omega)
              · intro k hk
                rw [uF_r, pk_un (by omega)]
                exact q1 _ (by omega)
              · rintro F3 G3 ⟨rfl, f3⟩
                exact MPost.q h hw (d78_k f3) (by rw [f3 40 rfl]) (by rw [f3 40 rfl]) (f3 74 rfl) (fun i _ => by rw [f3 70 rfl]) (fun _ _ => rfl)
            · exact absurd h40 he
  · have hN : isTwo u v (lP (gA o)) = false := by simpa using hN
    rw [show q_meet o u v w = -1 by simp [q_meet, g_meet, hN]]
    refine d_run 3 rfl ?_
    refine d_callT 3 k223_8 (by omega) (Nat.le_of_ble_eq_true rfl) rfl (Nat.le_of_ble_eq_true rfl) (Nat.le_of_ble_eq_true rfl) (recv_ok rfl (by first | assumption | exact Nat.le_of_ble_eq_true rfl | omega)) rfl (e_isTwo hL (by omega)) rfl ?_
    rw [hN]
    refine d_if_eq k223_11 (fun h11 => ?_) (fun h11 => ?_)
    · refine d_run 1 rfl ?_
      refine d_ir k223_44 rfl (by rfl) ?_
      exact MPost.q0 h
    · exact absurd h11 (by decide)
theorem e_meet (h : MInv F G o) (hw : WF o) (hd : 90 ≤ d) : Td E d 223 0 [some (vr 40 0), some (vi u), some (vi v), some (vi w), none, none, none, none] [] x F G b (some (vi (q_meet o u v w))) (MPost (o) F G) := by
  refine d_run 2 rfl ?_
  refine d_pI k223_2 (by first | assumption | exact Nat.le_of_ble_eq_true rfl | omega) ⟨rfl, rfl⟩ ?_
  exact MPost.th h hw (fun h => e_meet0 h hw hd)
end M15
