/-! HOW IT IS, APART FROM ITS PLACE: a land (streets, people, its law, its rows), a state (streets of all, hours, the rest) -/
abbrev LA : Type := Nat × (Nat × (LWT × (Nat → Nat → Int32)))
abbrev lS (A : LA) : Nat := A.1
abbrev lP (A : LA) : Nat := A.2.1
abbrev lW (A : LA) : LWT := A.2.2.1
abbrev lLn (A : LA) : Nat → Int32 := A.2.2.2 0
abbrev lKi (A : LA) : Nat → Int32 := A.2.2.2 1
abbrev lHm (A : LA) : Nat → Int32 := A.2.2.2 2
abbrev lLf (A : LA) : Nat → Int32 := A.2.2.2 3
abbrev lKn (A : LA) : Nat → Int32 := A.2.2.2 4
abbrev lSo (A : LA) : Int32 := A.2.2.2 5 0
abbrev lSp (A : LA) : Int32 := A.2.2.2 5 1
abbrev ST : Type := (Nat → Int32) × (Int32 × SV)
abbrev sAt (s : ST) : Nat → Int32 := s.1
abbrev sHr (s : ST) : Int32 := s.2.1
abbrev sV (s : ST) : SV := s.2.2
abbrev sLf (s : ST) : Nat → Int32 := s.2.2.1
abbrev sWd (s : ST) : Nat → Int32 := s.2.2.2.1
abbrev sSn (s : ST) : Int32 := s.2.2.2.2.1
abbrev sWi (s : ST) : Int32 := s.2.2.2.2.2.1
abbrev sSp (s : ST) : Int32 := s.2.2.2.2.2.2
def sitA (s : ST) (p : Nat) : Bool := sit (sLf s) (sSn s) p
def stgA (A : LA) (s : ST) (a b : Nat) : Bool := strg (lKn A) (sWd s) (lSo A) a b
def cwkA (A : LA) (s : ST) (p q : Nat) : Bool := cwk (lLn A) (sAt s) (sLf s) (sSn s) p q
def offA (A : LA) (s : ST) (p : Nat) (st : Int32) (o : Nat) : Bool := offr (lKi A) (lKn A) (sAt s) (sLf s) (sWd s) (lSo A) (sSn s) p st o
def cwdA (A : LA) (s : ST) (w o : Nat) : Bool := cwd (lKi A) (lKn A) (sAt s) (sLf s) (sWd s) (lSo A) (sSn s) w o
def givA (A : LA) (s : ST) (w o : Nat) (goes : Int32) : Int32 := gvn (lKi A) w (lW A goes (sLf s w) (tog (sWd s) w o) (crd (sAt s) w o (lP A)))
def turnA (A : LA) (s : ST) (w o : Nat) : ST := (sAt s, sHr s, tn (lW A) (lKi A) (sAt s) (lP A) (lSp A) w o (sV s))
def repA (s : ST) (p : Nat) : ST := (sAt s, sHr s, upd (sLf s) p 1, sWd s, sSn s &&& ((1 <<< (nI p &&& 31)) ^^^ (-1)), sWi s, sSp s)
def wlkA (s : ST) (p q : Nat) : ST := (upd (sAt s) p (nI q), s.2)
def hourA (A : LA) (s : ST) : ST := (sAt s, sHr s + 1, hr (lW A) (lKi A) (lKn A) (sAt s) (lP A) (lSo A) (lSp A) (sV s))
def hrN (A : LA) (s : ST) : Int32 := sWi (hourA A s) - sWi s
def begA (A : LA) : ST := (lHm A, 0, lLf A, fun _ => 0, 0, 0, 0)
/-- the class's state n, its land l -/
def CS (F : FT) (n P : Nat) (s : ST) : Prop := eqR P (F 26 n) (sAt s) ∧ F 25 n 4 = sHr s ∧ eqV P 0 (svF F n) (sV s)
def CL (F : FT) (l : Nat) (A : LA) : Prop := F 9 l 9 = nI (lS A) ∧ F 9 l 10 = nI (lP A) ∧ F 9 l 11 = lSo A ∧ F 9 l 12 = lSp A ∧ eqR (lS A) (F 11 l) (lLn A) ∧ eqR (lP A) (F 13 l) (lKi A) ∧ eqR (lP A) (F 14 l) (lHm A) ∧ eqR (lP A) (F 15 l) (lLf A) ∧ eqR (lP A) (F 16 l) (lKn A) ∧ ∃ N, LWok F l N (lW A)
/-- what holds of every land that is told -/
def wfL (A : LA) : Prop := lS A ≤ 5 ∧ lP A ≤ 6 ∧ (0 < lP A → 0 < lS A) ∧ (∃ c, c ≤ 99 ∧ lSp A = nI c) ∧ (∀ p, p < lP A → ∃ a, a < lS A ∧ lHm A p = nI a) ∧ (∀ p, p < lP A → ∃ c, c ≤ 99 ∧ lLf A p = nI c) ∧ (∀ a b, a < lP A → b < lP A → bit (lKn A a) b = bit (lKn A b) a) ∧ (∃ h : Nat → Nat → Bool, ∀ a, a < lS A → lLn A a = bset (h a) (lS A) ∧ h a a = false)
def wfS (A : LA) (s : ST) : Prop := (∀ p, p < lP A → ∃ a, a < lS A ∧ sAt s p = nI a) ∧ wfV (lP A) (sV s) ∧ sWi s = isum (sWd s) 36
def FrD (D : Nat → Nat → Bool) (F F2 : FT) : Prop := ∀ k m, D k m = false → F2 k m = F k m
theorem FrD.rf {D : Nat → Nat → Bool} {F : FT} : FrD D F F := fun _ _ _ => rfl
theorem FrD.tr {D : Nat → Nat → Bool} {F F2 F3 : FT} (h : FrD D F F2) (h2 : FrD D F2 F3) : FrD D F F3 := fun k m e => (h2 k m e).trans (h k m e)
theorem FrD.mo {D D2 : Nat → Nat → Bool} {F F2 : FT} (h : FrD D F F2) (hD : ∀ k m, D2 k m = false → D k m = false) : FrD D2 F F2 := fun k m e => h k m (hD k m e)
theorem FrD.u {D : Nat → Nat → Bool} {F F2 : FT} (h : FrD D F F2) {k n i : Nat} {v : Int32} (hD : D k n = true) : FrD D F (uF F2 k n i v) := by
  intro k2 m e
  rw [← h k2 m e]
  funext j
  simp only [uF]
  rw [if_neg]
  rintro ⟨rfl, rfl, _⟩
  rw [hD] at e
  cases e
/-- a state's own places, and the rows of values of the law -/
def dSt (n k m : Nat) : Bool := (decide (25 ≤ k) && decide (k ≤ 28) && decide (m = n)) || decide (k = 18)
theorem dSt_no {n k m : Nat} (h : k < 25 ∨ 28 < k ∨ m ≠ n) (h2 : k ≠ 18) : dSt n k m = false := by
  simp only [dSt, Bool.or_eq_false_iff, Bool.and_eq_false_iff, decide_eq_false_iff_not]
  refine ⟨?_, h2⟩
  rcases h with h | h | h
  · exact Or.inl (Or.inl (by omega))
  · exact Or.inl (Or.inr (by omega))
  · exact Or.inr h
theorem CL.fr {F F2 : FT} {l : Nat} {A : LA} (h : CL F l A) (hf : ∀ k, 9 ≤ k → k ≤ 17 → F2 k l = F k l) : CL F2 l A := by
  obtain ⟨h1, h2, h3, h4, h5, h6, h7, h8, h9, N, k1, k2, k3, k4⟩ := h
  refine ⟨?_, ?_, ?_, ?_, ?_, ?_, ?_, ?_, ?_, N, ?_, k2, ?_, ?_⟩
  · rw [hf 9 (by omega) (by omega)]; exact h1
  · rw [hf 9 (by omega) (by omega)]; exact h2
  · rw [hf 9 (by omega) (by omega)]; exact h3
  · rw [hf 9 (by omega) (by omega)]; exact h4
  · rw [hf 11 (by omega) (by omega)]; exact h5
  · rw [hf 13 (by omega) (by omega)]; exact h6
  · rw [hf 14 (by omega) (by omega)]; exact h7
  · rw [hf 15 (by omega) (by omega)]; exact h8
  · rw [hf 16 (by omega) (by omega)]; exact h9
  · rw [hf 9 (by omega) (by omega)]; exact k1
  · rw [hf 17 (by omega) (by omega)]; exact k3
  · rw [hf 17 (by omega) (by omega)]; exact k4
theorem CL.st {F F2 : FT} {l n : Nat} {A : LA} (h : CL F l A) (hf : FrD (dSt n) F F2) : CL F2 l A := h.fr (fun k h1 h2 => hf k l (dSt_no (by omega) (by omega)))
theorem CS.fr {F F2 : FT} {n P : Nat} {s : ST} (h : CS F n P s) (hf : ∀ k, 25 ≤ k → k ≤ 28 → F2 k n = F k n) : CS F2 n P s := by
  obtain ⟨h1, h2, h3⟩ := h
  refine ⟨?_, ?_, ?_⟩
  · rw [hf 26 (by omega) (by omega)]; exact h1
  · rw [hf 25 (by omega) (by omega)]; exact h2
  · simp only [svF]
    rw [hf 25 (by omega) (by omega), hf 27 (by omega) (by omega), hf 28 (by omega) (by omega)]
    exact h3
theorem CS.st {F F2 : FT} {n m P : Nat} {s : ST} (h : CS F m P s) (hf : FrD (dSt n) F F2) (hm : m ≠ n) : CS F2 m P s := h.fr (fun k h1 h2 => hf k m (dSt_no (by omega) (by omega)))
theorem bset_c {f h : Nat → Bool} : ∀ {k : Nat}, (∀ i, i < k → f i = h i) → bset f k = bset h k
  | 0, _ => rfl
  | k + 1, e => by
    simp only [bset]
    rw [e k (by omega), bset_c (k := k) (fun i hi => e i (by omega))]
theorem isum_c {f h : Nat → Int32} : ∀ {k : Nat}, (∀ i, i < k → f i = h i) → isum f k = isum h k
  | 0, _ => rfl
  | k + 1, e => by
    simp only [isum]
    rw [e k (by omega), isum_c (k := k) (fun i hi => e i (by omega))]
theorem isum_u {f : Nat → Int32} {j : Nat} : ∀ k, isum (upd f j (f j + 1)) k = isum f k + (if j < k then 1 else 0)
  | 0 => by simp [isum]
  | k + 1 => by
    simp only [isum]
    rw [isum_u k]
    by_cases h : k = j
    · subst h
      rw [pk_us, if_neg (by omega), if_pos (by omega), Int32.add_zero, Int32.add_assoc]
    · rw [pk_un h, Int32.add_assoc, Int32.add_comm _ (f k), ← Int32.add_assoc]
      congr 1
      by_cases h2 : j < k
      · rw [if_pos h2, if_pos (by omega)]
      · rw [if_neg h2, if_neg (by omega)]
theorem tn_wi {LW : LWT} {ki at_ : Nat → Int32} {P : Nat} {snap : Int32} {w o : Nat} {s : SV} (hw : w < 6) (ho : o < 6) (h : s.2.2.2.1 = isum s.2.1 36) : (tn LW ki at_ P snap w o s).2.2.2.1 = isum (tn LW ki at_ P snap w o s).2.1 36 := by
  unfold tn
  split
  · show s.2.2.2.1 + 1 = isum (upd s.2.1 _ _) 36
    rw [isum_u, if_pos (by omega), h]
  · show s.2.2.2.1 + 1 = isum (upd s.2.1 _ _) 36
    rw [isum_u, if_pos (by omega), h]
theorem wl_wi2 {LW : LWT} {ki kn at_ : Nat → Int32} {P : Nat} {so snap : Int32} {w o : Nat} {s : SV} (hw : w < 6) (ho : o < 6) (h : s.2.2.2.1 = isum s.2.1 36) : (wl LW ki kn at_ P so snap w o s).2.2.2.1 = isum (wl LW ki kn at_ P so snap w o s).2.1 36 := by
  unfold wl
  split
  · exact tn_wi hw ho h
  · exact h
theorem inr_wi {LW : LWT} {ki kn at_ : Nat → Int32} {P : Nat} {so snap : Int32} {a : Nat} (ha : a < 6) : ∀ (k b : Nat) (s : SV), b + k ≤ 6 → s.2.2.2.1 = isum s.2.1 36 → (inr LW ki kn at_ P so snap a b k s).2.2.2.1 = isum (inr LW ki kn at_ P so snap a b k s).2.1 36
  | 0, _, _, _, h => h
  | k + 1, b, s, hb, h => inr_wi ha k (b + 1) _ (by omega) (wl_wi2 (by omega) ha (wl_wi2 ha (by omega) h))
theorem otr_wi {LW : LWT} {ki kn at_ : Nat → Int32} {P : Nat} {so snap : Int32} (hP : P ≤ 6) : ∀ (k a : Nat) (s : SV), a + k ≤ P → s.2.2.2.1 = isum s.2.1 36 → (otr LW ki kn at_ P so snap a k s).2.2.2.1 = isum (otr LW ki kn at_ P so snap a k s).2.1 36
  | 0, _, _, _, h => h
  | k + 1, a, s, hb, h => otr_wi hP k (a + 1) _ (by omega) (inr_wi (by omega) (P - (a + 1)) (a + 1) _ (by omega) h)
theorem wfS_hour {A : LA} {s : ST} (hA : wfL A) (h : wfS A s) : wfS A (hourA A s) := by
  obtain ⟨h1, h2, h3⟩ := h
  obtain ⟨c, hc, e⟩ := hA.2.2.2.1
  exact ⟨h1, hr_wf hA.2.1 e hc h2, otr_wi hA.2.1 (lP A) 0 _ (by omega) h3⟩
theorem wfS_turn {A : LA} {s : ST} {w o : Nat} (hA : wfL A) (h : wfS A s) (hw : w < lP A) (ho : o < lP A) (hb : bit (sSn s) o = false) : wfS A (turnA A s w o) := by
  obtain ⟨h1, h2, h3⟩ := h
  obtain ⟨c, hc, e⟩ := hA.2.2.2.1
  have h6 := hA.2.1
  exact ⟨h1, tn_wf hA.2.1 e hc h2 ho hb, tn_wi (by omega) (by omega) h3⟩
theorem wfS_wlk {A : LA} {s : ST} {p q : Nat} (h : wfS A s) (hq : q < lS A) : wfS A (wlkA s p q) := by
  obtain ⟨h1, h2, h3⟩ := h
  refine ⟨fun j hj => ?_, h2, h3⟩
  by_cases e : j = p
  · subst e
    exact ⟨q, hq, pk_us⟩
  · obtain ⟨a, ha, e2⟩ := h1 j hj
    exact ⟨a, ha, by rw [← e2]; exact pk_un e⟩
theorem bit_rep {x : Int32} {p q : Nat} (hp : p < 6) (hq : q < 6) : bit (x &&& ((1 <<< (nI p &&& 31)) ^^^ (-1))) q = (bit x q && decide (q ≠ p)) := by
  rw [bit_and _ _ _ hq, bit_not _ _ hq, bit_sh1 _ _ hp hq]
  by_cases h : q = p <;> simp [h]
theorem wfS_rep {A : LA} {s : ST} {p : Nat} (hA : wfL A) (h : wfS A s) (hp : p < lP A) : wfS A (repA s p) := by
  obtain ⟨h1, h2, h3⟩ := h
  have h6 := hA.2.1
  refine ⟨h1, fun j hj => ?_, h3⟩
  have hb : bit (sV (repA s p)).2.2.1 j = (bit (sSn s) j && decide (j ≠ p)) := bit_rep (by omega) (by omega)
  rw [hb]
  by_cases e : j = p
  · subst e
    refine ⟨1, by omega, pk_us, fun q => ?_⟩
    simp at q
  · obtain ⟨c, hc, e1, e2⟩ := h2 j hj
    refine ⟨c, hc, by rw [← e1]; exact pk_un e, fun q => e2 ?_⟩
    simp only [Bool.and_eq_true] at q
    exact q.1
theorem wfS_beg {A : LA} (hA : wfL A) : wfS A (begA A) := by
  obtain ⟨h1, h2, h3, h4, h5, h6, h7⟩ := hA
  refine ⟨h5, fun p hp => ?_, ?_⟩
  · obtain ⟨c, hc, e⟩ := h6 p hp
    refine ⟨c, hc, e, fun q => ?_⟩
    have q : bit 0 p = true := q
    rw [bit_0 _ (by omega)] at q
    cases q
  · show (0 : Int32) = isum (fun _ => 0) 36
    decide +kernel
