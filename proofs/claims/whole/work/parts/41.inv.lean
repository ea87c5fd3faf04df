/-! ALL THAT STANDS: tape, names, land, scene, marks, past -/
abbrev TP : Type := Nat × (Nat → Int32)
abbrev NMs : Type := (Nat → List Nat) × (Nat → List Nat)
abbrev SG : Type := TP × (NMs × (LA × (SC × ((Nat → Bool × SC) × List ST))))
abbrev gT (o : SG) : TP := o.1
abbrev gN (o : SG) : NMs := o.2.1
abbrev gA (o : SG) : LA := o.2.2.1
abbrev gC (o : SG) : SC := o.2.2.2.1
abbrev gM (o : SG) : Nat → Bool × SC := o.2.2.2.2.1
abbrev gP (o : SG) : List ST := o.2.2.2.2.2
abbrev gS (o : SG) : ST := o.2.2.2.1.1
abbrev gW (o : SG) : WK := o.2.2.2.1.2.1
abbrev gTl (o : SG) : Nat → Int32 := o.2.2.2.1.2.2
/-- another state, another past -/
def setS (o : SG) (s : ST) (ps : List ST) : SG := (gT o, gN o, gA o, (s, (gC o).2), gM o, ps)
def keepS (o : SG) (s : ST) : SG := setS o s ((gS o :: gP o).take 16)
/-- a word's letters as a long: by 32, by 27 -/
def w32 (l : List Nat) : Int64 := l.foldl (fun a c => a * 32 + Int64.ofNat c) 0
def w27 (l : List Nat) : Int64 := l.foldl (fun a c => a * 27 + Int64.ofNat c) 0
def CTp (F : FT) (t : TP) : Prop := F 5 0 1 = nI t.1 ∧ t.1 ≤ 1000 ∧ eqR t.1 (F 6 0) t.2
def CNm (G : GT) (l : Nat) (A : LA) (nm : NMs) : Prop := (∀ i, i < lS A → G 10 l i = w32 (nm.1 i)) ∧ ∀ i, i < lP A → G 12 l i = w32 (nm.2 i)
def CMk (F : FT) (P : Nat) (mk : Nat → Bool × SC) : Prop := ∀ j, j < 4 → F 23 (j + 1) 3 = b2i (mk j).1 ∧ ((mk j).1 = true → CSc F (j + 1) P (mk j).2)
def CInv (F : FT) (G : GT) (b : Bool) (o : SG) : Prop := CTp F (gT o) ∧ CL F (lx b) (gA o) ∧ CNm G (lx b) (gA o) (gN o) ∧ CSc F 0 (lP (gA o)) (gC o) ∧ CMk F (lP (gA o)) (gM o) ∧ CPa F (lP (gA o)) (gP o)
/-- what holds of all that may stand -/
def wfK (A : LA) (w : WK) : Prop := w.1 ≤ 40 ∧ ∀ i, i < w.1 → (w.2 0 i = 0 ∧ ∃ p q, p < lP A ∧ q < lS A ∧ w.2 1 i = nI p ∧ w.2 2 i = nI q) ∨ (w.2 0 i = 1 ∧ ∃ p q, p < lP A ∧ q < lP A ∧ p ≠ q ∧ w.2 1 i = nI p ∧ w.2 2 i = nI q) ∨ (w.2 0 i = 2 ∧ ∃ p, p < lP A ∧ w.2 1 i = nI p) ∨ w.2 0 i = 3
def wfT (A : LA) (t : Nat → Int32) : Prop := ∀ p, p < 6 → t p = -1 ∨ (p < lP A ∧ ∃ c, c ≤ 99 ∧ t p = nI c)
def wfC (A : LA) (c : SC) : Prop := wfS A c.1 ∧ wfK A c.2.1 ∧ wfT A c.2.2
def wfWd (l : List Nat) : Prop := 0 < l.length ∧ l.length ≤ 8 ∧ ∀ c, c ∈ l → 1 ≤ c ∧ c ≤ 26
def wfN (A : LA) (nm : NMs) : Prop := (∀ i, i < lS A → wfWd (nm.1 i)) ∧ ∀ i, i < lP A → wfWd (nm.2 i)
def wfTp (t : TP) : Prop := t.1 ≤ 1000 ∧ ∀ i, i < t.1 → ∃ c, t.2 i = nI c ∧ (c = 10 ∨ (32 ≤ c ∧ c ≤ 126))
def WF (o : SG) : Prop := wfL (gA o) ∧ wfC (gA o) (gC o) ∧ (∀ j, j < 4 → (gM o j).1 = true → wfC (gA o) (gM o j).2) ∧ (∀ s, s ∈ gP o → wfS (gA o) s) ∧ (gP o).length ≤ 16 ∧ wfN (gA o) (gN o) ∧ wfTp (gT o)
theorem CMk.fr {F F2 : FT} {P : Nat} {mk : Nat → Bool × SC} (h : CMk F P mk) (h23 : ∀ m, 1 ≤ m → F2 23 m = F 23 m) (hf : ∀ k m, 24 ≤ k → k ≤ 28 → 1 ≤ m → m ≤ 4 → F2 k m = F k m) (hf2 : ∀ k m, 19 ≤ k → k ≤ 22 → 2 ≤ m → F2 k m = F k m) : CMk F2 P mk := by
  intro j hj
  obtain ⟨h1, h2⟩ := h j hj
  refine ⟨?_, fun e => (h2 e).fr (fun k a b => hf k _ a b (by omega) (by omega)) (fun k a b => hf2 k _ a b (by omega))⟩
  rw [h23 _ (by omega)]
  exact h1
theorem CTp.fr {F F2 : FT} {t : TP} (h : CTp F t) (h5 : F2 5 0 = F 5 0) (h6 : F2 6 0 = F 6 0) : CTp F2 t := by
  obtain ⟨a, b, c⟩ := h
  refine ⟨?_, b, ?_⟩
  · rw [h5]; exact a
  · rw [h6]; exact c
theorem CNm.fr {G G2 : GT} {l : Nat} {A : LA} {nm : NMs} (h : CNm G l A nm) (hG : ∀ k, k ≠ 1 → G2 k = G k) : CNm G2 l A nm := by
  obtain ⟨a, b⟩ := h
  refine ⟨?_, ?_⟩
  · rw [hG 10 (by decide)]; exact a
  · rw [hG 12 (by decide)]; exact b
/-- what questions may change -/
def dQ (k m : Nat) : Bool := (decide (25 ≤ k) && decide (k ≤ 28) && decide (21 ≤ m)) || decide (k = 18) || (decide (31 ≤ k) && decide (k ≤ 39)) || decide (k = 3) || decide (k = 4)
theorem dQ_no {k m : Nat} (h : k < 25 ∨ 28 < k ∨ m < 21) (h18 : k ≠ 18) (h31 : k < 31 ∨ 39 < k) (h3 : k ≠ 3) (h4 : k ≠ 4) : dQ k m = false := by
  simp only [dQ, Bool.or_eq_false_iff, Bool.and_eq_false_iff, decide_eq_false_iff_not]
  omega
theorem dSt_Q {n : Nat} (hn : 21 ≤ n) {F F2 : FT} (h : FrD (dSt n) F F2) : FrD dQ F F2 := h.mo (fun k m e => by
  simp only [dQ, Bool.or_eq_false_iff, Bool.and_eq_false_iff, decide_eq_false_iff_not] at e
  exact dSt_no (by omega) (by omega))
theorem d18_Q {F F2 : FT} (h : FrD (fun k _ => decide (k = 18)) F F2) : FrD dQ F F2 := h.mo (fun k m e => by
  simp only [dQ, Bool.or_eq_false_iff, Bool.and_eq_false_iff, decide_eq_false_iff_not] at e
  simp only [decide_eq_false_iff_not]
  omega)
theorem CInv.fr {F F2 : FT} {G G2 : GT} {b : Bool} {o : SG} (h : CInv F G b o) (hf : FrD dQ F F2) (hG : ∀ k, k ≠ 1 → G2 k = G k) : CInv F2 G2 b o := by
  obtain ⟨h1, h2, h3, h4, h5, h6⟩ := h
  refine ⟨h1.fr (hf 5 0 rfl) (hf 6 0 rfl), h2.fr (fun k a b => hf k _ (dQ_no (by omega) (by omega) (by omega) (by omega) (by omega))), h3.fr hG, h4.fr (fun k a b => hf k _ (dQ_no (by omega) (by omega) (by omega) (by omega) (by omega))) (fun k a b => hf k _ (dQ_no (by omega) (by omega) (by omega) (by omega) (by omega))), h5.fr (fun m _ => hf 23 m (dQ_no (by omega) (by omega) (by omega) (by omega) (by omega))) (fun k m a b c d => hf k m (dQ_no (by omega) (by omega) (by omega) (by omega) (by omega))) (fun k m a b c => hf k m (dQ_no (by omega) (by omega) (by omega) (by omega) (by omega))), h6.fr (fun k m a b c d => hf k m (dQ_no (by omega) (by omega) (by omega) (by omega) (by omega))) (hf 29 0 rfl)⟩
/-- the state that stands, and the past -/
def dKS (k m : Nat) : Bool := (decide (25 ≤ k) && decide (k ≤ 28) && (decide (m = 0) || (decide (5 ≤ m) && decide (m ≤ 20)))) || decide (k = 29) || decide (k = 18)
theorem dKS_no {k m : Nat} (h : k < 25 ∨ 28 < k ∨ (0 < m ∧ m < 5)) (h18 : k ≠ 18) (h29 : k ≠ 29) : dKS k m = false := by
  simp only [dKS, Bool.or_eq_false_iff, Bool.and_eq_false_iff, decide_eq_false_iff_not]
  omega
theorem dSt_KS {F F2 : FT} (h : FrD (dSt 0) F F2) : FrD dKS F F2 := h.mo (fun k m e => by
  simp only [dKS, Bool.or_eq_false_iff, Bool.and_eq_false_iff, decide_eq_false_iff_not] at e
  exact dSt_no (by omega) (by omega))
theorem dPa_KS {F F2 : FT} (h : FrD dPa F F2) : FrD dKS F F2 := h.mo (fun k m e => by
  simp only [dKS, Bool.or_eq_false_iff, Bool.and_eq_false_iff, decide_eq_false_iff_not] at e
  simp only [dPa, Bool.or_eq_false_iff, Bool.and_eq_false_iff, decide_eq_false_iff_not]
  omega)
theorem CInv.ks {F F2 : FT} {G : GT} {b : Bool} {o : SG} {s : ST} {ps : List ST} (h : CInv F G b o) (hf : FrD dKS F F2) (hs : CS F2 0 (lP (gA o)) s) (hp : CPa F2 (lP (gA o)) ps) : CInv F2 G b (setS o s ps) := by
  obtain ⟨h1, h2, h3, h4, h5, h6⟩ := h
  refine ⟨h1.fr (hf 5 0 rfl) (hf 6 0 rfl), h2.fr (fun k a b => hf k _ (dKS_no (by omega) (by omega) (by omega))), h3, ⟨hs, h4.2.1.fr (fun k a b => hf k _ (dKS_no (by omega) (by omega) (by omega))), ?_⟩, h5.fr (fun m _ => hf 23 m (dKS_no (by omega) (by omega) (by omega))) (fun k m a b c d => hf k m (dKS_no (by omega) (by omega) (by omega))) (fun k m a b c => hf k m (dKS_no (by omega) (by omega) (by omega))), hp⟩
  show eqR 6 (F2 24 0) _
  rw [hf 24 0 rfl]
  exact h4.2.2
/-- the class's kinds alone -/
abbrev dCl (k _m : Nat) : Bool := decide (k < 40)
theorem dQ_Cl {F F2 : FT} (h : FrD dQ F F2) : FrD dCl F F2 := h.mo (fun k m e => by
  simp only [decide_eq_false_iff_not] at e
  exact dQ_no (by omega) (by omega) (by omega) (by omega) (by omega))
theorem dKS_Cl {F F2 : FT} (h : FrD dKS F F2) : FrD dCl F F2 := h.mo (fun k m e => by
  simp only [decide_eq_false_iff_not] at e
  exact dKS_no (by omega) (by omega) (by omega))
