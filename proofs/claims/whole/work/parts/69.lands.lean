/-! A LAND AS IT IS READ: apart from any heap -/
abbrev LB : Type := (Nat × Nat) × (NMs × ((Nat → Nat → Int32) × ((Bool × Bool) × (List Int32 × (List Int32 × LWT)))))
abbrev bS (B : LB) : Nat := B.1.1
abbrev bP (B : LB) : Nat := B.1.2
abbrev bN (B : LB) : NMs := B.2.1
abbrev bR (B : LB) : Nat → Nat → Int32 := B.2.2.1
abbrev bF (B : LB) : Bool × Bool := B.2.2.2.1
abbrev bC (B : LB) : List Int32 := B.2.2.2.2.1
abbrev bD (B : LB) : List Int32 := B.2.2.2.2.2.1
abbrev bW (B : LB) : LWT := B.2.2.2.2.2.2
def begB : LB := ((0, 0), (fun _ => [], fun _ => []), fun r i => if r = 5 then (if i = 0 then 3 else if i = 1 then 60 else 0) else 0, (false, false), [], [], fun gg _ _ _ => 30 - gg)
def updR (R : Nat → Nat → Int32) (r i : Nat) (v : Int32) : Nat → Nat → Int32 := fun r2 i2 => if r2 = r ∧ i2 = i then v else R r2 i2
def updW (f : Nat → List Nat) (i : Nat) (w : List Nat) : Nat → List Nat := fun j => if j = i then w else f j
def findN (nm : Nat → List Nat) (w : List Nat) : Nat → Nat → Option Nat
  | _, 0 => none
  | i, k + 1 => if nm i = w then some i else findN nm w (i + 1) k
def fdV (r : Option Nat) : Int32 := match r with
  | none => -1
  | some i => nI i
def bnd {α β : Type} (r : Nat ⊕ α) (f : α → Nat ⊕ β) : Nat ⊕ β := match r with
  | .inl e => .inl e
  | .inr a => f a
theorem okB_f {α : Type} {r : Nat ⊕ α} (h : okB r = false) : ∃ f, r = .inl f := by
  cases r with
  | inl f => exact ⟨f, rfl⟩
  | inr a => cases h
theorem okB_t {α : Type} {r : Nat ⊕ α} (h : okB r = true) : ∃ a, r = .inr a := by
  cases r with
  | inl f => cases h
  | inr a => exact ⟨a, rfl⟩
abbrev fdS (B : LB) (w : List Nat) : Option Nat := findN (bN B).1 w 0 (bS B)
abbrev fdP (B : LB) (w : List Nat) : Option Nat := findN (bN B).2 w 0 (bP B)
def numH (t : TP) (p : Nat) (r : Option Nat) : Nat ⊕ Nat := if isNm t p = true then (match r with
  | some i => .inr i
  | none => .inl (2 + 16 * p)) else .inl (1 + 16 * p)
def nmV (r : Nat ⊕ Nat) : Int32 := match r with
  | .inl _ => -1
  | .inr i => nI i
def newN (t : TP) (p : Nat) (B : LB) : Nat ⊕ Nat := if isNm t p = true then (if (fdS B (tW t p)).isSome || (fdP B (tW t p)).isSome then .inl (3 + 16 * p) else .inr p) else .inl (1 + 16 * p)
def addS (B : LB) (w : List Nat) : LB := ((bS B + 1, bP B), (updW (bN B).1 (bS B) w, (bN B).2), updR (bR B) 0 (bS B) 0, B.2.2.2)
def sStreet (t : TP) (p : Nat) (B : LB) : Nat ⊕ (Nat × LB) := if 5 ≤ bS B then .inl (5 + 16 * p) else bnd (newN t (tN t p) B) (fun p1 => .inr (tN t p1, addS B (tW t p1)))
/-- rows of lanes (0), of acquaintance (4) -/
def prR2 (ss : Bool) : Nat := if ss then 0 else 4
def orB (x : Int32) (p : Nat) : Int32 := x ||| (1 <<< (nI p &&& 31))
def addP2 (B : LB) (ss : Bool) (a c : Nat) : LB := (B.1, B.2.1, updR (updR (bR B) (prR2 ss) a (orB (bR B (prR2 ss) a) c)) (prR2 ss) c (orB (bR B (prR2 ss) c) a), B.2.2.2)
def fdX (B : LB) (ss : Bool) (w : List Nat) : Option Nat := if ss then fdS B w else fdP B w
def sPair (t : TP) (p : Nat) (B : LB) (ss : Bool) : Nat ⊕ (Nat × LB) :=
  bnd (numH t (tN t p) (fdX B ss (tW t (tN t p)))) (fun a => bnd (numH t (tN t (tN t p)) (fdX B ss (tW t (tN t (tN t p))))) (fun c =>
    if (decide (a = c) || bit (bR B (prR2 ss) a) c) = true then .inl (3 + 16 * tN t (tN t p)) else .inr (tN t (tN t (tN t p)), addP2 B ss a c)))
def addPn (B : LB) (w : List Nat) (k : Int32) (a v : Nat) : LB := ((bS B, bP B + 1), ((bN B).1, updW (bN B).2 (bP B) w), updR (updR (updR (updR (bR B) 4 (bP B) 0) 1 (bP B) k) 2 (bP B) (nI a)) 3 (bP B) (nI v), B.2.2.2)
def sPerson (t : TP) (p : Nat) (B : LB) : Nat ⊕ (Nat × LB) := if 6 ≤ bP B then .inl (5 + 16 * p) else bnd (newN t (tN t p) B) (fun p1 =>
  if kdN t (tN t p1) = -1 then .inl (1 + 16 * tN t p1) else bnd (pWord t (tN t (tN t p1)) 9) (fun p4 => bnd (numH t p4 (fdS B (tW t p4))) (fun a => bnd (pWord t (tN t p4) 10) (fun p6 => bnd (pNum t p6 0 99) (fun p7 => .inr (tN t p7, addPn B (tW t p1) (kdN t (tN t p1)) a (tV t p7)))))))
def setSo (B : LB) (v : Nat) : LB := (B.1, B.2.1, updR (bR B) 5 0 (nI v), (true, (bF B).2), B.2.2.2.2)
def setSp (B : LB) (v : Nat) : LB := (B.1, B.2.1, updR (bR B) 5 1 (nI v), ((bF B).1, true), B.2.2.2.2)
def sSoon (t : TP) (p : Nat) (B : LB) : Nat ⊕ (Nat × LB) := if (bF B).1 = true then .inl (3 + 16 * p) else bnd (pNum t (tN t p) 1 9) (fun p1 => .inr (tN t p1, setSo B (tV t p1)))
def sSnap (t : TP) (p : Nat) (B : LB) : Nat ⊕ (Nat × LB) := if (bF B).2 = true then .inl (3 + 16 * p) else bnd (pNum t (tN t p) 1 99) (fun p1 => .inr (tN t p1, setSp B (tV t p1)))
def wfB (B : LB) : Prop := bS B ≤ 5 ∧ bP B ≤ 6 ∧ (∀ i, i < bS B → wfWd ((bN B).1 i)) ∧ (∀ i, i < bP B → wfWd ((bN B).2 i)) ∧ (0 < bP B → 0 < bS B) ∧ (∃ c, c ≤ 99 ∧ bR B 5 1 = nI c) ∧ (∀ p, p < bP B → ∃ a, a < bS B ∧ bR B 2 p = nI a) ∧ (∀ p, p < bP B → ∃ c, c ≤ 99 ∧ bR B 3 p = nI c) ∧ (∀ a c, a < bP B → c < 6 → (bit (bR B 4 a) c = true → c < bP B ∧ bit (bR B 4 c) a = true)) ∧ (∃ h : Nat → Nat → Bool, ∀ a, a < bS B → bR B 0 a = bset (h a) (bS B) ∧ h a a = false)
theorem findN_lt {nm : Nat → List Nat} {w : List Nat} : ∀ (k i : Nat) {j : Nat}, findN nm w i k = some j → i ≤ j ∧ j < i + k
  | 0, _, _, h => by cases h
  | k + 1, i, j, h => by
    simp only [findN] at h
    split at h
    · cases h
      omega
    · have := findN_lt k (i + 1) h
      omega
theorem updR_s {R : Nat → Nat → Int32} {r i : Nat} {v : Int32} : updR R r i v r i = v := by simp [updR]
theorem updR_n {R : Nat → Nat → Int32} {r i r2 i2 : Nat} {v : Int32} (h : ¬ (r2 = r ∧ i2 = i)) : updR R r i v r2 i2 = R r2 i2 := by simp only [updR]; rw [if_neg h]
theorem numH_r {t : TP} {p i : Nat} {r : Option Nat} (h : numH t p r = .inr i) : isNm t p = true ∧ r = some i := by
  unfold numH at h
  split at h
  · rename_i e
    refine ⟨e, ?_⟩
    cases r with
    | none => cases h
    | some j => cases h; rfl
  · cases h
theorem newN_r {t : TP} {p p1 : Nat} {B : LB} (h : newN t p B = .inr p1) : p1 = p ∧ isNm t p = true := by
  unfold newN at h
  split at h
  · rename_i e
    split at h
    · cases h
    · cases h; exact ⟨rfl, e⟩
  · cases h
theorem isNm_K {t : TP} {p : Nat} (h : isNm t p = true) : tK t p = 1 := by
  simp only [isNm, Bool.and_eq_true, decide_eq_true_eq] at h
  exact h.1
theorem pWord_r {t : TP} {p n p1 : Nat} (h : pWord t p n = .inr p1) : p1 = tN t p ∧ isWd t p n = true := by
  unfold pWord at h
  split at h
  · rename_i e; cases h; exact ⟨rfl, e⟩
  · cases h
theorem pNum_r {t : TP} {p lo hi p1 : Nat} (h : pNum t p lo hi = .inr p1) : p1 = p ∧ tK t p = 2 ∧ lo ≤ tV t p ∧ tV t p ≤ hi := by
  unfold pNum at h
  split at h
  · rename_i e
    split at h
    · rename_i e2; cases h; exact ⟨rfl, e, e2⟩
    · cases h
  · cases h
theorem bnd_r {α β : Type} {r : Nat ⊕ α} {f : α → Nat ⊕ β} {z : β} (h : bnd r f = .inr z) : ∃ a, r = .inr a ∧ f a = .inr z := by
  cases r with
  | inl e => cases h
  | inr a => exact ⟨a, rfl, h⟩
theorem bset_up {f h : Nat → Bool} {S : Nat} (h1 : ∀ k, k < S → f k = h k) (h2 : h S = false) : bset f S = bset h (S + 1) := by
  simp only [bset]
  rw [h2]
  simp only [Bool.false_eq_true, if_false]
  exact bset_c h1
theorem bset_z : ∀ S, bset (fun _ => false) S = 0
  | 0 => rfl
  | S + 1 => by simp only [bset, Bool.false_eq_true, if_false]; exact bset_z S
theorem wf_street {t : TP} {p p2 : Nat} {B B2 : LB} (hw : wfB B) (h : sStreet t p B = .inr (p2, B2)) : wfB B2 := by
  unfold sStreet at h
  split at h
  · cases h
  · rename_i h5
    obtain ⟨p1, h1, h2⟩ := bnd_r h
    obtain ⟨rfl, hn⟩ := newN_r h1
    cases h2
    obtain ⟨a1, a2, a3, a4, a5, a6, a7, a8, a9, hh, a10⟩ := hw
    refine ⟨by show bS B + 1 ≤ 5; omega, a2, fun i hi => ?_, a4, fun _ => by show 0 < bS B + 1; omega, a6, fun q hq => ?_, a8, a9, fun a c => if a < bS B then (if c < bS B then hh a c else false) else false, fun a ha => ?_⟩
    · show wfWd (updW (bN B).1 (bS B) _ i)
      unfold updW
      split
      · exact tW_ok (isNm_K hn)
      · have : i < bS B + 1 := hi
        exact a3 i (by omega)
    · obtain ⟨a, e1, e2⟩ := a7 q hq
      refine ⟨a, by show a < bS B + 1; omega, ?_⟩
      show updR (bR B) 0 (bS B) 0 2 q = _
      rw [updR_n (by omega)]
      exact e2
    · have ha : a < bS B + 1 := ha
      show updR (bR B) 0 (bS B) 0 0 a = bset _ (bS B + 1) ∧ _
      by_cases e : a = bS B
      · subst e
        rw [updR_s]
        refine ⟨?_, by simp⟩
        rw [bset_c (h := fun _ => false) (fun k _ => by simp), bset_z]
      · rw [updR_n (by omega)]
        obtain ⟨e1, e2⟩ := a10 a (by omega)
        refine ⟨?_, ?_⟩
        · rw [e1]
          exact bset_up (fun k hk => by simp [show a < bS B by omega, hk]) (by simp)
        · simp [show a < bS B by omega, e2]
theorem bit_orB {y : Int32} {p q : Nat} (hp : p < 6) (hq : q < 6) : bit (orB y p) q = (bit y q || decide (q = p)) := by
  unfold orB
  rw [bit_or _ _ _ hq, bit_sh1 _ _ hp hq]
theorem wf_pair {t : TP} {p p2 : Nat} {B B2 : LB} {ss : Bool} (hw : wfB B) (h : sPair t p B ss = .inr (p2, B2)) : wfB B2 := by
  unfold sPair at h
  obtain ⟨a, h1, h⟩ := bnd_r h
  obtain ⟨c, h2, h⟩ := bnd_r h
  split at h
  · cases h
  · rename_i hab
    cases h
    have f1 := (numH_r h1).2
    have f2 := (numH_r h2).2
    have hne : ¬ a = c := fun e => hab (by rw [decide_eq_true e]; rfl)
    obtain ⟨b1, b2, b3, b4, b5, b6, b7, b8, b9, hh, b10⟩ := hw
    cases ss with
    | true =>
      have ha := (findN_lt _ _ (show findN (bN B).1 _ 0 (bS B) = some a from f1)).2
      have hc := (findN_lt _ _ (show findN (bN B).1 _ 0 (bS B) = some c from f2)).2
      have nr : ∀ r i, r ≠ 0 → updR (updR (bR B) 0 a (orB (bR B 0 a) c)) 0 c (orB (bR B 0 c) a) r i = bR B r i := fun r i hr => by rw [updR_n (fun e => hr e.1), updR_n (fun e => hr e.1)]
      refine ⟨b1, b2, b3, b4, b5, ?_, fun q hq => ?_, fun q hq => ?_, fun x y hx hy => ?_, fun x y => hh x y || (decide (x = a) && decide (y = c)) || (decide (x = c) && decide (y = a)), fun x hx => ?_⟩
      · show ∃ z, z ≤ 99 ∧ updR (updR (bR B) 0 a (orB (bR B 0 a) c)) 0 c (orB (bR B 0 c) a) 5 1 = nI z
        rw [nr 5 1 (by decide)]; exact b6
      · show ∃ z, z < bS B ∧ updR (updR (bR B) 0 a (orB (bR B 0 a) c)) 0 c (orB (bR B 0 c) a) 2 q = nI z
        rw [nr 2 q (by decide)]; exact b7 q hq
      · show ∃ z, z ≤ 99 ∧ updR (updR (bR B) 0 a (orB (bR B 0 a) c)) 0 c (orB (bR B 0 c) a) 3 q = nI z
        rw [nr 3 q (by decide)]; exact b8 q hq
      · show bit (updR (updR (bR B) 0 a (orB (bR B 0 a) c)) 0 c (orB (bR B 0 c) a) 4 x) y = true → y < bP B ∧ bit (updR (updR (bR B) 0 a (orB (bR B 0 a) c)) 0 c (orB (bR B 0 c) a) 4 y) x = true
        rw [nr 4 x (by decide), nr 4 y (by decide)]; exact b9 x y hx hy
      · show updR (updR (bR B) 0 a (orB (bR B 0 a) c)) 0 c (orB (bR B 0 c) a) 0 x = bset _ (bS B) ∧ _
        have hx : x < bS B := hx
        obtain ⟨e1, e2⟩ := b10 x hx
        by_cases ec : x = c
        · subst ec
          rw [updR_s, e1]
          refine ⟨?_, ?_⟩
          · unfold orB
            rw [bset_or1 (by omega)]
            refine bset_c (fun k hk => ?_)
            have n1 : ¬ x = a := fun e => hne e.symm
            dsimp only
            rw [decide_eq_false n1, decide_eq_true (show x = x from rfl)]
            cases hh x k <;> cases decide (k = a) <;> rfl
          · have n1 : ¬ x = a := fun e => hne e.symm
            dsimp only
            rw [e2, decide_eq_false n1]
            simp
        · rw [updR_n (by omega)]
          by_cases ea : x = a
          · subst ea
            rw [updR_s, e1]
            refine ⟨?_, ?_⟩
            · unfold orB
              rw [bset_or1 (by omega)]
              refine bset_c (fun k hk => ?_)
              dsimp only
              rw [decide_eq_false ec, decide_eq_true (show x = x from rfl)]
              cases hh x k <;> cases decide (k = c) <;> rfl
            · dsimp only
              rw [e2, decide_eq_false ec]
              simp
          · rw [updR_n (by omega), e1]
            refine ⟨bset_c (fun k hk => ?_), ?_⟩
            · dsimp only
              rw [decide_eq_false ea, decide_eq_false ec]
              simp
            · dsimp only
              rw [decide_eq_false ea, decide_eq_false ec, e2]
              simp
    | false =>
      have ha : a < bP B := by
        have := (findN_lt _ _ (show findN (bN B).2 _ 0 (bP B) = some a from f1)).2
        omega
      have hc : c < bP B := by
        have := (findN_lt _ _ (show findN (bN B).2 _ 0 (bP B) = some c from f2)).2
        omega
      have nr : ∀ r i, r ≠ 4 → updR (updR (bR B) 4 a (orB (bR B 4 a) c)) 4 c (orB (bR B 4 c) a) r i = bR B r i := fun r i hr => by rw [updR_n (fun e => hr e.1), updR_n (fun e => hr e.1)]
      have k4 : ∀ x y, x < bP B → y < 6 → bit (updR (updR (bR B) 4 a (orB (bR B 4 a) c)) 4 c (orB (bR B 4 c) a) 4 x) y = (bit (bR B 4 x) y || (decide (x = a) && decide (y = c)) || (decide (x = c) && decide (y = a))) := by
        intro x y hx hy
        by_cases ec : x = c
        · subst ec
          rw [updR_s, bit_orB (by omega) hy, decide_eq_false (show ¬ x = a from fun e => hne e.symm), decide_eq_true (show x = x from rfl)]
          cases bit (bR B 4 x) y <;> cases decide (y = a) <;> rfl
        · rw [updR_n (by omega)]
          by_cases ea : x = a
          · subst ea
            rw [updR_s, bit_orB (by omega) hy, decide_eq_false ec, decide_eq_true (show x = x from rfl)]
            cases bit (bR B 4 x) y <;> cases decide (y = c) <;> rfl
          · rw [updR_n (by omega), decide_eq_false ea, decide_eq_false ec]
            simp
      refine ⟨b1, b2, b3, b4, b5, ?_, fun q hq => ?_, fun q hq => ?_, fun x y hx hy => ?_, hh, fun x hx => ?_⟩
      · show ∃ z, z ≤ 99 ∧ updR (updR (bR B) 4 a (orB (bR B 4 a) c)) 4 c (orB (bR B 4 c) a) 5 1 = nI z
        rw [nr 5 1 (by decide)]; exact b6
      · show ∃ z, z < bS B ∧ updR (updR (bR B) 4 a (orB (bR B 4 a) c)) 4 c (orB (bR B 4 c) a) 2 q = nI z
        rw [nr 2 q (by decide)]; exact b7 q hq
      · show ∃ z, z ≤ 99 ∧ updR (updR (bR B) 4 a (orB (bR B 4 a) c)) 4 c (orB (bR B 4 c) a) 3 q = nI z
        rw [nr 3 q (by decide)]; exact b8 q hq
      · have hx : x < bP B := hx
        show bit (updR (updR (bR B) 4 a (orB (bR B 4 a) c)) 4 c (orB (bR B 4 c) a) 4 x) y = true → y < bP B ∧ bit (updR (updR (bR B) 4 a (orB (bR B 4 a) c)) 4 c (orB (bR B 4 c) a) 4 y) x = true
        intro e
        rw [k4 x y hx hy] at e
        simp only [Bool.or_eq_true, Bool.and_eq_true, decide_eq_true_eq] at e
        rcases e with (e | e) | e
        · obtain ⟨e1, e2⟩ := b9 x y hx hy e
          refine ⟨e1, ?_⟩
          rw [k4 y x e1 (by omega), e2]
          rfl
        · obtain ⟨rfl, rfl⟩ := e
          refine ⟨hc, ?_⟩
          rw [k4 _ _ hc (by omega)]
          simp
        · obtain ⟨rfl, rfl⟩ := e
          refine ⟨ha, ?_⟩
          rw [k4 _ _ ha (by omega)]
          simp
      · show updR (updR (bR B) 4 a (orB (bR B 4 a) c)) 4 c (orB (bR B 4 c) a) 0 x = bset _ (bS B) ∧ _
        rw [nr 0 x (by decide)]
        exact b10 x hx
theorem wf_person {t : TP} {p p2 : Nat} {B B2 : LB} (hw : wfB B) (h : sPerson t p B = .inr (p2, B2)) : wfB B2 := by
  unfold sPerson at h
  split at h
  · cases h
  · rename_i h6
    obtain ⟨p1, h1, h⟩ := bnd_r h
    obtain ⟨rfl, hn⟩ := newN_r h1
    split at h
    · cases h
    · obtain ⟨p4, h2, h⟩ := bnd_r h
      obtain ⟨a, h3, h⟩ := bnd_r h
      obtain ⟨p6, h4, h⟩ := bnd_r h
      obtain ⟨p7, h5, h⟩ := bnd_r h
      cases h
      have ha := (findN_lt _ _ (numH_r h3).2).2
      obtain ⟨rfl, _, _, hv⟩ := pNum_r h5
      obtain ⟨b1, b2, b3, b4, b5, b6, b7, b8, b9, hh, b10⟩ := hw
      have rr : ∀ (k : Int32) (v : Int32) (r i : Nat), (r = 0 ∨ r = 5) ∨ i < bP B → updR (updR (updR (updR (bR B) 4 (bP B) 0) 1 (bP B) k) 2 (bP B) (nI a)) 3 (bP B) v r i = bR B r i := fun k v r i hr => by
        rw [updR_n (by omega), updR_n (by omega), updR_n (by omega), updR_n (by omega)]
      have r4 : ∀ (k : Int32) (v : Int32), updR (updR (updR (updR (bR B) 4 (bP B) 0) 1 (bP B) k) 2 (bP B) (nI a)) 3 (bP B) v 4 (bP B) = 0 := fun k v => by
        rw [updR_n (by omega), updR_n (by omega), updR_n (by omega), updR_s]
      refine ⟨b1, by show bP B + 1 ≤ 6; omega, b3, fun i hi => ?_, fun _ => by show 0 < bS B; omega, ?_, fun q hq => ?_, fun q hq => ?_, fun x y hx hy => ?_, hh, fun x hx => ?_⟩
      · show wfWd (updW (bN B).2 (bP B) _ i)
        unfold updW
        split
        · exact tW_ok (isNm_K hn)
        · have : i < bP B + 1 := hi
          exact b4 i (by omega)
      · obtain ⟨z, e1, e2⟩ := b6
        exact ⟨z, e1, e2⟩
      · have hq : q < bP B + 1 := hq
        by_cases e : q = bP B
        · subst e
          refine ⟨a, by show a < bS B; omega, ?_⟩
          show updR (updR (updR (updR (bR B) 4 (bP B) 0) 1 (bP B) (kdN t (tN t (tN t p)))) 2 (bP B) (nI a)) 3 (bP B) (nI (tV t p7)) 2 (bP B) = _
          rw [updR_n (by omega), updR_s]
        · obtain ⟨z, e1, e2⟩ := b7 q (by omega)
          refine ⟨z, e1, ?_⟩
          show updR (updR (updR (updR (bR B) 4 (bP B) 0) 1 (bP B) (kdN t (tN t (tN t p)))) 2 (bP B) (nI a)) 3 (bP B) (nI (tV t p7)) 2 q = _
          rw [rr _ _ 2 q (Or.inr (by omega))]
          exact e2
      · have hq : q < bP B + 1 := hq
        by_cases e : q = bP B
        · subst e
          refine ⟨_, hv, ?_⟩
          show updR (updR (updR (updR (bR B) 4 (bP B) 0) 1 (bP B) (kdN t (tN t (tN t p)))) 2 (bP B) (nI a)) 3 (bP B) (nI (tV t p7)) 3 (bP B) = _
          rw [updR_s]
        · obtain ⟨z, e1, e2⟩ := b8 q (by omega)
          refine ⟨z, e1, ?_⟩
          show updR (updR (updR (updR (bR B) 4 (bP B) 0) 1 (bP B) (kdN t (tN t (tN t p)))) 2 (bP B) (nI a)) 3 (bP B) (nI (tV t p7)) 3 q = _
          rw [rr _ _ 3 q (Or.inr (by omega))]
          exact e2
      · have hx : x < bP B + 1 := hx
        show bit (updR (updR (updR (updR (bR B) 4 (bP B) 0) 1 (bP B) (kdN t (tN t (tN t p)))) 2 (bP B) (nI a)) 3 (bP B) (nI (tV t p7)) 4 x) y = true → y < bP B + 1 ∧ bit (updR (updR (updR (updR (bR B) 4 (bP B) 0) 1 (bP B) (kdN t (tN t (tN t p)))) 2 (bP B) (nI a)) 3 (bP B) (nI (tV t p7)) 4 y) x = true
        by_cases e : x = bP B
        · subst e
          rw [r4, bit_0 y hy]
          intro e; cases e
        · rw [rr _ _ 4 x (Or.inr (by omega))]
          intro e1
          obtain ⟨e2, e3⟩ := b9 x y (by omega) hy e1
          refine ⟨by omega, ?_⟩
          rw [rr _ _ 4 y (Or.inr e2)]
          exact e3
      · show updR (updR (updR (updR (bR B) 4 (bP B) 0) 1 (bP B) (kdN t (tN t (tN t p)))) 2 (bP B) (nI a)) 3 (bP B) (nI (tV t p7)) 0 x = _ ∧ _
        rw [rr _ _ 0 x (Or.inl (Or.inl rfl))]
        exact b10 x hx
theorem wf_soon {t : TP} {p p2 : Nat} {B B2 : LB} (hw : wfB B) (h : sSoon t p B = .inr (p2, B2)) : wfB B2 := by
  unfold sSoon at h
  split at h
  · cases h
  · obtain ⟨p1, h1, h⟩ := bnd_r h
    cases h
    obtain ⟨b1, b2, b3, b4, b5, b6, b7, b8, b9, hh, b10⟩ := hw
    have nr : ∀ r i v, ¬ (r = 5 ∧ i = 0) → updR (bR B) 5 0 v r i = bR B r i := fun r i v hr => updR_n hr
    refine ⟨b1, b2, b3, b4, b5, ?_, fun q hq => ?_, fun q hq => ?_, fun x y hx hy => ?_, hh, fun x hx => ?_⟩
    · obtain ⟨z, e1, e2⟩ := b6
      exact ⟨z, e1, e2⟩
    · obtain ⟨z, e1, e2⟩ := b7 q hq
      exact ⟨z, e1, e2⟩
    · obtain ⟨z, e1, e2⟩ := b8 q hq
      exact ⟨z, e1, e2⟩
    · exact b9 x y hx hy
    · exact b10 x hx
theorem wf_snap {t : TP} {p p2 : Nat} {B B2 : LB} (hw : wfB B) (h : sSnap t p B = .inr (p2, B2)) : wfB B2 := by
  unfold sSnap at h
  split at h
  · cases h
  · obtain ⟨p1, h1, h⟩ := bnd_r h
    cases h
    obtain ⟨rfl, _, _, hv⟩ := pNum_r h1
    obtain ⟨b1, b2, b3, b4, b5, b6, b7, b8, b9, hh, b10⟩ := hw
    have nr : ∀ r i v, ¬ (r = 5 ∧ i = 1) → updR (bR B) 5 1 v r i = bR B r i := fun r i v hr => updR_n hr
    refine ⟨b1, b2, b3, b4, b5, ⟨_, hv, rfl⟩, fun q hq => ?_, fun q hq => ?_, fun x y hx hy => ?_, hh, fun x hx => ?_⟩
    · obtain ⟨z, e1, e2⟩ := b7 q hq
      exact ⟨z, e1, e2⟩
    · obtain ⟨z, e1, e2⟩ := b8 q hq
      exact ⟨z, e1, e2⟩
    · exact b9 x y hx hy
    · exact b10 x hx
