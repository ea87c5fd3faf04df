/-! THE PLAIN MACHINE: values (ints, longs, cells by kind and number), locals, a heap of numbered cells; a step of it is a total function. 'ex_' and 'pm_' names. -/
abbrev PV : Type := Int32 ⊕ (Int64 ⊕ (Nat × Nat))
abbrev vi (x : Int32) : PV := .inl x
abbrev vl (x : Int64) : PV := .inr (.inl x)
abbrev vr (k n : Nat) : PV := .inr (.inr (k, n))
abbrev LL : Type := List (Option PV)
abbrev FT : Type := Nat → Nat → Nat → Int32
abbrev GT : Type := Nat → Nat → Nat → Int64
abbrev RT : Type := Nat → Nat → Nat → Option Nat
/-- how many cells in all, how many of each kind; ints, longs, references by kind, number, place -/
abbrev HS : Type := (Nat × (Nat → Nat)) × (FT × (GT × RT))
/-- an instruction: what, two numbers, a constant, the next place -/
abbrev Ent : Type := Nat × (Nat × (Nat × (PV × Nat)))
def uF (F : FT) (k n i : Nat) (v : Int32) : FT := fun k' n' i' => if k' = k ∧ n' = n ∧ i' = i then v else F k' n' i'
def uG (G : GT) (k n i : Nat) (v : Int64) : GT := fun k' n' i' => if k' = k ∧ n' = n ∧ i' = i then v else G k' n' i'
def uR (R : RT) (k n i : Nat) (v : Option Nat) : RT := fun k' n' i' => if k' = k ∧ n' = n ∧ i' = i then v else R k' n' i'
/-- a row's places from a on are those of another row from b on, n of them -/
def cF (F : FT) (k n a k2 n2 b m : Nat) : FT := fun k' n' i' => if k' = k ∧ n' = n then va_cpy (F k2 n2) (F k n) b a m i' else F k' n' i'
def inb (i : Int32) (n : Nat) : Bool := !(decide (i < 0) || decide (n ≤ i.toNatClampNeg))
theorem inb_in {i : Int32} {n : Nat} (h : inb i n = true) : vp_in i n := by
  simp only [inb, Bool.not_eq_true', Bool.or_eq_false_iff, decide_eq_false_iff_not] at h
  intro hc
  rcases hc with hc | hc
  · exact h.1 hc
  · exact h.2 hc
def ibop (a : Nat) (x y : Int32) : Int32 := match a with
  | 0 => x + y
  | 1 => x - y
  | 2 => x * y
  | 3 => x &&& y
  | 4 => x ||| y
  | 5 => x ^^^ y
  | 6 => x <<< (y &&& 31)
  | 7 => x >>> (y &&& 31)
  | _ => (x.toUInt32 >>> (y.toUInt32 &&& Int32.toUInt32 31)).toInt32
def lbop (a : Nat) (x y : Int64) : Int64 := match a with
  | 0 => x + y
  | 1 => x - y
  | 2 => x * y
  | 3 => x &&& y
  | _ => x ||| y
def cnd (a : Nat) (x y : Int32) : Bool := match a with
  | 0 => decide (x = y)
  | 1 => decide (¬ x = y)
  | 2 => decide (x < y)
  | 3 => decide (y ≤ x)
  | 4 => decide (y < x)
  | _ => decide (x ≤ y)
def isL : Option PV → Bool
  | some (.inr (.inl _)) => true
  | _ => false
def clr (L : LL) : Nat → LL
  | 0 => L
  | j + 1 => if isL (L.getD j none) = true then L.set j none else L
def lset1 (L : LL) (i : Nat) (v : PV) : LL := (clr L i).set i (some v)
def lset2 (L : LL) (i : Nat) (v : PV) : LL := ((clr L i).set i (some v)).set (i + 1) none
def isW : PV → Bool
  | .inr (.inl _) => true
  | _ => false
/-- the steps that touch no heap -/
def pst (op a b : Nat) (z : PV) (q : Nat) (L : LL) (st : List PV) : Option (Nat × (LL × List PV)) :=
  match op with
  | 0 => some (q, L, z :: st)
  | 2 => match L[a]? with
    | some (some (.inl x)) => some (q, L, .inl x :: st)
    | _ => none
  | 3 => match L[a]? with
    | some (some (.inr (.inl x))) => some (q, L, .inr (.inl x) :: st)
    | _ => none
  | 4 => match L[a]? with
    | some (some (.inr (.inr (k, n)))) => if k = 99 then none else some (q, L, .inr (.inr (k, n)) :: st)
    | _ => none
  | 5 => match st with
    | .inl x :: r => if a < L.length then some (q, lset1 L a (.inl x), r) else none
    | _ => none
  | 6 => match st with
    | .inr (.inl x) :: r => if a + 1 < L.length then some (q, lset2 L a (.inr (.inl x)), r) else none
    | _ => none
  | 7 => match st with
    | .inr (.inr (k, n)) :: r => if k = 99 then none else if a < L.length then some (q, lset1 L a (.inr (.inr (k, n))), r) else none
    | _ => none
  | 8 => match L[a]?, z with
    | some (some (.inl x)), .inl y => some (q, lset1 L a (.inl (x + y)), st)
    | _, _ => none
  | 9 => match st with
    | .inl y :: .inl x :: r => some (q, L, .inl (ibop a x y) :: r)
    | _ => none
  | 10 => match st with
    | .inl y :: .inl x :: r => if y = 0 then none else some (q, L, .inl (x / y) :: r)
    | _ => none
  | 11 => match st with
    | .inl y :: .inl x :: r => if y = 0 then none else some (q, L, .inl (x - x / y * y) :: r)
    | _ => none
  | 12 => match st with
    | .inl x :: r => some (q, L, .inl (-x) :: r)
    | _ => none
  | 13 => match st with
    | .inr (.inl y) :: .inr (.inl x) :: r => some (q, L, .inr (.inl (lbop a x y)) :: r)
    | _ => none
  | 14 => match st with
    | .inl y :: .inr (.inl x) :: r => some (q, L, .inr (.inl (x <<< (y.toInt64 &&& 63))) :: r)
    | _ => none
  | 15 => match st with
    | .inl y :: .inr (.inl x) :: r => some (q, L, .inr (.inl (x.toUInt64 >>> (y.toInt64.toUInt64 &&& Int64.toUInt64 63)).toInt64) :: r)
    | _ => none
  | 16 => match st with
    | .inr (.inl y) :: .inr (.inl x) :: r => if y = 0 then none else some (q, L, .inr (.inl (x / y)) :: r)
    | _ => none
  | 17 => match st with
    | .inr (.inl y) :: .inr (.inl x) :: r => if y = 0 then none else some (q, L, .inr (.inl (x - x / y * y)) :: r)
    | _ => none
  | 18 => match st with
    | .inr (.inl y) :: .inr (.inl x) :: r => some (q, L, .inl (lg_cmp x y) :: r)
    | _ => none
  | 19 => match st with
    | .inl x :: r => some (q, L, .inr (.inl x.toInt64) :: r)
    | _ => none
  | 20 => match st with
    | .inr (.inl x) :: r => some (q, L, .inl x.toInt32 :: r)
    | _ => none
  | 21 => match st with
    | .inl x :: r => some (q, L, .inl (x.toUInt32 % 65536).toInt32 :: r)
    | _ => none
  | 22 => match st with
    | .inl x :: r => some (q, L, .inl x.toInt8.toInt32 :: r)
    | _ => none
  | 23 => match st with
    | v :: r => if isW v = true then none else some (q, L, v :: v :: r)
    | _ => none
  | 24 => match st with
    | v :: w :: r => if isW v = true ∨ isW w = true then none else some (q, L, v :: w :: v :: w :: r)
    | _ => none
  | 25 => match st with
    | v :: r => if isW v = true then none else some (q, L, r)
    | _ => none
  | 26 => some (a, L, st)
  | 27 => match st with
    | .inl x :: r => some (if cnd a x 0 = true then b else q, L, r)
    | _ => none
  | 28 => match st with
    | .inl y :: .inl x :: r => some (if cnd a x y = true then b else q, L, r)
    | _ => none
  | _ => none
/-- fewer locals known -/
def leL : LL → LL → Prop
  | [], [] => True
  | a :: l, b :: l' => (a = none ∨ a = b) ∧ leL l l'
  | _, _ => False
theorem leL.rf : ∀ l : LL, leL l l
  | [] => trivial
  | a :: l => ⟨Or.inr rfl, leL.rf l⟩
theorem leL.len : ∀ {l l' : LL}, leL l l' → l.length = l'.length
  | [], [], _ => rfl
  | _ :: _, _ :: _, h => by simp [h.2.len]
theorem leL.at : ∀ {l l' : LL} {i : Nat} {v : PV}, leL l l' → l[i]? = some (some v) → l'[i]? = some (some v)
  | [], [], _, _, _, h => by simp at h
  | a :: l, b :: l', 0, v, h, e => by
    simp at e
    rcases h.1 with h1 | h1
    · rw [h1] at e; cases e
    · simp [← h1, e]
  | a :: l, b :: l', i + 1, v, h, e => by
    simp at e
    simpa using h.2.at e
theorem leL.set : ∀ {l l' : LL} {i : Nat} {v v' : Option PV}, leL l l' → (v = none ∨ v = v') → leL (l.set i v) (l'.set i v')
  | [], [], _, _, _, _, _ => trivial
  | _ :: _, _ :: _, 0, _, _, h, e => ⟨e, h.2⟩
  | _ :: _, _ :: _, _ + 1, _, _, h, e => ⟨h.1, h.2.set e⟩
theorem leL.setR : ∀ {l l' : LL} {i : Nat}, leL l l' → l.getD i none = none → leL l (l'.set i none)
  | [], [], _, _, _ => trivial
  | a :: l, b :: l', 0, h, e => by
    simp at e
    exact ⟨Or.inl e, h.2⟩
  | a :: l, b :: l', i + 1, h, e => by
    simp only [List.getD_cons_succ] at e
    exact ⟨h.1, h.2.setR e⟩
theorem leL.getD : ∀ {l l' : LL} {i : Nat}, leL l l' → l.getD i none = none ∨ l.getD i none = l'.getD i none
  | [], [], _, _ => Or.inr rfl
  | a :: l, b :: l', 0, h => by simpa using h.1
  | a :: l, b :: l', i + 1, h => by simpa using h.2.getD
theorem leL.clr {l l' : LL} {i : Nat} (h : leL l l') : leL (clr l i) (clr l' i) := by
  cases i with
  | zero => exact h
  | succ j =>
    simp only [_root_.Jvm.Pilot.@@N@@.clr]
    rcases h.getD (i := j) with h1 | h1
    · rw [h1]
      by_cases h2 : isL (l'.getD j none) = true
      · simp only [h2, if_true]
        rw [if_neg (by simp [isL])]
        exact h.setR h1
      · simp only [h2]
        rw [if_neg (by simp [isL])]
        exact h
    · rw [h1]
      by_cases h2 : isL (l'.getD j none) = true
      · simp only [h2, if_true]
        exact h.set (Or.inr rfl)
      · simp only [h2]
        exact h
theorem leL.set1 {l l' : LL} {i : Nat} {v : PV} (h : leL l l') : leL (lset1 l i v) (lset1 l' i v) := h.clr.set (Or.inr rfl)
theorem leL.set2 {l l' : LL} {i : Nat} {v : PV} (h : leL l l') : leL (lset2 l i v) (lset2 l' i v) := (h.clr.set (Or.inr rfl)).set (Or.inr rfl)
theorem lset1_len (L : LL) (i : Nat) (v : PV) : (lset1 L i v).length = L.length := by
  unfold lset1
  cases i with
  | zero => simp [clr]
  | succ j => simp only [clr, List.length_set]; split <;> simp
theorem pst_le {op a b : Nat} {z : PV} {q : Nat} {L L' : LL} {st : List PV} {q1 : Nat} {L1 : LL} {st1 : List PV} (hL : leL L L') (h : pst op a b z q L st = some (q1, L1, st1)) : ∃ L1', leL L1 L1' ∧ pst op a b z q L' st = some (q1, L1', st1) := by
  have hlen := hL.len
  unfold pst at h ⊢
  split at h
  case h_2 =>
    split at h
    · rename_i he
      cases h
      rw [hL.at he]
      exact ⟨L', hL, rfl⟩
    · cases h
  case h_3 =>
    split at h
    · rename_i he
      cases h
      rw [hL.at he]
      exact ⟨L', hL, rfl⟩
    · cases h
  case h_4 =>
    split at h
    · rename_i he
      rw [hL.at he]
      split at h
      · cases h
      · rename_i hk
        cases h
        simp only [if_neg hk]
        exact ⟨L', hL, rfl⟩
    · cases h
  case h_5 =>
    split at h
    · split at h
      · rename_i hlt
        cases h
        simp only [if_pos (hlen ▸ hlt)]
        exact ⟨_, hL.set1, rfl⟩
      · cases h
    · cases h
  case h_6 =>
    split at h
    · split at h
      · rename_i hlt
        cases h
        simp only [if_pos (hlen ▸ hlt)]
        exact ⟨_, hL.set2, rfl⟩
      · cases h
    · cases h
  case h_7 =>
    split at h
    · split at h
      · cases h
      · rename_i hk
        split at h
        · rename_i hlt
          cases h
          simp only [if_neg hk, if_pos (hlen ▸ hlt)]
          exact ⟨_, hL.set1, rfl⟩
        · cases h
    · cases h
  case h_8 =>
    split at h
    · rename_i he
      cases h
      rw [hL.at he]
      exact ⟨_, hL.set1, rfl⟩
    · cases h
  all_goals first
    | (cases h; exact ⟨L', hL, rfl⟩)
    | (split at h
       · first
         | (cases h; exact ⟨L', hL, rfl⟩)
         | (split at h
            · cases h
            · rename_i hne
              cases h
              simp only [if_neg hne]
              exact ⟨L', hL, rfl⟩)
       · cases h)
    | (cases h)
