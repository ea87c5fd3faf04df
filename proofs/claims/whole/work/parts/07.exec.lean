/-! THE PLAIN MACHINE'S RUN: heap steps, calls, returns; 'Tm' says that a run from here ends so. -/
def zF (F : FT) (k n : Nat) : FT := fun k' n' i' => if k' = k ∧ n' = n then 0 else F k' n' i'
def zG (G : GT) (k n : Nat) : GT := fun k' n' i' => if k' = k ∧ n' = n then 0 else G k' n' i'
def zR (R : RT) (k n : Nat) : RT := fun k' n' i' => if k' = k ∧ n' = n then none else R k' n' i'
def uC (c : Nat → Nat) (k v : Nat) : Nat → Nat := fun j => if j = k then v else c j
def alc (k : Nat) (h : HS) : Option HS :=
  if cord[h.1.1]? = some (k, h.1.2 k) then some ((h.1.1 + 1, uC h.1.2 k (h.1.2 k + 1)), zF h.2.1 k (h.1.2 k), zG h.2.2.1 k (h.1.2 k), zR h.2.2.2 k (h.1.2 k)) else none
/-- the bytes of a text constant -/
def sby (n : Nat) : List Int32 := sbyt.getD n []
/-- the number of cells of a kind -/
abbrev hc (h : HS) (k : Nat) : Nat := h.1.2 k
/-- reads of a field: what comes -/
def gfd (h : HS) (K j k n : Nat) : Option PV :=
  if K = 90 then (if k = 90 ∧ n < 26 then (if j = 0 then some (.inr (.inr (91, n))) else some (.inl 0)) else none)
  else if k = K ∧ n < h.1.2 k then
    match (kt K).1, (kt K).2.2[j]? with
    | 0, some (0, _) => some (.inl (h.2.1 k n j))
    | 0, some (3, _) => some (.inl (h.2.1 k n j))
    | 0, some (1, _) => some (.inr (.inl (h.2.2.1 k n j)))
    | 0, some (2, rk) => match h.2.2.2 k n j with
      | some m => some (.inr (.inr (rk, m)))
      | none => none
    | _, _ => none
  else none
def pfd (h : HS) (K j k n : Nat) (v : PV) : Option HS :=
  if k = K ∧ n < h.1.2 k then
    match (kt K).1, (kt K).2.2[j]?, v with
    | 0, some (0, _), .inl x => some (h.1, uF h.2.1 k n j x, h.2.2.1, h.2.2.2)
    | 0, some (3, _), .inl x => if x = 0 ∨ x = 1 then some (h.1, uF h.2.1 k n j x, h.2.2.1, h.2.2.2) else none
    | 0, some (1, _), .inr (.inl x) => some (h.1, h.2.1, uG h.2.2.1 k n j x, h.2.2.2)
    | 0, some (2, rk), .inr (.inr (k2, m)) => if k2 = rk ∧ m < h.1.2 rk then some (h.1, h.2.1, h.2.2.1, uR h.2.2.2 k n j (some m)) else none
    | _, _, _ => none
  else none
/-- reads of a row -/
def ald (Ls : Nat) (xs : Nat → Int32) (h : HS) (a k n : Nat) (i : Int32) : Option PV :=
  if k = 0 then (if a = 1 ∧ n = 0 ∧ inb i Ls = true then some (.inl (xs i.toNatClampNeg)) else none)
  else if k = 91 then (if a = 3 ∧ n < 26 ∧ inb i (sby n).length = true then some (.inl ((sby n).getD i.toNatClampNeg 0)) else none)
  else if (kt k).1 = a ∧ n < h.1.2 k ∧ inb i (kt k).2.1 = true then
    match a with
    | 1 => some (.inl (h.2.1 k n i.toNatClampNeg))
    | 2 => some (.inl (h.2.1 k n i.toNatClampNeg))
    | 3 => some (.inl (h.2.1 k n i.toNatClampNeg))
    | 4 => some (.inr (.inl (h.2.2.1 k n i.toNatClampNeg)))
    | 5 => match h.2.2.2 k n i.toNatClampNeg, (kt k).2.2 with
      | some m, [(_, rk)] => some (.inr (.inr (rk, m)))
      | _, _ => none
    | _ => none
  else none
def ast (h : HS) (a k n : Nat) (i : Int32) (v : PV) : Option HS :=
  if (kt k).1 = a ∧ n < h.1.2 k ∧ inb i (kt k).2.1 = true then
    match a, v with
    | 1, .inl x => some (h.1, uF h.2.1 k n i.toNatClampNeg x, h.2.2.1, h.2.2.2)
    | 2, .inl x => some (h.1, uF h.2.1 k n i.toNatClampNeg (vp_nar .char x), h.2.2.1, h.2.2.2)
    | 3, .inl x => if x = 0 ∨ x = 1 then some (h.1, uF h.2.1 k n i.toNatClampNeg x, h.2.2.1, h.2.2.2) else none
    | 4, .inr (.inl x) => some (h.1, h.2.1, uG h.2.2.1 k n i.toNatClampNeg x, h.2.2.2)
    | 5, .inr (.inr (k2, m)) => match (kt k).2.2 with
      | [(_, rk)] => if k2 = rk ∧ m < h.1.2 rk then some (h.1, h.2.1, h.2.2.1, uR h.2.2.2 k n i.toNatClampNeg (some m)) else none
      | _ => none
    | _, _ => none
  else none
def aln (Ls : Nat) (h : HS) (k n : Nat) : Option Int32 :=
  if k = 0 then (if n = 0 then some (Int32.ofNat Ls) else none)
  else if k = 91 then (if n < 26 then some (Int32.ofNat (sby n).length) else none)
  else if 1 ≤ (kt k).1 ∧ (kt k).1 ≤ 5 ∧ n < h.1.2 k then some (Int32.ofNat (kt k).2.1) else none
/-- rows of ints copied, one row to another -/
def cpa (h : HS) (k2 n2 : Nat) (sp : Int32) (k n : Nat) (dp m : Int32) : Option HS :=
  if (kt k2).1 = 1 ∧ (kt k).1 = 1 ∧ n2 < h.1.2 k2 ∧ n < h.1.2 k ∧ 0 ≤ sp ∧ 0 ≤ dp ∧ 0 ≤ m ∧ sp.toNatClampNeg + m.toNatClampNeg ≤ (kt k2).2.1 ∧ dp.toNatClampNeg + m.toNatClampNeg ≤ (kt k).2.1 then
    some (h.1, cF h.2.1 k n dp.toNatClampNeg k2 n2 sp.toNatClampNeg m.toNatClampNeg, h.2.2.1, h.2.2.2)
  else none
def catP (v : PV) : Nat := if isW v = true then 2 else 1
def hst (Ls : Nat) (xs : Nat → Int32) (op a b q : Nat) (st : List PV) (h : HS) : Option (Nat × (List PV × HS)) :=
  match op with
  | 29 => match st with
    | .inr (.inr (k, n)) :: r => (gfd h a b k n).map fun v => (q, v :: r, h)
    | _ => none
  | 30 => match st with
    | v :: .inr (.inr (k, n)) :: r => (pfd h a b k n v).map fun h1 => (q, r, h1)
    | _ => none
  | 31 => match st with
    | .inl i :: .inr (.inr (k, n)) :: r => (ald Ls xs h a k n i).map fun v => (q, v :: r, h)
    | _ => none
  | 32 => match st with
    | v :: .inl i :: .inr (.inr (k, n)) :: r => (ast h a k n i v).map fun h1 => (q, r, h1)
    | _ => none
  | 33 => match st with
    | .inr (.inr (k, n)) :: r => (aln Ls h k n).map fun v => (q, .inl v :: r, h)
    | _ => none
  | 38 => match st with
    | .inl x :: r => match tswt[a]? with
      | some (lo, ts, df) => some (if x.toInt < lo then df else (ts[(x.toInt - lo).toNat]?).getD df, r, h)
      | none => none
    | _ => none
  | 39 => if (kt a).1 = 0 then (alc a h).map fun h1 => (q, .inr (.inr (a, h.1.2 a)) :: st, h1) else none
  | 40 => match st with
    | .inl x :: r => if 1 ≤ (kt a).1 ∧ (kt a).1 ≤ 4 ∧ x = Int32.ofNat (kt a).2.1 then (alc a h).map fun h1 => (q, .inr (.inr (a, h.1.2 a)) :: r, h1) else none
    | _ => none
  | 41 => match st with
    | .inl x :: r => if (kt a).1 = 5 ∧ x = Int32.ofNat (kt a).2.1 then (alc a h).map fun h1 => (q, .inr (.inr (a, h.1.2 a)) :: r, h1) else none
    | _ => none
  | 44 => match st with
    | .inr (.inr (k, n)) :: r => if k < 90 ∧ (r.map catP).sum ≤ 8 then some (q, r, h) else none
    | _ => none
  | 46 => match st with
    | .inl m :: .inl dp :: .inr (.inr (k, n)) :: .inl sp :: .inr (.inr (k2, n2)) :: r => if (r.map catP).sum ≤ 8 then (cpa h k2 n2 sp k n dp m).map fun h1 => (q, r, h1) else none
    | _ => none
  | 47 => match st with
    | .inl y :: .inl x :: r => if (r.map catP).sum ≤ 8 then some (q, .inl (if x < y then y else x) :: r, h) else none
    | _ => none
  | 48 => match st with
    | .inl y :: .inl x :: r => if (r.map catP).sum ≤ 8 then some (q, .inl (if y < x then y else x) :: r, h) else none
    | _ => none
  | _ => none
def entG : List PV → LL
  | [] => []
  | .inr (.inl x) :: r => some (.inr (.inl x)) :: none :: entG r
  | v :: r => some v :: entG r
/-- the locals at a method's entry -/
def entL (m : Nat) (args : List PV) : LL := entG args ++ List.replicate (mx m - (entG args).length) none
/-- an answer of the kind that its method tells -/
def okr (a : Nat) (x : Int32) : Bool := match a with
  | 1 => true
  | 2 => decide (x = 0 ∨ x = 1)
  | 3 => decide ((x.toUInt32 % 65536).toInt32 = x)
  | 4 => decide (x.toInt8.toInt32 = x)
  | _ => false
/-- the receiver is of the kind that is called -/
def recv (z : PV) (b : Nat) (h : HS) (as : List PV) : Bool := match z with
  | .inr (.inr (K, _)) => match as with
    | .inr (.inr (k, n)) :: _ => decide (k = K ∧ n < (if K = 90 then 26 else h.1.2 k))
    | _ => false
  | _ => true
/-- what a method of another kind does: its answer, the heap behind it -/
abbrev Orc : Type := List PV → HS → Option (Option PV × HS)
def exec (Ls : Nat) (xs : Nat → Int32) (orc : Orc) : Nat → Nat → Nat → Nat → LL → List PV → HS → Option (Option PV × HS)
  | 0, _, _, _, _, _, _ => none
  | f + 1, d, m, pc, L, st, h => match cod m pc with
    | none => none
    | some (op, a, b, z, q) =>
      if op < 29 then match pst op a b z q L st with
        | some (q1, L1, st1) => exec Ls xs orc f d m q1 L1 st1 h
        | none => none
      else if op = 34 then match d with
        | 0 => none
        | d1 + 1 =>
          if b ≤ st.length ∧ ((st.drop b).map catP).sum ≤ 8 ∧ (entG (st.take b).reverse).length ≤ mx a ∧ recv z b h (st.take b).reverse = true then
            match exec Ls xs orc f d1 a 0 (entL a (st.take b).reverse) [] h with
            | some (r, h1) => exec Ls xs orc f (d1 + 1) m q L (r.toList ++ st.drop b) h1
            | none => none
          else none
      else if op = 45 then match d with
        | 0 => none
        | d1 + 1 => if b ≤ st.length ∧ ((st.drop b).map catP).sum ≤ 8 then match orc (st.take b).reverse h with
          | some (r, h1) => exec Ls xs orc f (d1 + 1) m q L (r.toList ++ st.drop b) h1
          | none => none
        else none
      else if op = 35 then match st with
        | [] => some (none, h)
        | _ => none
      else if op = 36 then match st with
        | [.inl x] => if okr a x = true then some (some (.inl x), h) else none
        | _ => none
      else if 44 ≤ op ∧ d = 0 then none
      else match hst Ls xs op a b q st h with
        | some (q1, st1, h1) => exec Ls xs orc f d m q1 L st1 h1
        | none => none
