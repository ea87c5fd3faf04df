/-! SOUNDNESS I: the steps that touch no heap (written by wip/whole/gen05.py) -/
/-- where the script lies; where the cells begin; the classes; the arrays' classes; text constants and their bytes; a reference of which nothing is said -/
abbrev CX : Type := Nat × (Nat × (va_G × ((Nat → ClassId) × ((Nat → Nat) × ((Nat → Nat) × Value)))))
abbrev xb (X : CX) : Nat := X.1
abbrev xz (X : CX) : Nat := X.2.1
abbrev xD (X : CX) : va_G := X.2.2.1
abbrev xc (X : CX) : Nat → ClassId := X.2.2.2.1
abbrev xK (X : CX) : Nat → Nat := X.2.2.2.2.1
abbrev xV (X : CX) : Nat → Nat := X.2.2.2.2.2.1
abbrev xo (X : CX) : Value := X.2.2.2.2.2.2
def pos (k n : Nat) : Nat := cord.idxOf (k, n)
def trv (X : CX) : PV → Value
  | .inl x => .int x
  | .inr (.inl x) => .long x
  | .inr (.inr (k, n)) => if k = 0 then .ref (xb X) else if k = 90 then .ref (xK X n) else if k = 91 then .ref (xV X n) else if k = 99 then xo X else .ref (xz X + pos k n)
def prL (X : CX) : Nat → LL → List (Nat × Value)
  | _, [] => []
  | i, none :: r => prL X (i + 1) r
  | i, some v :: r => (i, trv X v) :: prL X (i + 1) r
theorem prL_mem {X : CX} {i : Nat} {w : Value} : ∀ (o : Nat) (L : LL), (i, w) ∈ prL X o L ↔ ∃ j v, L[j]? = some (some v) ∧ i = o + j ∧ w = trv X v
  | o, [] => by simp [prL]
  | o, none :: r => by
    simp only [prL]
    rw [prL_mem (o + 1) r]
    constructor
    · rintro ⟨j, v, h1, h2, h3⟩
      exact ⟨j + 1, v, by simpa using h1, by omega, h3⟩
    · rintro ⟨j, v, h1, h2, h3⟩
      cases j with
      | zero => simp at h1
      | succ j => exact ⟨j, v, by simpa using h1, by omega, h3⟩
  | o, some u :: r => by
    simp only [prL, List.mem_cons]
    rw [prL_mem (o + 1) r]
    constructor
    · rintro (h | ⟨j, v, h1, h2, h3⟩)
      · cases h
        exact ⟨0, u, by simp, by omega, rfl⟩
      · exact ⟨j + 1, v, by simpa using h1, by omega, h3⟩
    · rintro ⟨j, v, h1, h2, h3⟩
      cases j with
      | zero =>
        simp at h1
        subst h1
        left
        rw [h2, h3]
        simp
      | succ j => exact Or.inr ⟨j, v, by simpa using h1, by omega, h3⟩
def hasL (X : CX) (ls : Array Slot) (nL : Nat) (L : LL) : Prop := L.length = nL ∧ lv_has ls nL (prL X 0 L)
theorem hasL.at {X : CX} {ls : Array Slot} {nL : Nat} {L : LL} (h : hasL X ls nL L) {i : Nat} {v : PV} (e : L[i]? = some (some v)) : ls[i]? = some (.val (trv X v)) :=
  h.2.2.2 (i, trv X v) ((prL_mem 0 L).mpr ⟨i, v, e, by omega, rfl⟩)
theorem hasL.idx {X : CX} {ls : Array Slot} {nL : Nat} {L : LL} (h : hasL X ls nL L) {i : Nat} {v : PV} (e : L[i]? = some (some v)) : ∃ k : Nat, (prL X 0 L)[k]? = some (i, trv X v) :=
  List.mem_iff_getElem?.mp ((prL_mem 0 L).mpr ⟨i, v, e, by omega, rfl⟩)
theorem trv_cat {X : CX} (hX : (xo X).category = 1) {v : PV} (h : isL (some v) = false) : (trv X v).category = 1 := by
  match v with
  | .inl x => rfl
  | .inr (.inl x) => simp [isL] at h
  | .inr (.inr (k, n)) =>
    simp only [trv]
    split
    · rfl
    · split
      · rfl
      · split
        · rfl
        · split
          · exact hX
          · rfl
theorem isW_L (v : PV) : isL (some v) = isW v := by
  match v with
  | .inl x => rfl
  | .inr (.inl x) => rfl
  | .inr (.inr x) => rfl
theorem clr_len (L : LL) (i : Nat) : (clr L i).length = L.length := by
  cases i with
  | zero => rfl
  | succ j => simp only [clr]; split <;> simp
theorem clr_at {L : LL} {i j : Nat} {w : PV} (h : (clr L i)[j]? = some (some w)) : L[j]? = some (some w) ∧ (j + 1 = i → isL (some w) = false) := by
  cases i with
  | zero => exact ⟨h, fun e => by omega⟩
  | succ k =>
    simp only [clr] at h
    by_cases hk : isL (L.getD k none) = true
    · rw [if_pos hk] at h
      by_cases hjk : k = j
      · subst hjk
        rw [List.getElem?_set_self'] at h
        cases hq : L[k]? with
        | none => rw [hq] at h; cases h
        | some x => rw [hq] at h; cases h
      · rw [List.getElem?_set_ne hjk] at h
        exact ⟨h, fun e => by omega⟩
    · rw [if_neg hk] at h
      refine ⟨h, fun e => ?_⟩
      have e2 : j = k := by omega
      subst e2
      have h3 : L.getD j none = some w := by simp [List.getD, h]
      rw [h3] at hk
      simpa using hk
theorem hasL.s1 {X : CX} (hX : (xo X).category = 1) {ls ls' : Array Slot} {nL : Nat} {L : LL} (h : hasL X ls nL L) {i : Nat} {v : PV} (h' : lv_has ls' nL ((i, trv X v) :: (prL X 0 L).filter (fun q => !(q.1 == i) && !(q.1 + 1 == i && q.2.category == 2)))) : hasL X ls' nL (lset1 L i v) := by
  refine ⟨by simp [lset1, clr_len, h.1], h'.1, h'.2.1, ?_⟩
  rintro ⟨j, w⟩ hq
  obtain ⟨j', u, h1, h2, rfl⟩ := (prL_mem 0 _).mp hq
  have h2 : j = j' := by omega
  subst h2
  refine h'.2.2 (j, trv X u) ?_
  unfold lset1 at h1
  by_cases hij : i = j
  · subst hij
    rw [List.getElem?_set_self'] at h1
    cases hq : (clr L i)[i]? with
    | none => rw [hq] at h1; cases h1
    | some x =>
      rw [hq] at h1
      cases h1
      exact List.mem_cons_self
  · rw [List.getElem?_set_ne hij] at h1
    obtain ⟨h3, h4⟩ := clr_at h1
    refine List.mem_cons_of_mem _ (List.mem_filter.mpr ⟨(prL_mem 0 L).mpr ⟨j, u, h3, by omega, rfl⟩, ?_⟩)
    simp only [Bool.and_eq_true, Bool.not_eq_true', beq_eq_false_iff_ne, Bool.and_eq_false_imp, beq_iff_eq]
    refine ⟨fun e => hij e.symm, fun e => ?_⟩
    rw [trv_cat hX (h4 e)]
    decide
theorem hasL.s2 {X : CX} (hX : (xo X).category = 1) {ls ls' : Array Slot} {nL : Nat} {L : LL} (h : hasL X ls nL L) {i : Nat} {v : PV} (h' : lv_has ls' nL ((i, trv X v) :: (prL X 0 L).filter (fun q => !(q.1 == i) && (!(q.1 == i + 1) && !(q.1 + 1 == i && q.2.category == 2))))) : hasL X ls' nL (lset2 L i v) := by
  refine ⟨by simp [lset2, clr_len, h.1], h'.1, h'.2.1, ?_⟩
  rintro ⟨j, w⟩ hq
  obtain ⟨j', u, h1, h2, rfl⟩ := (prL_mem 0 _).mp hq
  have h2 : j = j' := by omega
  subst h2
  refine h'.2.2 (j, trv X u) ?_
  unfold lset2 at h1
  by_cases hi1 : i + 1 = j
  · subst hi1
    rw [List.getElem?_set_self'] at h1
    cases hq : ((clr L i).set i (some v))[i + 1]? with
    | none => rw [hq] at h1; cases h1
    | some x => rw [hq] at h1; cases h1
  · rw [List.getElem?_set_ne hi1] at h1
    by_cases hij : i = j
    · subst hij
      rw [List.getElem?_set_self'] at h1
      cases hq : (clr L i)[i]? with
      | none => rw [hq] at h1; cases h1
      | some x =>
        rw [hq] at h1
        cases h1
        exact List.mem_cons_self
    · rw [List.getElem?_set_ne hij] at h1
      obtain ⟨h3, h4⟩ := clr_at h1
      refine List.mem_cons_of_mem _ (List.mem_filter.mpr ⟨(prL_mem 0 L).mpr ⟨j, u, h3, by omega, rfl⟩, ?_⟩)
      simp only [Bool.and_eq_true, Bool.not_eq_true', beq_eq_false_iff_ne, Bool.and_eq_false_imp, beq_iff_eq]
      refine ⟨fun e => hij e.symm, fun e => hi1 e.symm, fun e => ?_⟩
      rw [trv_cat hX (h4 e)]
      decide

/-- an entry fits an instruction that needs no word of the tables -/
def agp (pc : Nat) (ins : Instr) (len op a b : Nat) (z : PV) (q : Nat) : Prop := match ins with
  | .iconst n => op = 0 ∧ len = 1 ∧ q = pc + 1 ∧ z = .inl (Int32.ofInt n)
  | .bipush n => op = 0 ∧ len = 2 ∧ q = pc + 2 ∧ z = .inl ((Int8.ofInt n).toInt32)
  | .sipush n => op = 0 ∧ len = 3 ∧ q = pc + 3 ∧ z = .inl ((Int16.ofInt n).toInt32)
  | .lconst n => op = 0 ∧ len = 1 ∧ q = pc + 1 ∧ z = .inr (.inl (Int64.ofNat (n : Nat)))
  | .iload_n k => op = 2 ∧ len = 1 ∧ q = pc + 1 ∧ a = (k : Nat)
  | .iload k => op = 2 ∧ len = 2 ∧ q = pc + 2 ∧ a = k
  | .lload_n k => op = 3 ∧ len = 1 ∧ q = pc + 1 ∧ a = (k : Nat)
  | .lload k => op = 3 ∧ len = 2 ∧ q = pc + 2 ∧ a = k
  | .aload_n k => op = 4 ∧ len = 1 ∧ q = pc + 1 ∧ a = (k : Nat)
  | .aload k => op = 4 ∧ len = 2 ∧ q = pc + 2 ∧ a = k
  | .astore_n k => op = 7 ∧ len = 1 ∧ q = pc + 1 ∧ a = (k : Nat)
  | .astore k => op = 7 ∧ len = 2 ∧ q = pc + 2 ∧ a = k
  | .istore_n k => op = 5 ∧ len = 1 ∧ q = pc + 1 ∧ a = (k : Nat)
  | .istore k => op = 5 ∧ len = 2 ∧ q = pc + 2 ∧ a = k
  | .lstore_n k => op = 6 ∧ len = 1 ∧ q = pc + 1 ∧ a = (k : Nat)
  | .lstore k => op = 6 ∧ len = 2 ∧ q = pc + 2 ∧ a = k
  | .iinc k n => op = 8 ∧ len = 3 ∧ q = pc + 3 ∧ a = k ∧ z = .inl (Int32.ofInt n)
  | .iadd => op = 9 ∧ len = 1 ∧ q = pc + 1 ∧ a = 0
  | .isub => op = 9 ∧ len = 1 ∧ q = pc + 1 ∧ a = 1
  | .imul => op = 9 ∧ len = 1 ∧ q = pc + 1 ∧ a = 2
  | .iand => op = 9 ∧ len = 1 ∧ q = pc + 1 ∧ a = 3
  | .ior => op = 9 ∧ len = 1 ∧ q = pc + 1 ∧ a = 4
  | .ixor => op = 9 ∧ len = 1 ∧ q = pc + 1 ∧ a = 5
  | .ishl => op = 9 ∧ len = 1 ∧ q = pc + 1 ∧ a = 6
  | .ishr => op = 9 ∧ len = 1 ∧ q = pc + 1 ∧ a = 7
  | .iushr => op = 9 ∧ len = 1 ∧ q = pc + 1 ∧ a = 8
  | .idiv => op = 10 ∧ len = 1 ∧ q = pc + 1
  | .irem => op = 11 ∧ len = 1 ∧ q = pc + 1
  | .ineg => op = 12 ∧ len = 1 ∧ q = pc + 1
  | .ladd => op = 13 ∧ len = 1 ∧ q = pc + 1 ∧ a = 0
  | .lsub => op = 13 ∧ len = 1 ∧ q = pc + 1 ∧ a = 1
  | .lmul => op = 13 ∧ len = 1 ∧ q = pc + 1 ∧ a = 2
  | .land => op = 13 ∧ len = 1 ∧ q = pc + 1 ∧ a = 3
  | .lor => op = 13 ∧ len = 1 ∧ q = pc + 1 ∧ a = 4
  | .lshl => op = 14 ∧ len = 1 ∧ q = pc + 1
  | .lushr => op = 15 ∧ len = 1 ∧ q = pc + 1
  | .ldiv => op = 16 ∧ len = 1 ∧ q = pc + 1
  | .lrem => op = 17 ∧ len = 1 ∧ q = pc + 1
  | .lcmp => op = 18 ∧ len = 1 ∧ q = pc + 1
  | .i2l => op = 19 ∧ len = 1 ∧ q = pc + 1
  | .l2i => op = 20 ∧ len = 1 ∧ q = pc + 1
  | .i2c => op = 21 ∧ len = 1 ∧ q = pc + 1
  | .i2b => op = 22 ∧ len = 1 ∧ q = pc + 1
  | .dup => op = 23 ∧ len = 1 ∧ q = pc + 1
  | .dup2 => op = 24 ∧ len = 1 ∧ q = pc + 1
  | .pop => op = 25 ∧ len = 1 ∧ q = pc + 1
  | .goto off => op = 26 ∧ len = 3 ∧ (pc : Int) + off = (a : Int)
  | .ifCond .eq off => op = 27 ∧ len = 3 ∧ q = pc + 3 ∧ a = 0 ∧ (pc : Int) + off = (b : Int)
  | .ifCond .ne off => op = 27 ∧ len = 3 ∧ q = pc + 3 ∧ a = 1 ∧ (pc : Int) + off = (b : Int)
  | .ifCond .lt off => op = 27 ∧ len = 3 ∧ q = pc + 3 ∧ a = 2 ∧ (pc : Int) + off = (b : Int)
  | .ifCond .ge off => op = 27 ∧ len = 3 ∧ q = pc + 3 ∧ a = 3 ∧ (pc : Int) + off = (b : Int)
  | .ifCond .gt off => op = 27 ∧ len = 3 ∧ q = pc + 3 ∧ a = 4 ∧ (pc : Int) + off = (b : Int)
  | .ifCond .le off => op = 27 ∧ len = 3 ∧ q = pc + 3 ∧ a = 5 ∧ (pc : Int) + off = (b : Int)
  | .if_icmp .eq off => op = 28 ∧ len = 3 ∧ q = pc + 3 ∧ a = 0 ∧ (pc : Int) + off = (b : Int)
  | .if_icmp .ne off => op = 28 ∧ len = 3 ∧ q = pc + 3 ∧ a = 1 ∧ (pc : Int) + off = (b : Int)
  | .if_icmp .lt off => op = 28 ∧ len = 3 ∧ q = pc + 3 ∧ a = 2 ∧ (pc : Int) + off = (b : Int)
  | .if_icmp .ge off => op = 28 ∧ len = 3 ∧ q = pc + 3 ∧ a = 3 ∧ (pc : Int) + off = (b : Int)
  | .if_icmp .gt off => op = 28 ∧ len = 3 ∧ q = pc + 3 ∧ a = 4 ∧ (pc : Int) + off = (b : Int)
  | .if_icmp .le off => op = 28 ∧ len = 3 ∧ q = pc + 3 ∧ a = 5 ∧ (pc : Int) + off = (b : Int)
  | _ => False
def agb (pc : Nat) (ins : Instr) (len op a b : Nat) (z : PV) (q : Nat) : Bool := match ins with
  | .iconst n => decide (op = 0 ∧ len = 1 ∧ q = pc + 1 ∧ z = .inl (Int32.ofInt n))
  | .bipush n => decide (op = 0 ∧ len = 2 ∧ q = pc + 2 ∧ z = .inl ((Int8.ofInt n).toInt32))
  | .sipush n => decide (op = 0 ∧ len = 3 ∧ q = pc + 3 ∧ z = .inl ((Int16.ofInt n).toInt32))
  | .lconst n => decide (op = 0 ∧ len = 1 ∧ q = pc + 1 ∧ z = .inr (.inl (Int64.ofNat (n : Nat))))
  | .iload_n k => decide (op = 2 ∧ len = 1 ∧ q = pc + 1 ∧ a = (k : Nat))
  | .iload k => decide (op = 2 ∧ len = 2 ∧ q = pc + 2 ∧ a = k)
  | .lload_n k => decide (op = 3 ∧ len = 1 ∧ q = pc + 1 ∧ a = (k : Nat))
  | .lload k => decide (op = 3 ∧ len = 2 ∧ q = pc + 2 ∧ a = k)
  | .aload_n k => decide (op = 4 ∧ len = 1 ∧ q = pc + 1 ∧ a = (k : Nat))
  | .aload k => decide (op = 4 ∧ len = 2 ∧ q = pc + 2 ∧ a = k)
  | .astore_n k => decide (op = 7 ∧ len = 1 ∧ q = pc + 1 ∧ a = (k : Nat))
  | .astore k => decide (op = 7 ∧ len = 2 ∧ q = pc + 2 ∧ a = k)
  | .istore_n k => decide (op = 5 ∧ len = 1 ∧ q = pc + 1 ∧ a = (k : Nat))
  | .istore k => decide (op = 5 ∧ len = 2 ∧ q = pc + 2 ∧ a = k)
  | .lstore_n k => decide (op = 6 ∧ len = 1 ∧ q = pc + 1 ∧ a = (k : Nat))
  | .lstore k => decide (op = 6 ∧ len = 2 ∧ q = pc + 2 ∧ a = k)
  | .iinc k n => decide (op = 8 ∧ len = 3 ∧ q = pc + 3 ∧ a = k ∧ z = .inl (Int32.ofInt n))
  | .iadd => decide (op = 9 ∧ len = 1 ∧ q = pc + 1 ∧ a = 0)
  | .isub => decide (op = 9 ∧ len = 1 ∧ q = pc + 1 ∧ a = 1)
  | .imul => decide (op = 9 ∧ len = 1 ∧ q = pc + 1 ∧ a = 2)
  | .iand => decide (op = 9 ∧ len = 1 ∧ q = pc + 1 ∧ a = 3)
  | .ior => decide (op = 9 ∧ len = 1 ∧ q = pc + 1 ∧ a = 4)
  | .ixor => decide (op = 9 ∧ len = 1 ∧ q = pc + 1 ∧ a = 5)
  | .ishl => decide (op = 9 ∧ len = 1 ∧ q = pc + 1 ∧ a = 6)
  | .ishr => decide (op = 9 ∧ len = 1 ∧ q = pc + 1 ∧ a = 7)
  | .iushr => decide (op = 9 ∧ len = 1 ∧ q = pc + 1 ∧ a = 8)
  | .idiv => decide (op = 10 ∧ len = 1 ∧ q = pc + 1)
  | .irem => decide (op = 11 ∧ len = 1 ∧ q = pc + 1)
  | .ineg => decide (op = 12 ∧ len = 1 ∧ q = pc + 1)
  | .ladd => decide (op = 13 ∧ len = 1 ∧ q = pc + 1 ∧ a = 0)
  | .lsub => decide (op = 13 ∧ len = 1 ∧ q = pc + 1 ∧ a = 1)
  | .lmul => decide (op = 13 ∧ len = 1 ∧ q = pc + 1 ∧ a = 2)
  | .land => decide (op = 13 ∧ len = 1 ∧ q = pc + 1 ∧ a = 3)
  | .lor => decide (op = 13 ∧ len = 1 ∧ q = pc + 1 ∧ a = 4)
  | .lshl => decide (op = 14 ∧ len = 1 ∧ q = pc + 1)
  | .lushr => decide (op = 15 ∧ len = 1 ∧ q = pc + 1)
  | .ldiv => decide (op = 16 ∧ len = 1 ∧ q = pc + 1)
  | .lrem => decide (op = 17 ∧ len = 1 ∧ q = pc + 1)
  | .lcmp => decide (op = 18 ∧ len = 1 ∧ q = pc + 1)
  | .i2l => decide (op = 19 ∧ len = 1 ∧ q = pc + 1)
  | .l2i => decide (op = 20 ∧ len = 1 ∧ q = pc + 1)
  | .i2c => decide (op = 21 ∧ len = 1 ∧ q = pc + 1)
  | .i2b => decide (op = 22 ∧ len = 1 ∧ q = pc + 1)
  | .dup => decide (op = 23 ∧ len = 1 ∧ q = pc + 1)
  | .dup2 => decide (op = 24 ∧ len = 1 ∧ q = pc + 1)
  | .pop => decide (op = 25 ∧ len = 1 ∧ q = pc + 1)
  | .goto off => decide (op = 26 ∧ len = 3 ∧ (pc : Int) + off = (a : Int))
  | .ifCond .eq off => decide (op = 27 ∧ len = 3 ∧ q = pc + 3 ∧ a = 0 ∧ (pc : Int) + off = (b : Int))
  | .ifCond .ne off => decide (op = 27 ∧ len = 3 ∧ q = pc + 3 ∧ a = 1 ∧ (pc : Int) + off = (b : Int))
  | .ifCond .lt off => decide (op = 27 ∧ len = 3 ∧ q = pc + 3 ∧ a = 2 ∧ (pc : Int) + off = (b : Int))
  | .ifCond .ge off => decide (op = 27 ∧ len = 3 ∧ q = pc + 3 ∧ a = 3 ∧ (pc : Int) + off = (b : Int))
  | .ifCond .gt off => decide (op = 27 ∧ len = 3 ∧ q = pc + 3 ∧ a = 4 ∧ (pc : Int) + off = (b : Int))
  | .ifCond .le off => decide (op = 27 ∧ len = 3 ∧ q = pc + 3 ∧ a = 5 ∧ (pc : Int) + off = (b : Int))
  | .if_icmp .eq off => decide (op = 28 ∧ len = 3 ∧ q = pc + 3 ∧ a = 0 ∧ (pc : Int) + off = (b : Int))
  | .if_icmp .ne off => decide (op = 28 ∧ len = 3 ∧ q = pc + 3 ∧ a = 1 ∧ (pc : Int) + off = (b : Int))
  | .if_icmp .lt off => decide (op = 28 ∧ len = 3 ∧ q = pc + 3 ∧ a = 2 ∧ (pc : Int) + off = (b : Int))
  | .if_icmp .ge off => decide (op = 28 ∧ len = 3 ∧ q = pc + 3 ∧ a = 3 ∧ (pc : Int) + off = (b : Int))
  | .if_icmp .gt off => decide (op = 28 ∧ len = 3 ∧ q = pc + 3 ∧ a = 4 ∧ (pc : Int) + off = (b : Int))
  | .if_icmp .le off => decide (op = 28 ∧ len = 3 ∧ q = pc + 3 ∧ a = 5 ∧ (pc : Int) + off = (b : Int))
  | _ => false
theorem agb_ok {pc : Nat} {ins : Instr} {len op a b : Nat} {z : PV} {q : Nat} (h : agb pc ins len op a b z q = true) : agp pc ins len op a b z q := by
  unfold agb at h
  unfold agp
  split at h <;> first | exact of_decide_eq_true h | cases h
theorem trv_ref (X : CX) {k n : Nat} (hk : ¬ k = 99) : ∃ x : Nat, trv X (.inr (.inr (k, n))) = .ref x := by
  simp only [trv]
  split
  · exact ⟨_, rfl⟩
  · split
    · exact ⟨_, rfl⟩
    · split
      · exact ⟨_, rfl⟩
      · exact ⟨_, rfl⟩
section SP
variable {p : Program} {l : Launch} {e : Env} {R : Room} {s : State} {m : MethodId} {args : Array Value} {below : List Frame} {meth : Method} {c : Code} {H : Heap} {locs : List Loc} {cells slots : Nat} {Q : State → Prop}
variable {cc : ByteArray} {pc len op a b q q1 nL : Nat} {z : PV} {ls : Array Slot} {L L1 : LL} {st st1 : List PV} {X : CX}
theorem sp_iconst (hx : p.tables.exec = Jvm.exec) (hb : c.code = cc) (hX : (xo X).category = 1) {n : Int} (hd : decode cc pc = .ok (.iconst n, len)) (ha : agp pc (.iconst n) len op a b z q) (hs : pst op a b z q L st = some (q1, L1, st1)) (hl : hasL X ls nL L)
    (kk : ∀ ls' : Array Slot, hasL X ls' nL L1 → W p l e R s m args below meth c H locs cells slots Q (F0 m q1 ls' (st1.map (trv X)))) : W p l e R s m args below meth c H locs cells slots Q (F0 m pc ls (st.map (trv X))) := by
  obtain ⟨rfl, rfl, rfl, rfl⟩ := ha
  cases hs
  exact lv_iconst hx hb hd rfl (kk ls hl)
theorem sp_bipush (hx : p.tables.exec = Jvm.exec) (hb : c.code = cc) (hX : (xo X).category = 1) {n : Int} (hd : decode cc pc = .ok (.bipush n, len)) (ha : agp pc (.bipush n) len op a b z q) (hs : pst op a b z q L st = some (q1, L1, st1)) (hl : hasL X ls nL L)
    (kk : ∀ ls' : Array Slot, hasL X ls' nL L1 → W p l e R s m args below meth c H locs cells slots Q (F0 m q1 ls' (st1.map (trv X)))) : W p l e R s m args below meth c H locs cells slots Q (F0 m pc ls (st.map (trv X))) := by
  obtain ⟨rfl, rfl, rfl, rfl⟩ := ha
  cases hs
  exact lv_bipush hx hb hd rfl (kk ls hl)
theorem sp_sipush (hx : p.tables.exec = Jvm.exec) (hb : c.code = cc) (hX : (xo X).category = 1) {n : Int} (hd : decode cc pc = .ok (.sipush n, len)) (ha : agp pc (.sipush n) len op a b z q) (hs : pst op a b z q L st = some (q1, L1, st1)) (hl : hasL X ls nL L)
    (kk : ∀ ls' : Array Slot, hasL X ls' nL L1 → W p l e R s m args below meth c H locs cells slots Q (F0 m q1 ls' (st1.map (trv X)))) : W p l e R s m args below meth c H locs cells slots Q (F0 m pc ls (st.map (trv X))) := by
  obtain ⟨rfl, rfl, rfl, rfl⟩ := ha
  cases hs
  exact lv_sipush hx hb hd rfl (kk ls hl)
theorem sp_lconst (hx : p.tables.exec = Jvm.exec) (hb : c.code = cc) (hX : (xo X).category = 1) {n : Fin 2} (hd : decode cc pc = .ok (.lconst n, len)) (ha : agp pc (.lconst n) len op a b z q) (hs : pst op a b z q L st = some (q1, L1, st1)) (hl : hasL X ls nL L)
    (kk : ∀ ls' : Array Slot, hasL X ls' nL L1 → W p l e R s m args below meth c H locs cells slots Q (F0 m q1 ls' (st1.map (trv X)))) : W p l e R s m args below meth c H locs cells slots Q (F0 m pc ls (st.map (trv X))) := by
  obtain ⟨rfl, rfl, rfl, rfl⟩ := ha
  cases hs
  exact lv_lconst hx hb hd rfl (kk ls hl)
theorem sp_iload_n (hx : p.tables.exec = Jvm.exec) (hb : c.code = cc) (hX : (xo X).category = 1) {k : Fin 4} (hd : decode cc pc = .ok (.iload_n k, len)) (ha : agp pc (.iload_n k) len op a b z q) (hs : pst op a b z q L st = some (q1, L1, st1)) (hl : hasL X ls nL L)
    (kk : ∀ ls' : Array Slot, hasL X ls' nL L1 → W p l e R s m args below meth c H locs cells slots Q (F0 m q1 ls' (st1.map (trv X)))) : W p l e R s m args below meth c H locs cells slots Q (F0 m pc ls (st.map (trv X))) := by
  obtain ⟨rfl, rfl, rfl, rfl⟩ := ha
  simp only [pst] at hs
  split at hs
  · cases hs; exact lv_iload_n hx hb hd rfl (hl.at (by assumption)) (kk ls hl)
  · cases hs
theorem sp_iload (hx : p.tables.exec = Jvm.exec) (hb : c.code = cc) (hX : (xo X).category = 1) {k : Nat} (hd : decode cc pc = .ok (.iload k, len)) (ha : agp pc (.iload k) len op a b z q) (hs : pst op a b z q L st = some (q1, L1, st1)) (hl : hasL X ls nL L)
    (kk : ∀ ls' : Array Slot, hasL X ls' nL L1 → W p l e R s m args below meth c H locs cells slots Q (F0 m q1 ls' (st1.map (trv X)))) : W p l e R s m args below meth c H locs cells slots Q (F0 m pc ls (st.map (trv X))) := by
  obtain ⟨rfl, rfl, rfl, rfl⟩ := ha
  simp only [pst] at hs
  split at hs
  · cases hs; exact lv_iload hx hb hd (hl.at (by assumption)) (kk ls hl)
  · cases hs
theorem sp_lload_n (hx : p.tables.exec = Jvm.exec) (hb : c.code = cc) (hX : (xo X).category = 1) {k : Fin 4} (hd : decode cc pc = .ok (.lload_n k, len)) (ha : agp pc (.lload_n k) len op a b z q) (hs : pst op a b z q L st = some (q1, L1, st1)) (hl : hasL X ls nL L)
    (kk : ∀ ls' : Array Slot, hasL X ls' nL L1 → W p l e R s m args below meth c H locs cells slots Q (F0 m q1 ls' (st1.map (trv X)))) : W p l e R s m args below meth c H locs cells slots Q (F0 m pc ls (st.map (trv X))) := by
  obtain ⟨rfl, rfl, rfl, rfl⟩ := ha
  simp only [pst] at hs
  split at hs
  · cases hs; exact lv_lload_n hx hb hd rfl (hl.at (by assumption)) (kk ls hl)
  · cases hs
theorem sp_lload (hx : p.tables.exec = Jvm.exec) (hb : c.code = cc) (hX : (xo X).category = 1) {k : Nat} (hd : decode cc pc = .ok (.lload k, len)) (ha : agp pc (.lload k) len op a b z q) (hs : pst op a b z q L st = some (q1, L1, st1)) (hl : hasL X ls nL L)
    (kk : ∀ ls' : Array Slot, hasL X ls' nL L1 → W p l e R s m args below meth c H locs cells slots Q (F0 m q1 ls' (st1.map (trv X)))) : W p l e R s m args below meth c H locs cells slots Q (F0 m pc ls (st.map (trv X))) := by
  obtain ⟨rfl, rfl, rfl, rfl⟩ := ha
  simp only [pst] at hs
  split at hs
  · cases hs; exact lv_lload hx hb hd (hl.at (by assumption)) (kk ls hl)
  · cases hs
theorem sp_istore_n (hx : p.tables.exec = Jvm.exec) (hb : c.code = cc) (hX : (xo X).category = 1) {k : Fin 4} (hd : decode cc pc = .ok (.istore_n k, len)) (ha : agp pc (.istore_n k) len op a b z q) (hs : pst op a b z q L st = some (q1, L1, st1)) (hl : hasL X ls nL L)
    (kk : ∀ ls' : Array Slot, hasL X ls' nL L1 → W p l e R s m args below meth c H locs cells slots Q (F0 m q1 ls' (st1.map (trv X)))) : W p l e R s m args below meth c H locs cells slots Q (F0 m pc ls (st.map (trv X))) := by
  obtain ⟨rfl, rfl, rfl, rfl⟩ := ha
  simp only [pst] at hs
  split at hs
  · split at hs
    · rename_i hlt
      cases hs
      exact lv_istore_n hx hb hd rfl hl.2 (by rw [← hl.1]; exact hlt) rfl (fun ls' h' => kk ls' (hl.s1 hX h'))
    · cases hs
  · cases hs
theorem sp_istore (hx : p.tables.exec = Jvm.exec) (hb : c.code = cc) (hX : (xo X).category = 1) {k : Nat} (hd : decode cc pc = .ok (.istore k, len)) (ha : agp pc (.istore k) len op a b z q) (hs : pst op a b z q L st = some (q1, L1, st1)) (hl : hasL X ls nL L)
    (kk : ∀ ls' : Array Slot, hasL X ls' nL L1 → W p l e R s m args below meth c H locs cells slots Q (F0 m q1 ls' (st1.map (trv X)))) : W p l e R s m args below meth c H locs cells slots Q (F0 m pc ls (st.map (trv X))) := by
  obtain ⟨rfl, rfl, rfl, rfl⟩ := ha
  simp only [pst] at hs
  split at hs
  · split at hs
    · rename_i hlt
      cases hs
      exact lv_istore hx hb hd hl.2 (by rw [← hl.1]; exact hlt) rfl (fun ls' h' => kk ls' (hl.s1 hX h'))
    · cases hs
  · cases hs
theorem sp_lstore_n (hx : p.tables.exec = Jvm.exec) (hb : c.code = cc) (hX : (xo X).category = 1) {k : Fin 4} (hd : decode cc pc = .ok (.lstore_n k, len)) (ha : agp pc (.lstore_n k) len op a b z q) (hs : pst op a b z q L st = some (q1, L1, st1)) (hl : hasL X ls nL L)
    (kk : ∀ ls' : Array Slot, hasL X ls' nL L1 → W p l e R s m args below meth c H locs cells slots Q (F0 m q1 ls' (st1.map (trv X)))) : W p l e R s m args below meth c H locs cells slots Q (F0 m pc ls (st.map (trv X))) := by
  obtain ⟨rfl, rfl, rfl, rfl⟩ := ha
  simp only [pst] at hs
  split at hs
  · split at hs
    · rename_i hlt
      cases hs
      exact lv_lstore_n hx hb hd rfl hl.2 (by rw [← hl.1]; exact hlt) rfl (fun ls' h' => kk ls' (hl.s2 hX h'))
    · cases hs
  · cases hs
theorem sp_lstore (hx : p.tables.exec = Jvm.exec) (hb : c.code = cc) (hX : (xo X).category = 1) {k : Nat} (hd : decode cc pc = .ok (.lstore k, len)) (ha : agp pc (.lstore k) len op a b z q) (hs : pst op a b z q L st = some (q1, L1, st1)) (hl : hasL X ls nL L)
    (kk : ∀ ls' : Array Slot, hasL X ls' nL L1 → W p l e R s m args below meth c H locs cells slots Q (F0 m q1 ls' (st1.map (trv X)))) : W p l e R s m args below meth c H locs cells slots Q (F0 m pc ls (st.map (trv X))) := by
  obtain ⟨rfl, rfl, rfl, rfl⟩ := ha
  simp only [pst] at hs
  split at hs
  · split at hs
    · rename_i hlt
      cases hs
      exact lv_lstore hx hb hd hl.2 (by rw [← hl.1]; exact hlt) rfl (fun ls' h' => kk ls' (hl.s2 hX h'))
    · cases hs
  · cases hs
theorem sp_aload_n (hx : p.tables.exec = Jvm.exec) (hb : c.code = cc) (hX : (xo X).category = 1) {k : Fin 4} (hd : decode cc pc = .ok (.aload_n k, len)) (ha : agp pc (.aload_n k) len op a b z q) (hs : pst op a b z q L st = some (q1, L1, st1)) (hl : hasL X ls nL L)
    (kk : ∀ ls' : Array Slot, hasL X ls' nL L1 → W p l e R s m args below meth c H locs cells slots Q (F0 m q1 ls' (st1.map (trv X)))) : W p l e R s m args below meth c H locs cells slots Q (F0 m pc ls (st.map (trv X))) := by
  obtain ⟨rfl, rfl, rfl, rfl⟩ := ha
  simp only [pst] at hs
  split at hs
  · rename_i he
    split at hs
    · cases hs
    · rename_i hk
      cases hs
      have h1 := hl.at he
      have k2 := kk ls hl
      rw [List.map_cons] at k2
      obtain ⟨x, ex⟩ := trv_ref X hk
      rw [ex] at h1 k2
      exact lv_aload_n hx hb hd rfl h1 k2
  · cases hs
theorem sp_astore_n (hx : p.tables.exec = Jvm.exec) (hb : c.code = cc) (hX : (xo X).category = 1) {k : Fin 4} (hd : decode cc pc = .ok (.astore_n k, len)) (ha : agp pc (.astore_n k) len op a b z q) (hs : pst op a b z q L st = some (q1, L1, st1)) (hl : hasL X ls nL L)
    (kk : ∀ ls' : Array Slot, hasL X ls' nL L1 → W p l e R s m args below meth c H locs cells slots Q (F0 m q1 ls' (st1.map (trv X)))) : W p l e R s m args below meth c H locs cells slots Q (F0 m pc ls (st.map (trv X))) := by
  obtain ⟨rfl, rfl, rfl, rfl⟩ := ha
  simp only [pst] at hs
  split at hs
  · split at hs
    · cases hs
    · rename_i hk
      split at hs
      · rename_i hlt
        cases hs
        rw [List.map_cons]
        obtain ⟨x, ex⟩ := trv_ref X hk
        rw [ex]
        refine lv_astore_n hx hb hd rfl hl.2 (by rw [← hl.1]; exact hlt) rfl (fun ls' h' => kk ls' (hl.s1 hX ?_))
        rw [ex]
        exact h'
      · cases hs
  · cases hs
theorem sp_aload (hx : p.tables.exec = Jvm.exec) (hb : c.code = cc) (hX : (xo X).category = 1) {k : Nat} (hd : decode cc pc = .ok (.aload k, len)) (ha : agp pc (.aload k) len op a b z q) (hs : pst op a b z q L st = some (q1, L1, st1)) (hl : hasL X ls nL L)
    (kk : ∀ ls' : Array Slot, hasL X ls' nL L1 → W p l e R s m args below meth c H locs cells slots Q (F0 m q1 ls' (st1.map (trv X)))) : W p l e R s m args below meth c H locs cells slots Q (F0 m pc ls (st.map (trv X))) := by
  obtain ⟨rfl, rfl, rfl, rfl⟩ := ha
  simp only [pst] at hs
  split at hs
  · rename_i he
    split at hs
    · cases hs
    · rename_i hk
      cases hs
      have h1 := hl.at he
      have k2 := kk ls hl
      rw [List.map_cons] at k2
      obtain ⟨x, ex⟩ := trv_ref X hk
      rw [ex] at h1 k2
      exact lv_aload hx hb hd h1 k2
  · cases hs
theorem sp_astore (hx : p.tables.exec = Jvm.exec) (hb : c.code = cc) (hX : (xo X).category = 1) {k : Nat} (hd : decode cc pc = .ok (.astore k, len)) (ha : agp pc (.astore k) len op a b z q) (hs : pst op a b z q L st = some (q1, L1, st1)) (hl : hasL X ls nL L)
    (kk : ∀ ls' : Array Slot, hasL X ls' nL L1 → W p l e R s m args below meth c H locs cells slots Q (F0 m q1 ls' (st1.map (trv X)))) : W p l e R s m args below meth c H locs cells slots Q (F0 m pc ls (st.map (trv X))) := by
  obtain ⟨rfl, rfl, rfl, rfl⟩ := ha
  simp only [pst] at hs
  split at hs
  · split at hs
    · cases hs
    · rename_i hk
      split at hs
      · rename_i hlt
        cases hs
        rw [List.map_cons]
        obtain ⟨x, ex⟩ := trv_ref X hk
        rw [ex]
        refine lv_astore hx hb hd hl.2 (by rw [← hl.1]; exact hlt) rfl (fun ls' h' => kk ls' (hl.s1 hX ?_))
        rw [ex]
        exact h'
      · cases hs
  · cases hs
theorem sp_iinc (hx : p.tables.exec = Jvm.exec) (hb : c.code = cc) (hX : (xo X).category = 1) {k : Nat} {n : Int} (hd : decode cc pc = .ok (.iinc k n, len)) (ha : agp pc (.iinc k n) len op a b z q) (hs : pst op a b z q L st = some (q1, L1, st1)) (hl : hasL X ls nL L)
    (kk : ∀ ls' : Array Slot, hasL X ls' nL L1 → W p l e R s m args below meth c H locs cells slots Q (F0 m q1 ls' (st1.map (trv X)))) : W p l e R s m args below meth c H locs cells slots Q (F0 m pc ls (st.map (trv X))) := by
  obtain ⟨rfl, rfl, rfl, rfl, rfl⟩ := ha
  simp only [pst] at hs
  split at hs
  · rename_i x y he hz
    cases hz
    cases hs
    obtain ⟨j, hj⟩ := hl.idx he
    have hlt : a < nL := by rw [← hl.1]; exact (List.getElem?_eq_some_iff.mp he).1
    exact lv_iinc hx hb hd hl.2 hj rfl hlt rfl (fun ls' h' => kk ls' (hl.s1 hX h'))
  · cases hs
theorem sp_iadd (hx : p.tables.exec = Jvm.exec) (hb : c.code = cc) (hX : (xo X).category = 1) (hd : decode cc pc = .ok (.iadd, len)) (ha : agp pc (.iadd) len op a b z q) (hs : pst op a b z q L st = some (q1, L1, st1)) (hl : hasL X ls nL L)
    (kk : ∀ ls' : Array Slot, hasL X ls' nL L1 → W p l e R s m args below meth c H locs cells slots Q (F0 m q1 ls' (st1.map (trv X)))) : W p l e R s m args below meth c H locs cells slots Q (F0 m pc ls (st.map (trv X))) := by
  obtain ⟨rfl, rfl, rfl, rfl⟩ := ha
  simp only [pst] at hs
  split at hs
  · cases hs; exact lv_iadd hx hb hd (kk ls hl)
  · cases hs
theorem sp_isub (hx : p.tables.exec = Jvm.exec) (hb : c.code = cc) (hX : (xo X).category = 1) (hd : decode cc pc = .ok (.isub, len)) (ha : agp pc (.isub) len op a b z q) (hs : pst op a b z q L st = some (q1, L1, st1)) (hl : hasL X ls nL L)
    (kk : ∀ ls' : Array Slot, hasL X ls' nL L1 → W p l e R s m args below meth c H locs cells slots Q (F0 m q1 ls' (st1.map (trv X)))) : W p l e R s m args below meth c H locs cells slots Q (F0 m pc ls (st.map (trv X))) := by
  obtain ⟨rfl, rfl, rfl, rfl⟩ := ha
  simp only [pst] at hs
  split at hs
  · cases hs; exact lv_isub hx hb hd (kk ls hl)
  · cases hs
theorem sp_imul (hx : p.tables.exec = Jvm.exec) (hb : c.code = cc) (hX : (xo X).category = 1) (hd : decode cc pc = .ok (.imul, len)) (ha : agp pc (.imul) len op a b z q) (hs : pst op a b z q L st = some (q1, L1, st1)) (hl : hasL X ls nL L)
    (kk : ∀ ls' : Array Slot, hasL X ls' nL L1 → W p l e R s m args below meth c H locs cells slots Q (F0 m q1 ls' (st1.map (trv X)))) : W p l e R s m args below meth c H locs cells slots Q (F0 m pc ls (st.map (trv X))) := by
  obtain ⟨rfl, rfl, rfl, rfl⟩ := ha
  simp only [pst] at hs
  split at hs
  · cases hs; exact lv_imul hx hb hd (kk ls hl)
  · cases hs
theorem sp_iand (hx : p.tables.exec = Jvm.exec) (hb : c.code = cc) (hX : (xo X).category = 1) (hd : decode cc pc = .ok (.iand, len)) (ha : agp pc (.iand) len op a b z q) (hs : pst op a b z q L st = some (q1, L1, st1)) (hl : hasL X ls nL L)
    (kk : ∀ ls' : Array Slot, hasL X ls' nL L1 → W p l e R s m args below meth c H locs cells slots Q (F0 m q1 ls' (st1.map (trv X)))) : W p l e R s m args below meth c H locs cells slots Q (F0 m pc ls (st.map (trv X))) := by
  obtain ⟨rfl, rfl, rfl, rfl⟩ := ha
  simp only [pst] at hs
  split at hs
  · cases hs; exact lv_iand hx hb hd (kk ls hl)
  · cases hs
theorem sp_ior (hx : p.tables.exec = Jvm.exec) (hb : c.code = cc) (hX : (xo X).category = 1) (hd : decode cc pc = .ok (.ior, len)) (ha : agp pc (.ior) len op a b z q) (hs : pst op a b z q L st = some (q1, L1, st1)) (hl : hasL X ls nL L)
    (kk : ∀ ls' : Array Slot, hasL X ls' nL L1 → W p l e R s m args below meth c H locs cells slots Q (F0 m q1 ls' (st1.map (trv X)))) : W p l e R s m args below meth c H locs cells slots Q (F0 m pc ls (st.map (trv X))) := by
  obtain ⟨rfl, rfl, rfl, rfl⟩ := ha
  simp only [pst] at hs
  split at hs
  · cases hs; exact lv_ior hx hb hd (kk ls hl)
  · cases hs
theorem sp_ixor (hx : p.tables.exec = Jvm.exec) (hb : c.code = cc) (hX : (xo X).category = 1) (hd : decode cc pc = .ok (.ixor, len)) (ha : agp pc (.ixor) len op a b z q) (hs : pst op a b z q L st = some (q1, L1, st1)) (hl : hasL X ls nL L)
    (kk : ∀ ls' : Array Slot, hasL X ls' nL L1 → W p l e R s m args below meth c H locs cells slots Q (F0 m q1 ls' (st1.map (trv X)))) : W p l e R s m args below meth c H locs cells slots Q (F0 m pc ls (st.map (trv X))) := by
  obtain ⟨rfl, rfl, rfl, rfl⟩ := ha
  simp only [pst] at hs
  split at hs
  · cases hs; exact lv_ixor hx hb hd (kk ls hl)
  · cases hs
theorem sp_ishl (hx : p.tables.exec = Jvm.exec) (hb : c.code = cc) (hX : (xo X).category = 1) (hd : decode cc pc = .ok (.ishl, len)) (ha : agp pc (.ishl) len op a b z q) (hs : pst op a b z q L st = some (q1, L1, st1)) (hl : hasL X ls nL L)
    (kk : ∀ ls' : Array Slot, hasL X ls' nL L1 → W p l e R s m args below meth c H locs cells slots Q (F0 m q1 ls' (st1.map (trv X)))) : W p l e R s m args below meth c H locs cells slots Q (F0 m pc ls (st.map (trv X))) := by
  obtain ⟨rfl, rfl, rfl, rfl⟩ := ha
  simp only [pst] at hs
  split at hs
  · cases hs; exact lv_ishl hx hb hd (kk ls hl)
  · cases hs
theorem sp_ishr (hx : p.tables.exec = Jvm.exec) (hb : c.code = cc) (hX : (xo X).category = 1) (hd : decode cc pc = .ok (.ishr, len)) (ha : agp pc (.ishr) len op a b z q) (hs : pst op a b z q L st = some (q1, L1, st1)) (hl : hasL X ls nL L)
    (kk : ∀ ls' : Array Slot, hasL X ls' nL L1 → W p l e R s m args below meth c H locs cells slots Q (F0 m q1 ls' (st1.map (trv X)))) : W p l e R s m args below meth c H locs cells slots Q (F0 m pc ls (st.map (trv X))) := by
  obtain ⟨rfl, rfl, rfl, rfl⟩ := ha
  simp only [pst] at hs
  split at hs
  · cases hs; exact lv_ishr hx hb hd (kk ls hl)
  · cases hs
theorem sp_iushr (hx : p.tables.exec = Jvm.exec) (hb : c.code = cc) (hX : (xo X).category = 1) (hd : decode cc pc = .ok (.iushr, len)) (ha : agp pc (.iushr) len op a b z q) (hs : pst op a b z q L st = some (q1, L1, st1)) (hl : hasL X ls nL L)
    (kk : ∀ ls' : Array Slot, hasL X ls' nL L1 → W p l e R s m args below meth c H locs cells slots Q (F0 m q1 ls' (st1.map (trv X)))) : W p l e R s m args below meth c H locs cells slots Q (F0 m pc ls (st.map (trv X))) := by
  obtain ⟨rfl, rfl, rfl, rfl⟩ := ha
  simp only [pst] at hs
  split at hs
  · cases hs; exact lv_iushr hx hb hd rfl (kk ls hl)
  · cases hs
theorem sp_ladd (hx : p.tables.exec = Jvm.exec) (hb : c.code = cc) (hX : (xo X).category = 1) (hd : decode cc pc = .ok (.ladd, len)) (ha : agp pc (.ladd) len op a b z q) (hs : pst op a b z q L st = some (q1, L1, st1)) (hl : hasL X ls nL L)
    (kk : ∀ ls' : Array Slot, hasL X ls' nL L1 → W p l e R s m args below meth c H locs cells slots Q (F0 m q1 ls' (st1.map (trv X)))) : W p l e R s m args below meth c H locs cells slots Q (F0 m pc ls (st.map (trv X))) := by
  obtain ⟨rfl, rfl, rfl, rfl⟩ := ha
  simp only [pst] at hs
  split at hs
  · cases hs; exact lv_ladd hx hb hd (kk ls hl)
  · cases hs
theorem sp_lsub (hx : p.tables.exec = Jvm.exec) (hb : c.code = cc) (hX : (xo X).category = 1) (hd : decode cc pc = .ok (.lsub, len)) (ha : agp pc (.lsub) len op a b z q) (hs : pst op a b z q L st = some (q1, L1, st1)) (hl : hasL X ls nL L)
    (kk : ∀ ls' : Array Slot, hasL X ls' nL L1 → W p l e R s m args below meth c H locs cells slots Q (F0 m q1 ls' (st1.map (trv X)))) : W p l e R s m args below meth c H locs cells slots Q (F0 m pc ls (st.map (trv X))) := by
  obtain ⟨rfl, rfl, rfl, rfl⟩ := ha
  simp only [pst] at hs
  split at hs
  · cases hs; exact lv_lsub hx hb hd (kk ls hl)
  · cases hs
theorem sp_lmul (hx : p.tables.exec = Jvm.exec) (hb : c.code = cc) (hX : (xo X).category = 1) (hd : decode cc pc = .ok (.lmul, len)) (ha : agp pc (.lmul) len op a b z q) (hs : pst op a b z q L st = some (q1, L1, st1)) (hl : hasL X ls nL L)
    (kk : ∀ ls' : Array Slot, hasL X ls' nL L1 → W p l e R s m args below meth c H locs cells slots Q (F0 m q1 ls' (st1.map (trv X)))) : W p l e R s m args below meth c H locs cells slots Q (F0 m pc ls (st.map (trv X))) := by
  obtain ⟨rfl, rfl, rfl, rfl⟩ := ha
  simp only [pst] at hs
  split at hs
  · cases hs; exact lv_lmul hx hb hd (kk ls hl)
  · cases hs
theorem sp_land (hx : p.tables.exec = Jvm.exec) (hb : c.code = cc) (hX : (xo X).category = 1) (hd : decode cc pc = .ok (.land, len)) (ha : agp pc (.land) len op a b z q) (hs : pst op a b z q L st = some (q1, L1, st1)) (hl : hasL X ls nL L)
    (kk : ∀ ls' : Array Slot, hasL X ls' nL L1 → W p l e R s m args below meth c H locs cells slots Q (F0 m q1 ls' (st1.map (trv X)))) : W p l e R s m args below meth c H locs cells slots Q (F0 m pc ls (st.map (trv X))) := by
  obtain ⟨rfl, rfl, rfl, rfl⟩ := ha
  simp only [pst] at hs
  split at hs
  · cases hs; exact lv_land hx hb hd (kk ls hl)
  · cases hs
theorem sp_lor (hx : p.tables.exec = Jvm.exec) (hb : c.code = cc) (hX : (xo X).category = 1) (hd : decode cc pc = .ok (.lor, len)) (ha : agp pc (.lor) len op a b z q) (hs : pst op a b z q L st = some (q1, L1, st1)) (hl : hasL X ls nL L)
    (kk : ∀ ls' : Array Slot, hasL X ls' nL L1 → W p l e R s m args below meth c H locs cells slots Q (F0 m q1 ls' (st1.map (trv X)))) : W p l e R s m args below meth c H locs cells slots Q (F0 m pc ls (st.map (trv X))) := by
  obtain ⟨rfl, rfl, rfl, rfl⟩ := ha
  simp only [pst] at hs
  split at hs
  · cases hs; exact lv_lor hx hb hd (kk ls hl)
  · cases hs
theorem sp_idiv (hx : p.tables.exec = Jvm.exec) (hb : c.code = cc) (hX : (xo X).category = 1) (hd : decode cc pc = .ok (.idiv, len)) (ha : agp pc (.idiv) len op a b z q) (hs : pst op a b z q L st = some (q1, L1, st1)) (hl : hasL X ls nL L)
    (kk : ∀ ls' : Array Slot, hasL X ls' nL L1 → W p l e R s m args below meth c H locs cells slots Q (F0 m q1 ls' (st1.map (trv X)))) : W p l e R s m args below meth c H locs cells slots Q (F0 m pc ls (st.map (trv X))) := by
  obtain ⟨rfl, rfl, rfl⟩ := ha
  simp only [pst] at hs
  split at hs
  · split at hs
    · cases hs
    · rename_i hne
      cases hs
      exact lv_idiv hx hb hd hne (kk ls hl)
  · cases hs
theorem sp_irem (hx : p.tables.exec = Jvm.exec) (hb : c.code = cc) (hX : (xo X).category = 1) (hd : decode cc pc = .ok (.irem, len)) (ha : agp pc (.irem) len op a b z q) (hs : pst op a b z q L st = some (q1, L1, st1)) (hl : hasL X ls nL L)
    (kk : ∀ ls' : Array Slot, hasL X ls' nL L1 → W p l e R s m args below meth c H locs cells slots Q (F0 m q1 ls' (st1.map (trv X)))) : W p l e R s m args below meth c H locs cells slots Q (F0 m pc ls (st.map (trv X))) := by
  obtain ⟨rfl, rfl, rfl⟩ := ha
  simp only [pst] at hs
  split at hs
  · split at hs
    · cases hs
    · rename_i hne
      cases hs
      exact lv_irem hx hb hd hne (kk ls hl)
  · cases hs
theorem sp_ldiv (hx : p.tables.exec = Jvm.exec) (hb : c.code = cc) (hX : (xo X).category = 1) (hd : decode cc pc = .ok (.ldiv, len)) (ha : agp pc (.ldiv) len op a b z q) (hs : pst op a b z q L st = some (q1, L1, st1)) (hl : hasL X ls nL L)
    (kk : ∀ ls' : Array Slot, hasL X ls' nL L1 → W p l e R s m args below meth c H locs cells slots Q (F0 m q1 ls' (st1.map (trv X)))) : W p l e R s m args below meth c H locs cells slots Q (F0 m pc ls (st.map (trv X))) := by
  obtain ⟨rfl, rfl, rfl⟩ := ha
  simp only [pst] at hs
  split at hs
  · split at hs
    · cases hs
    · rename_i hne
      cases hs
      exact lv_ldiv hx hb hd hne (kk ls hl)
  · cases hs
theorem sp_lrem (hx : p.tables.exec = Jvm.exec) (hb : c.code = cc) (hX : (xo X).category = 1) (hd : decode cc pc = .ok (.lrem, len)) (ha : agp pc (.lrem) len op a b z q) (hs : pst op a b z q L st = some (q1, L1, st1)) (hl : hasL X ls nL L)
    (kk : ∀ ls' : Array Slot, hasL X ls' nL L1 → W p l e R s m args below meth c H locs cells slots Q (F0 m q1 ls' (st1.map (trv X)))) : W p l e R s m args below meth c H locs cells slots Q (F0 m pc ls (st.map (trv X))) := by
  obtain ⟨rfl, rfl, rfl⟩ := ha
  simp only [pst] at hs
  split at hs
  · split at hs
    · cases hs
    · rename_i hne
      cases hs
      exact lv_lrem hx hb hd hne (kk ls hl)
  · cases hs
theorem sp_ineg (hx : p.tables.exec = Jvm.exec) (hb : c.code = cc) (hX : (xo X).category = 1) (hd : decode cc pc = .ok (.ineg, len)) (ha : agp pc (.ineg) len op a b z q) (hs : pst op a b z q L st = some (q1, L1, st1)) (hl : hasL X ls nL L)
    (kk : ∀ ls' : Array Slot, hasL X ls' nL L1 → W p l e R s m args below meth c H locs cells slots Q (F0 m q1 ls' (st1.map (trv X)))) : W p l e R s m args below meth c H locs cells slots Q (F0 m pc ls (st.map (trv X))) := by
  obtain ⟨rfl, rfl, rfl⟩ := ha
  simp only [pst] at hs
  split at hs
  · cases hs; exact lv_ineg hx hb hd (kk ls hl)
  · cases hs
theorem sp_lshl (hx : p.tables.exec = Jvm.exec) (hb : c.code = cc) (hX : (xo X).category = 1) (hd : decode cc pc = .ok (.lshl, len)) (ha : agp pc (.lshl) len op a b z q) (hs : pst op a b z q L st = some (q1, L1, st1)) (hl : hasL X ls nL L)
    (kk : ∀ ls' : Array Slot, hasL X ls' nL L1 → W p l e R s m args below meth c H locs cells slots Q (F0 m q1 ls' (st1.map (trv X)))) : W p l e R s m args below meth c H locs cells slots Q (F0 m pc ls (st.map (trv X))) := by
  obtain ⟨rfl, rfl, rfl⟩ := ha
  simp only [pst] at hs
  split at hs
  · cases hs; exact lv_lshl hx hb hd rfl (kk ls hl)
  · cases hs
theorem sp_lushr (hx : p.tables.exec = Jvm.exec) (hb : c.code = cc) (hX : (xo X).category = 1) (hd : decode cc pc = .ok (.lushr, len)) (ha : agp pc (.lushr) len op a b z q) (hs : pst op a b z q L st = some (q1, L1, st1)) (hl : hasL X ls nL L)
    (kk : ∀ ls' : Array Slot, hasL X ls' nL L1 → W p l e R s m args below meth c H locs cells slots Q (F0 m q1 ls' (st1.map (trv X)))) : W p l e R s m args below meth c H locs cells slots Q (F0 m pc ls (st.map (trv X))) := by
  obtain ⟨rfl, rfl, rfl⟩ := ha
  simp only [pst] at hs
  split at hs
  · cases hs; exact lv_lushr hx hb hd rfl (kk ls hl)
  · cases hs
theorem sp_i2l (hx : p.tables.exec = Jvm.exec) (hb : c.code = cc) (hX : (xo X).category = 1) (hd : decode cc pc = .ok (.i2l, len)) (ha : agp pc (.i2l) len op a b z q) (hs : pst op a b z q L st = some (q1, L1, st1)) (hl : hasL X ls nL L)
    (kk : ∀ ls' : Array Slot, hasL X ls' nL L1 → W p l e R s m args below meth c H locs cells slots Q (F0 m q1 ls' (st1.map (trv X)))) : W p l e R s m args below meth c H locs cells slots Q (F0 m pc ls (st.map (trv X))) := by
  obtain ⟨rfl, rfl, rfl⟩ := ha
  simp only [pst] at hs
  split at hs
  · cases hs; exact lv_i2l hx hb hd rfl (kk ls hl)
  · cases hs
theorem sp_l2i (hx : p.tables.exec = Jvm.exec) (hb : c.code = cc) (hX : (xo X).category = 1) (hd : decode cc pc = .ok (.l2i, len)) (ha : agp pc (.l2i) len op a b z q) (hs : pst op a b z q L st = some (q1, L1, st1)) (hl : hasL X ls nL L)
    (kk : ∀ ls' : Array Slot, hasL X ls' nL L1 → W p l e R s m args below meth c H locs cells slots Q (F0 m q1 ls' (st1.map (trv X)))) : W p l e R s m args below meth c H locs cells slots Q (F0 m pc ls (st.map (trv X))) := by
  obtain ⟨rfl, rfl, rfl⟩ := ha
  simp only [pst] at hs
  split at hs
  · cases hs; exact lv_l2i hx hb hd rfl (kk ls hl)
  · cases hs
theorem sp_i2c (hx : p.tables.exec = Jvm.exec) (hb : c.code = cc) (hX : (xo X).category = 1) (hd : decode cc pc = .ok (.i2c, len)) (ha : agp pc (.i2c) len op a b z q) (hs : pst op a b z q L st = some (q1, L1, st1)) (hl : hasL X ls nL L)
    (kk : ∀ ls' : Array Slot, hasL X ls' nL L1 → W p l e R s m args below meth c H locs cells slots Q (F0 m q1 ls' (st1.map (trv X)))) : W p l e R s m args below meth c H locs cells slots Q (F0 m pc ls (st.map (trv X))) := by
  obtain ⟨rfl, rfl, rfl⟩ := ha
  simp only [pst] at hs
  split at hs
  · cases hs; exact lv_i2c hx hb hd rfl (kk ls hl)
  · cases hs
theorem sp_i2b (hx : p.tables.exec = Jvm.exec) (hb : c.code = cc) (hX : (xo X).category = 1) (hd : decode cc pc = .ok (.i2b, len)) (ha : agp pc (.i2b) len op a b z q) (hs : pst op a b z q L st = some (q1, L1, st1)) (hl : hasL X ls nL L)
    (kk : ∀ ls' : Array Slot, hasL X ls' nL L1 → W p l e R s m args below meth c H locs cells slots Q (F0 m q1 ls' (st1.map (trv X)))) : W p l e R s m args below meth c H locs cells slots Q (F0 m pc ls (st.map (trv X))) := by
  obtain ⟨rfl, rfl, rfl⟩ := ha
  simp only [pst] at hs
  split at hs
  · cases hs; exact lv_i2b hx hb hd rfl (kk ls hl)
  · cases hs
theorem sp_lcmp (hx : p.tables.exec = Jvm.exec) (hb : c.code = cc) (hX : (xo X).category = 1) (hd : decode cc pc = .ok (.lcmp, len)) (ha : agp pc (.lcmp) len op a b z q) (hs : pst op a b z q L st = some (q1, L1, st1)) (hl : hasL X ls nL L)
    (kk : ∀ ls' : Array Slot, hasL X ls' nL L1 → W p l e R s m args below meth c H locs cells slots Q (F0 m q1 ls' (st1.map (trv X)))) : W p l e R s m args below meth c H locs cells slots Q (F0 m pc ls (st.map (trv X))) := by
  obtain ⟨rfl, rfl, rfl⟩ := ha
  simp only [pst] at hs
  split at hs
  · cases hs; exact W.lcmp hx hb hd (kk ls hl)
  · cases hs
theorem sp_dup (hx : p.tables.exec = Jvm.exec) (hb : c.code = cc) (hX : (xo X).category = 1) (hd : decode cc pc = .ok (.dup, len)) (ha : agp pc (.dup) len op a b z q) (hs : pst op a b z q L st = some (q1, L1, st1)) (hl : hasL X ls nL L)
    (kk : ∀ ls' : Array Slot, hasL X ls' nL L1 → W p l e R s m args below meth c H locs cells slots Q (F0 m q1 ls' (st1.map (trv X)))) : W p l e R s m args below meth c H locs cells slots Q (F0 m pc ls (st.map (trv X))) := by
  obtain ⟨rfl, rfl, rfl⟩ := ha
  simp only [pst] at hs
  split at hs
  · split at hs
    · cases hs
    · rename_i hw
      cases hs
      exact lv_dup hx hb hd (trv_cat hX (by rw [isW_L]; simpa using hw)) (kk ls hl)
  · cases hs
theorem sp_pop (hx : p.tables.exec = Jvm.exec) (hb : c.code = cc) (hX : (xo X).category = 1) (hd : decode cc pc = .ok (.pop, len)) (ha : agp pc (.pop) len op a b z q) (hs : pst op a b z q L st = some (q1, L1, st1)) (hl : hasL X ls nL L)
    (kk : ∀ ls' : Array Slot, hasL X ls' nL L1 → W p l e R s m args below meth c H locs cells slots Q (F0 m q1 ls' (st1.map (trv X)))) : W p l e R s m args below meth c H locs cells slots Q (F0 m pc ls (st.map (trv X))) := by
  obtain ⟨rfl, rfl, rfl⟩ := ha
  simp only [pst] at hs
  split at hs
  · split at hs
    · cases hs
    · rename_i hw
      cases hs
      exact lv_pop hx hb hd (trv_cat hX (by rw [isW_L]; simpa using hw)) (kk ls hl)
  · cases hs
theorem sp_dup2 (hx : p.tables.exec = Jvm.exec) (hb : c.code = cc) (hX : (xo X).category = 1) (hd : decode cc pc = .ok (.dup2, len)) (ha : agp pc (.dup2) len op a b z q) (hs : pst op a b z q L st = some (q1, L1, st1)) (hl : hasL X ls nL L)
    (kk : ∀ ls' : Array Slot, hasL X ls' nL L1 → W p l e R s m args below meth c H locs cells slots Q (F0 m q1 ls' (st1.map (trv X)))) : W p l e R s m args below meth c H locs cells slots Q (F0 m pc ls (st.map (trv X))) := by
  obtain ⟨rfl, rfl, rfl⟩ := ha
  simp only [pst] at hs
  split at hs
  · split at hs
    · cases hs
    · rename_i hw
      cases hs
      exact lv_dup2_11 hx hb hd (trv_cat hX (by rw [isW_L]; simp only [not_or, Bool.not_eq_true] at hw; exact hw.1)) (trv_cat hX (by rw [isW_L]; simp only [not_or, Bool.not_eq_true] at hw; exact hw.2)) (kk ls hl)
  · cases hs
theorem sp_goto (hx : p.tables.exec = Jvm.exec) (hb : c.code = cc) (hX : (xo X).category = 1) {off : Int} (hd : decode cc pc = .ok (.goto off, len)) (ha : agp pc (.goto off) len op a b z q) (hs : pst op a b z q L st = some (q1, L1, st1)) (hl : hasL X ls nL L)
    (kk : ∀ ls' : Array Slot, hasL X ls' nL L1 → W p l e R s m args below meth c H locs cells slots Q (F0 m q1 ls' (st1.map (trv X)))) : W p l e R s m args below meth c H locs cells slots Q (F0 m pc ls (st.map (trv X))) := by
  obtain ⟨rfl, rfl, ht⟩ := ha
  cases hs
  exact lv_goto hx hb hd ht (kk ls hl)
theorem sp_if_eq (hx : p.tables.exec = Jvm.exec) (hb : c.code = cc) (hX : (xo X).category = 1) {off : Int} (hd : decode cc pc = .ok (.ifCond .eq off, len)) (ha : agp pc (.ifCond .eq off) len op a b z q) (hs : pst op a b z q L st = some (q1, L1, st1)) (hl : hasL X ls nL L)
    (kk : ∀ ls' : Array Slot, hasL X ls' nL L1 → W p l e R s m args below meth c H locs cells slots Q (F0 m q1 ls' (st1.map (trv X)))) : W p l e R s m args below meth c H locs cells slots Q (F0 m pc ls (st.map (trv X))) := by
  obtain ⟨rfl, rfl, rfl, rfl, ht⟩ := ha
  simp only [pst] at hs
  split at hs
  · cases hs
    refine lv_if_eq hx hb hd ht (fun h => ?_) (fun h => ?_)
    · have k2 := kk ls hl; rw [if_pos (by simpa [cnd] using h)] at k2; exact k2
    · have k2 := kk ls hl; rw [if_neg (by simpa [cnd] using h)] at k2; exact k2
  · cases hs
theorem sp_icmp_eq (hx : p.tables.exec = Jvm.exec) (hb : c.code = cc) (hX : (xo X).category = 1) {off : Int} (hd : decode cc pc = .ok (.if_icmp .eq off, len)) (ha : agp pc (.if_icmp .eq off) len op a b z q) (hs : pst op a b z q L st = some (q1, L1, st1)) (hl : hasL X ls nL L)
    (kk : ∀ ls' : Array Slot, hasL X ls' nL L1 → W p l e R s m args below meth c H locs cells slots Q (F0 m q1 ls' (st1.map (trv X)))) : W p l e R s m args below meth c H locs cells slots Q (F0 m pc ls (st.map (trv X))) := by
  obtain ⟨rfl, rfl, rfl, rfl, ht⟩ := ha
  simp only [pst] at hs
  split at hs
  · cases hs
    refine lv_icmp_eq hx hb hd ht (fun h => ?_) (fun h => ?_)
    · have k2 := kk ls hl; rw [if_pos (by simpa [cnd] using h)] at k2; exact k2
    · have k2 := kk ls hl; rw [if_neg (by simpa [cnd] using h)] at k2; exact k2
  · cases hs
theorem sp_if_ne (hx : p.tables.exec = Jvm.exec) (hb : c.code = cc) (hX : (xo X).category = 1) {off : Int} (hd : decode cc pc = .ok (.ifCond .ne off, len)) (ha : agp pc (.ifCond .ne off) len op a b z q) (hs : pst op a b z q L st = some (q1, L1, st1)) (hl : hasL X ls nL L)
    (kk : ∀ ls' : Array Slot, hasL X ls' nL L1 → W p l e R s m args below meth c H locs cells slots Q (F0 m q1 ls' (st1.map (trv X)))) : W p l e R s m args below meth c H locs cells slots Q (F0 m pc ls (st.map (trv X))) := by
  obtain ⟨rfl, rfl, rfl, rfl, ht⟩ := ha
  simp only [pst] at hs
  split at hs
  · cases hs
    refine lv_if_ne hx hb hd ht (fun h => ?_) (fun h => ?_)
    · have k2 := kk ls hl; rw [if_pos (by simpa [cnd] using h)] at k2; exact k2
    · have k2 := kk ls hl; rw [if_neg (by simpa [cnd] using h)] at k2; exact k2
  · cases hs
theorem sp_icmp_ne (hx : p.tables.exec = Jvm.exec) (hb : c.code = cc) (hX : (xo X).category = 1) {off : Int} (hd : decode cc pc = .ok (.if_icmp .ne off, len)) (ha : agp pc (.if_icmp .ne off) len op a b z q) (hs : pst op a b z q L st = some (q1, L1, st1)) (hl : hasL X ls nL L)
    (kk : ∀ ls' : Array Slot, hasL X ls' nL L1 → W p l e R s m args below meth c H locs cells slots Q (F0 m q1 ls' (st1.map (trv X)))) : W p l e R s m args below meth c H locs cells slots Q (F0 m pc ls (st.map (trv X))) := by
  obtain ⟨rfl, rfl, rfl, rfl, ht⟩ := ha
  simp only [pst] at hs
  split at hs
  · cases hs
    refine lv_icmp_ne hx hb hd ht (fun h => ?_) (fun h => ?_)
    · have k2 := kk ls hl; rw [if_pos (by simpa [cnd] using h)] at k2; exact k2
    · have k2 := kk ls hl; rw [if_neg (by simpa [cnd] using h)] at k2; exact k2
  · cases hs
theorem sp_if_lt (hx : p.tables.exec = Jvm.exec) (hb : c.code = cc) (hX : (xo X).category = 1) {off : Int} (hd : decode cc pc = .ok (.ifCond .lt off, len)) (ha : agp pc (.ifCond .lt off) len op a b z q) (hs : pst op a b z q L st = some (q1, L1, st1)) (hl : hasL X ls nL L)
    (kk : ∀ ls' : Array Slot, hasL X ls' nL L1 → W p l e R s m args below meth c H locs cells slots Q (F0 m q1 ls' (st1.map (trv X)))) : W p l e R s m args below meth c H locs cells slots Q (F0 m pc ls (st.map (trv X))) := by
  obtain ⟨rfl, rfl, rfl, rfl, ht⟩ := ha
  simp only [pst] at hs
  split at hs
  · cases hs
    refine lv_if_lt hx hb hd ht (fun h => ?_) (fun h => ?_)
    · have k2 := kk ls hl; rw [if_pos (by simpa [cnd] using h)] at k2; exact k2
    · have k2 := kk ls hl; rw [if_neg (by simpa [cnd] using h)] at k2; exact k2
  · cases hs
theorem sp_icmp_lt (hx : p.tables.exec = Jvm.exec) (hb : c.code = cc) (hX : (xo X).category = 1) {off : Int} (hd : decode cc pc = .ok (.if_icmp .lt off, len)) (ha : agp pc (.if_icmp .lt off) len op a b z q) (hs : pst op a b z q L st = some (q1, L1, st1)) (hl : hasL X ls nL L)
    (kk : ∀ ls' : Array Slot, hasL X ls' nL L1 → W p l e R s m args below meth c H locs cells slots Q (F0 m q1 ls' (st1.map (trv X)))) : W p l e R s m args below meth c H locs cells slots Q (F0 m pc ls (st.map (trv X))) := by
  obtain ⟨rfl, rfl, rfl, rfl, ht⟩ := ha
  simp only [pst] at hs
  split at hs
  · cases hs
    refine lv_icmp_lt hx hb hd ht (fun h => ?_) (fun h => ?_)
    · have k2 := kk ls hl; rw [if_pos (by simpa [cnd] using h)] at k2; exact k2
    · have k2 := kk ls hl; rw [if_neg (by simpa [cnd] using h)] at k2; exact k2
  · cases hs
theorem sp_if_ge (hx : p.tables.exec = Jvm.exec) (hb : c.code = cc) (hX : (xo X).category = 1) {off : Int} (hd : decode cc pc = .ok (.ifCond .ge off, len)) (ha : agp pc (.ifCond .ge off) len op a b z q) (hs : pst op a b z q L st = some (q1, L1, st1)) (hl : hasL X ls nL L)
    (kk : ∀ ls' : Array Slot, hasL X ls' nL L1 → W p l e R s m args below meth c H locs cells slots Q (F0 m q1 ls' (st1.map (trv X)))) : W p l e R s m args below meth c H locs cells slots Q (F0 m pc ls (st.map (trv X))) := by
  obtain ⟨rfl, rfl, rfl, rfl, ht⟩ := ha
  simp only [pst] at hs
  split at hs
  · cases hs
    refine lv_if_ge hx hb hd ht (fun h => ?_) (fun h => ?_)
    · have k2 := kk ls hl; rw [if_pos (by simpa [cnd] using h)] at k2; exact k2
    · have k2 := kk ls hl; rw [if_neg (by simpa [cnd] using h)] at k2; exact k2
  · cases hs
theorem sp_icmp_ge (hx : p.tables.exec = Jvm.exec) (hb : c.code = cc) (hX : (xo X).category = 1) {off : Int} (hd : decode cc pc = .ok (.if_icmp .ge off, len)) (ha : agp pc (.if_icmp .ge off) len op a b z q) (hs : pst op a b z q L st = some (q1, L1, st1)) (hl : hasL X ls nL L)
    (kk : ∀ ls' : Array Slot, hasL X ls' nL L1 → W p l e R s m args below meth c H locs cells slots Q (F0 m q1 ls' (st1.map (trv X)))) : W p l e R s m args below meth c H locs cells slots Q (F0 m pc ls (st.map (trv X))) := by
  obtain ⟨rfl, rfl, rfl, rfl, ht⟩ := ha
  simp only [pst] at hs
  split at hs
  · cases hs
    refine lv_icmp_ge hx hb hd ht (fun h => ?_) (fun h => ?_)
    · have k2 := kk ls hl; rw [if_pos (by simpa [cnd] using h)] at k2; exact k2
    · have k2 := kk ls hl; rw [if_neg (by simpa [cnd] using h)] at k2; exact k2
  · cases hs
theorem sp_if_gt (hx : p.tables.exec = Jvm.exec) (hb : c.code = cc) (hX : (xo X).category = 1) {off : Int} (hd : decode cc pc = .ok (.ifCond .gt off, len)) (ha : agp pc (.ifCond .gt off) len op a b z q) (hs : pst op a b z q L st = some (q1, L1, st1)) (hl : hasL X ls nL L)
    (kk : ∀ ls' : Array Slot, hasL X ls' nL L1 → W p l e R s m args below meth c H locs cells slots Q (F0 m q1 ls' (st1.map (trv X)))) : W p l e R s m args below meth c H locs cells slots Q (F0 m pc ls (st.map (trv X))) := by
  obtain ⟨rfl, rfl, rfl, rfl, ht⟩ := ha
  simp only [pst] at hs
  split at hs
  · cases hs
    refine lv_if_gt hx hb hd ht (fun h => ?_) (fun h => ?_)
    · have k2 := kk ls hl; rw [if_pos (by simpa [cnd] using h)] at k2; exact k2
    · have k2 := kk ls hl; rw [if_neg (by simpa [cnd] using h)] at k2; exact k2
  · cases hs
theorem sp_icmp_gt (hx : p.tables.exec = Jvm.exec) (hb : c.code = cc) (hX : (xo X).category = 1) {off : Int} (hd : decode cc pc = .ok (.if_icmp .gt off, len)) (ha : agp pc (.if_icmp .gt off) len op a b z q) (hs : pst op a b z q L st = some (q1, L1, st1)) (hl : hasL X ls nL L)
    (kk : ∀ ls' : Array Slot, hasL X ls' nL L1 → W p l e R s m args below meth c H locs cells slots Q (F0 m q1 ls' (st1.map (trv X)))) : W p l e R s m args below meth c H locs cells slots Q (F0 m pc ls (st.map (trv X))) := by
  obtain ⟨rfl, rfl, rfl, rfl, ht⟩ := ha
  simp only [pst] at hs
  split at hs
  · cases hs
    refine lv_icmp_gt hx hb hd ht (fun h => ?_) (fun h => ?_)
    · have k2 := kk ls hl; rw [if_pos (by simpa [cnd] using h)] at k2; exact k2
    · have k2 := kk ls hl; rw [if_neg (by simpa [cnd] using h)] at k2; exact k2
  · cases hs
theorem sp_if_le (hx : p.tables.exec = Jvm.exec) (hb : c.code = cc) (hX : (xo X).category = 1) {off : Int} (hd : decode cc pc = .ok (.ifCond .le off, len)) (ha : agp pc (.ifCond .le off) len op a b z q) (hs : pst op a b z q L st = some (q1, L1, st1)) (hl : hasL X ls nL L)
    (kk : ∀ ls' : Array Slot, hasL X ls' nL L1 → W p l e R s m args below meth c H locs cells slots Q (F0 m q1 ls' (st1.map (trv X)))) : W p l e R s m args below meth c H locs cells slots Q (F0 m pc ls (st.map (trv X))) := by
  obtain ⟨rfl, rfl, rfl, rfl, ht⟩ := ha
  simp only [pst] at hs
  split at hs
  · cases hs
    refine lv_if_le hx hb hd ht (fun h => ?_) (fun h => ?_)
    · have k2 := kk ls hl; rw [if_pos (by simpa [cnd] using h)] at k2; exact k2
    · have k2 := kk ls hl; rw [if_neg (by simpa [cnd] using h)] at k2; exact k2
  · cases hs
theorem sp_icmp_le (hx : p.tables.exec = Jvm.exec) (hb : c.code = cc) (hX : (xo X).category = 1) {off : Int} (hd : decode cc pc = .ok (.if_icmp .le off, len)) (ha : agp pc (.if_icmp .le off) len op a b z q) (hs : pst op a b z q L st = some (q1, L1, st1)) (hl : hasL X ls nL L)
    (kk : ∀ ls' : Array Slot, hasL X ls' nL L1 → W p l e R s m args below meth c H locs cells slots Q (F0 m q1 ls' (st1.map (trv X)))) : W p l e R s m args below meth c H locs cells slots Q (F0 m pc ls (st.map (trv X))) := by
  obtain ⟨rfl, rfl, rfl, rfl, ht⟩ := ha
  simp only [pst] at hs
  split at hs
  · cases hs
    refine lv_icmp_le hx hb hd ht (fun h => ?_) (fun h => ?_)
    · have k2 := kk ls hl; rw [if_pos (by simpa [cnd] using h)] at k2; exact k2
    · have k2 := kk ls hl; rw [if_neg (by simpa [cnd] using h)] at k2; exact k2
  · cases hs
end SP
