/-! HEAPS AS LISTS: runs of constructors by counting -/
abbrev Ky : Type := Nat × (Nat × Nat)
abbrev AH : Type := (Nat × List Nat) × (List (Ky × Int32) × List (Ky × Nat))
def tbF (l : List (Ky × Int32)) : FT := fun k n j => (l.lookup (k, n, j)).getD 0
def tbR (l : List (Ky × Nat)) : RT := fun k n j => l.lookup (k, n, j)
def g00 : GT := fun _ _ _ => 0
def cnL (l : List Nat) (k : Nat) : Nat := if k = 1000 then 0 else l.getD k 0
def den (a : AH) : HS := ((a.1.1, cnL a.1.2), tbF a.2.1, g00, tbR a.2.2)
def nok {α : Type} (l : List (Ky × α)) (k n : Nat) : Bool := l.all fun e => !(e.1.1 == k && e.1.2.1 == n)
theorem lk_cons {α : Type} (l : List (Ky × α)) (k n i k2 n2 i2 : Nat) (v : α) : (((k, n, i), v) :: l).lookup (k2, n2, i2) = if k2 = k ∧ n2 = n ∧ i2 = i then some v else l.lookup (k2, n2, i2) := by
  rw [List.lookup_cons]
  by_cases h : k2 = k ∧ n2 = n ∧ i2 = i
  · obtain ⟨rfl, rfl, rfl⟩ := h
    simp
  · rw [if_neg h]
    have h1 : (((k2, n2, i2) : Ky) == (k, n, i)) = false := by
      apply beq_eq_false_iff_ne.mpr
      intro e
      cases e
      exact h ⟨rfl, rfl, rfl⟩
    simp [h1]
theorem lk_none {α : Type} {k n : Nat} (i : Nat) : ∀ {l : List (Ky × α)}, nok l k n = true → l.lookup (k, n, i) = none
  | [], _ => rfl
  | ((k2, n2, i2), v) :: l, h => by
    simp only [nok, List.all_cons, Bool.and_eq_true] at h
    rw [lk_cons, if_neg, lk_none i (l := l) h.2]
    rintro ⟨rfl, rfl, rfl⟩
    simp at h
theorem uF_tb (l : List (Ky × Int32)) (k n i : Nat) (v : Int32) : uF (tbF l) k n i v = tbF (((k, n, i), v) :: l) := by
  funext k2 n2 i2
  simp only [uF, tbF, lk_cons]
  split <;> rfl
theorem uR_tb (l : List (Ky × Nat)) (k n i m : Nat) : uR (tbR l) k n i (some m) = tbR (((k, n, i), m) :: l) := by
  funext k2 n2 i2
  simp only [uR, tbR, lk_cons]
theorem zF_tb {l : List (Ky × Int32)} {k n : Nat} (h : nok l k n = true) : zF (tbF l) k n = tbF l := by
  funext k2 n2 i2
  simp only [zF]
  split
  · rename_i e
    obtain ⟨rfl, rfl⟩ := e
    simp [tbF, lk_none i2 h]
  · rfl
theorem zR_tb {l : List (Ky × Nat)} {k n : Nat} (h : nok l k n = true) : zR (tbR l) k n = tbR l := by
  funext k2 n2 i2
  simp only [zR]
  split
  · rename_i e
    obtain ⟨rfl, rfl⟩ := e
    simp [tbR, lk_none i2 h]
  · rfl
theorem zG_00 (k n : Nat) : zG g00 k n = g00 := by
  funext k2 n2 i2
  simp only [zG, g00]
  split <;> rfl
theorem uC_cn {l : List Nat} {k : Nat} (v : Nat) (hk : k < l.length) (h1 : k ≠ 1000) : uC (cnL l) k v = cnL (l.set k v) := by
  funext j
  simp only [uC, cnL]
  by_cases hj : j = k
  · subst hj
    rw [if_pos rfl, if_neg h1]
    simp [List.getD, hk]
  · rw [if_neg hj]
    split
    · rfl
    · simp only [List.getD]
      rw [List.getElem?_set_ne (fun e => hj e.symm)]
def alcA (k : Nat) (a : AH) : Option AH :=
  if cord[a.1.1]? = some (k, cnL a.1.2 k) ∧ k < a.1.2.length ∧ k < 1000 ∧ nok a.2.1 k (cnL a.1.2 k) = true ∧ nok a.2.2 k (cnL a.1.2 k) = true then some ((a.1.1 + 1, a.1.2.set k (cnL a.1.2 k + 1)), a.2.1, a.2.2) else none
theorem alcA_ok {k : Nat} {a a2 : AH} (h : alcA k a = some a2) : alc k (den a) = some (den a2) := by
  unfold alcA at h
  split at h
  · rename_i hc
    obtain ⟨c1, c2, c3, c4, c5⟩ := hc
    cases h
    unfold alc
    rw [if_pos (show cord[(den a).1.1]? = some (k, (den a).1.2 k) from c1)]
    show some ((a.1.1 + 1, uC (cnL a.1.2) k (cnL a.1.2 k + 1)), zF (tbF a.2.1) k (cnL a.1.2 k), zG g00 k (cnL a.1.2 k), zR (tbR a.2.2) k (cnL a.1.2 k)) = _
    rw [uC_cn _ c2 (by omega), zF_tb c4, zG_00, zR_tb c5]
    rfl
  · cases h
def pfdA (a : AH) (K j k n : Nat) (v : PV) : Option AH :=
  if k = K ∧ n < cnL a.1.2 k then
    match (kt K).1, (kt K).2.2[j]?, v with
    | 0, some (0, _), .inl x => some (a.1, ((k, n, j), x) :: a.2.1, a.2.2)
    | 0, some (2, rk), .inr (.inr (k2, m)) => if k2 = rk ∧ m < cnL a.1.2 rk then some (a.1, a.2.1, ((k, n, j), m) :: a.2.2) else none
    | _, _, _ => none
  else none
theorem pfdA_ok {a a2 : AH} {K j k n : Nat} {v : PV} (h : pfdA a K j k n v = some a2) : pfd (den a) K j k n v = some (den a2) := by
  unfold pfdA at h
  split at h
  · rename_i hc
    unfold pfd
    rw [if_pos (show k = K ∧ n < (den a).1.2 k from hc)]
    split at h
    · rename_i e1 e2
      cases h
      rw [e1, e2]
      show some (_, uF (tbF a.2.1) k n j _, _, _) = _
      rw [uF_tb]
      rfl
    · rename_i e1 e2
      split at h
      · rename_i hd
        cases h
        rw [e1, e2]
        simp only
        refine Eq.trans (if_pos hd) ?_
        show some (_, _, _, uR (tbR a.2.2) k n j _) = _
        rw [uR_tb]
        rfl
      · cases h
    · cases h
  · cases h
def astA (a : AH) (s k n : Nat) (i : Int32) (v : PV) : Option AH :=
  if (kt k).1 = s ∧ n < cnL a.1.2 k ∧ inb i (kt k).2.1 = true then
    match s, v with
    | 1, .inl x => some (a.1, ((k, n, i.toNatClampNeg), x) :: a.2.1, a.2.2)
    | 5, .inr (.inr (k2, m)) => match (kt k).2.2 with
      | [(_, rk)] => if k2 = rk ∧ m < cnL a.1.2 rk then some (a.1, a.2.1, ((k, n, i.toNatClampNeg), m) :: a.2.2) else none
      | _ => none
    | _, _ => none
  else none
theorem astA_ok {a a2 : AH} {s k n : Nat} {i : Int32} {v : PV} (h : astA a s k n i v = some a2) : ast (den a) s k n i v = some (den a2) := by
  unfold astA at h
  split at h
  · rename_i hc
    unfold ast
    rw [if_pos (show (kt k).1 = s ∧ n < (den a).1.2 k ∧ inb i (kt k).2.1 = true from hc)]
    split at h
    · cases h
      show some (_, uF (tbF a.2.1) k n i.toNatClampNeg _, _, _) = _
      rw [uF_tb]
      rfl
    · split at h
      · rename_i e1
        split at h
        · rename_i hd
          cases h
          simp only [e1]
          refine Eq.trans (if_pos hd) ?_
          show some (_, _, _, uR (tbR a.2.2) k n i.toNatClampNeg _) = _
          rw [uR_tb]
          rfl
        · cases h
      · cases h
    · cases h
  · cases h
def hstA (op a b q : Nat) (st : List PV) (h : AH) : Option (Nat × (List PV × AH)) :=
  match op with
  | 29 => match st with
    | .inr (.inr (k, n)) :: r => (gfd (den h) a b k n).map fun v => (q, v :: r, h)
    | _ => none
  | 30 => match st with
    | v :: .inr (.inr (k, n)) :: r => (pfdA h a b k n v).map fun h1 => (q, r, h1)
    | _ => none
  | 31 => match st with
    | .inl i :: .inr (.inr (k, n)) :: r => if k = 0 then none else (ald 0 (fun _ => 0) (den h) a k n i).map fun v => (q, v :: r, h)
    | _ => none
  | 32 => match st with
    | v :: .inl i :: .inr (.inr (k, n)) :: r => (astA h a k n i v).map fun h1 => (q, r, h1)
    | _ => none
  | 33 => match st with
    | .inr (.inr (k, n)) :: r => if k = 0 then none else (aln 0 (den h) k n).map fun v => (q, .inl v :: r, h)
    | _ => none
  | 39 => if (kt a).1 = 0 then (alcA a h).map fun h1 => (q, .inr (.inr (a, cnL h.1.2 a)) :: st, h1) else none
  | 40 => match st with
    | .inl x :: r => if 1 ≤ (kt a).1 ∧ (kt a).1 ≤ 4 ∧ x = Int32.ofNat (kt a).2.1 then (alcA a h).map fun h1 => (q, .inr (.inr (a, cnL h.1.2 a)) :: r, h1) else none
    | _ => none
  | 41 => match st with
    | .inl x :: r => if (kt a).1 = 5 ∧ x = Int32.ofNat (kt a).2.1 then (alcA a h).map fun h1 => (q, .inr (.inr (a, cnL h.1.2 a)) :: r, h1) else none
    | _ => none
  | 44 => match st with
    | .inr (.inr (k, n)) :: r => if k < 90 ∧ (r.map catP).sum ≤ 8 then some (q, r, h) else none
    | _ => none
  | _ => none
theorem ald_0 {Ls : Nat} {xs : Nat → Int32} {h : HS} {s k n : Nat} {i : Int32} (hk : ¬ k = 0) : ald Ls xs h s k n i = ald 0 (fun _ => 0) h s k n i := by
  unfold ald
  rw [if_neg hk, if_neg hk]
theorem aln_0 {Ls : Nat} {h : HS} {k n : Nat} (hk : ¬ k = 0) : aln Ls h k n = aln 0 h k n := by
  unfold aln
  rw [if_neg hk, if_neg hk]
theorem hstA_ok {Ls : Nat} {xs : Nat → Int32} {op a b q : Nat} {st : List PV} {h : AH} {q1 : Nat} {st1 : List PV} {h1 : AH} (hg : hstA op a b q st h = some (q1, st1, h1)) : hst Ls xs op a b q st (den h) = some (q1, st1, den h1) := by
  unfold hstA at hg
  unfold hst
  split at hg
  · split at hg
    · simp only [Option.map_eq_some_iff] at hg
      obtain ⟨v, hv, hg⟩ := hg
      cases hg
      simp only [hv, Option.map_some]
    · cases hg
  · split at hg
    · simp only [Option.map_eq_some_iff] at hg
      obtain ⟨v, hv, hg⟩ := hg
      cases hg
      simp only [pfdA_ok hv, Option.map_some]
    · cases hg
  · split at hg
    · split at hg
      · cases hg
      · rename_i hk
        simp only [Option.map_eq_some_iff] at hg
        obtain ⟨v, hv, hg⟩ := hg
        cases hg
        simp only [ald_0 (Ls := Ls) (xs := xs) hk, hv, Option.map_some]
    · cases hg
  · split at hg
    · simp only [Option.map_eq_some_iff] at hg
      obtain ⟨v, hv, hg⟩ := hg
      cases hg
      simp only [astA_ok hv, Option.map_some]
    · cases hg
  · split at hg
    · split at hg
      · cases hg
      · rename_i hk
        simp only [Option.map_eq_some_iff] at hg
        obtain ⟨v, hv, hg⟩ := hg
        cases hg
        simp only [aln_0 (Ls := Ls) hk, hv, Option.map_some]
    · cases hg
  · split at hg
    · rename_i h0
      simp only [Option.map_eq_some_iff] at hg
      obtain ⟨v, hv, hg⟩ := hg
      cases hg
      simp only
      rw [if_pos h0, alcA_ok hv]
      rfl
    · cases hg
  · split at hg
    · split at hg
      · rename_i h0
        simp only [Option.map_eq_some_iff] at hg
        obtain ⟨v, hv, hg⟩ := hg
        cases hg
        simp only
        rw [if_pos h0, alcA_ok hv]
        rfl
      · cases hg
    · cases hg
  · split at hg
    · split at hg
      · rename_i h0
        simp only [Option.map_eq_some_iff] at hg
        obtain ⟨v, hv, hg⟩ := hg
        cases hg
        simp only
        rw [if_pos h0, alcA_ok hv]
        rfl
      · cases hg
    · cases hg
  · split at hg
    · split at hg
      · rename_i h0
        cases hg
        simp only
        rw [if_pos h0]
      · cases hg
    · cases hg
  · cases hg
def execA : Nat → Nat → Nat → Nat → LL → List PV → AH → Option (Option PV × AH)
  | 0, _, _, _, _, _, _ => none
  | f + 1, d, m, pc, L, st, h => match cod m pc with
    | none => none
    | some (op, a, b, z, q) =>
      if op < 29 then match pst op a b z q L st with
        | some (q1, L1, st1) => execA f d m q1 L1 st1 h
        | none => none
      else if op = 34 then match d with
        | 0 => none
        | d1 + 1 =>
          if b ≤ st.length ∧ ((st.drop b).map catP).sum ≤ 8 ∧ (entG (st.take b).reverse).length ≤ mx a ∧ recv z b (den h) (st.take b).reverse = true then
            match execA f d1 a 0 (entL a (st.take b).reverse) [] h with
            | some (r, h1) => execA f (d1 + 1) m q L (r.toList ++ st.drop b) h1
            | none => none
          else none
      else if op = 35 then match st with
        | [] => some (none, h)
        | _ => none
      else if op = 45 ∨ op = 36 ∨ d = 0 then none
      else match hstA op a b q st h with
        | some (q1, st1, h1) => execA f d m q1 L st1 h1
        | none => none
theorem execA_ok {Ls : Nat} {xs : Nat → Int32} {orc : Orc} : ∀ (f d m pc : Nat) (L : LL) (st : List PV) (a : AH) (r : Option PV) (a2 : AH), execA f d m pc L st a = some (r, a2) → exec Ls xs orc f d m pc L st (den a) = some (r, den a2) := by
  intro f
  induction f with
  | zero => intro d m pc L st a r a2 hg; simp [execA] at hg
  | succ f ih =>
    intro d m pc L st a r a2 hg
    unfold execA at hg
    unfold exec
    split at hg
    · cases hg
    · rename_i op c b z q hc
      simp only [hc]
      split at hg
      · rename_i h29
        rw [if_pos h29]
        split at hg
        · rename_i hs
          rw [hs]
          exact ih _ _ _ _ _ _ _ _ hg
        · cases hg
      · rename_i h29
        rw [if_neg h29]
        split at hg
        · rename_i h34
          rw [if_pos h34]
          split at hg
          · cases hg
          · rename_i d1
            split at hg
            · rename_i hcond
              simp only
              rw [if_pos hcond]
              split at hg
              · rename_i r1 h1 he
                rw [ih _ _ _ _ _ _ _ _ he]
                exact ih _ _ _ _ _ _ _ _ hg
              · cases hg
            · cases hg
        · rename_i h34
          rw [if_neg h34]
          split at hg
          · rename_i h35
            rw [if_neg (by omega), if_pos h35]
            split at hg
            · cases hg
              rfl
            · cases hg
          · rename_i h35
            split at hg
            · cases hg
            · rename_i h45
              rw [if_neg (by omega), if_neg h35, if_neg (by omega), if_neg (by omega)]
              split at hg
              · rename_i hs
                rw [hstA_ok hs]
                exact ih _ _ _ _ _ _ _ _ hg
              · cases hg
