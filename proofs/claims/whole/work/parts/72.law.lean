/-! THE LAW AS IT IS READ: apart from any heap -/
abbrev RA : Type := Nat × (LWT × (List Int32 × List Int32))
def dfl : LWT := fun _ _ _ _ => 0
def vcode (t : TP) (p : Nat) : Int32 := if tK t p = 2 then nI (tV t p) else if isWd t p 16 = true then -1 else if isWd t p 17 = true then -2 else if isWd t p 18 = true then -3 else if isWd t p 19 = true then -4 else -5
def vflat (t : TP) (p : Nat) : Int32 := if tK t p = 2 then nI (100 + tV t p) else if isWd t p 16 = true then 1 else if isWd t p 17 = true then 2 else if isWd t p 18 = true then 3 else 4
def vD (c : Int32) : LWT := fun gg tt mm ww => if 0 ≤ c then c else fct c gg tt mm ww
def jc (lvl : Nat) (t : TP) (p : Nat) : Int32 := if lvl = 0 then (if isWd t p 20 = true then -6 else if isWd t p 21 = true then -7 else 0) else if lvl = 1 then (if isSg t p 60 = true then -8 else if isSg t p 61 = true then -9 else 0) else if lvl = 2 then (if isSg t p 43 = true then -10 else if isSg t p 45 = true then -11 else 0) else (if isSg t p 42 = true then -12 else 0)
def fj (c : Int32) : Int32 := if c = -6 then 26 else if c = -7 then 27 else if c = -8 then 24 else if c = -9 then 25 else if c = -10 then 20 else if c = -11 then 21 else 22
def joD (c : Int32) (D1 D2 : LWT) : LWT := fun gg tt mm ww => jnd c (D1 gg tt mm ww) (D2 gg tt mm ww)
def noD (D : LWT) : LWT := fun gg tt mm ww => if D gg tt mm ww = 0 then 1 else 0
def obd {α β : Type} (r : Option (Nat ⊕ α)) (f : α → Option (Nat ⊕ β)) : Option (Nat ⊕ β) := match r with
  | none => none
  | some (.inl e) => some (.inl e)
  | some (.inr a) => f a
/-- is it a part's beginning -/
def isPt (t : TP) (p : Nat) : Bool := isWd t p 15 || isSg t p 40 || decide (¬ vcode t p = -5)
/-- m = 0: read at a level; m = 1: go on at a level -/
def rdL (t : TP) : Nat → Nat → Nat → Nat → RA → Option (Nat ⊕ RA)
  | 0, _, _, _, _ => none
  | n + 1, m, lvl, dep, r =>
    if m = 0 then
      (if lvl < 4 then obd (rdL t n 0 (lvl + 1) dep r) (fun r1 => rdL t n 1 lvl dep r1)
       else if isPt t r.1 = true then
         (if 5 ≤ dep then some (.inl (5 + 16 * r.1))
          else if isSg t r.1 40 = true then obd (rdL t n 0 0 (dep + 1) (tN t r.1, dfl, r.2.2.1, r.2.2.2 ++ [28])) (fun r1 => if isSg t r1.1 41 = true then some (.inr (tN t r1.1, r1.2.1, r1.2.2.1, r1.2.2.2 ++ [29])) else some (.inl (1 + 16 * r1.1)))
          else if isWd t r.1 15 = true then obd (rdL t n 0 4 (dep + 1) (tN t r.1, dfl, r.2.2.1, r.2.2.2 ++ [30])) (fun r1 => some (.inr (r1.1, noD r1.2.1, r1.2.2.1 ++ [-5], r1.2.2.2)))
          else some (.inr (tN t r.1, vD (vcode t r.1), r.2.2.1 ++ [vcode t r.1], r.2.2.2 ++ [vflat t r.1])))
       else some (.inl (1 + 16 * r.1)))
    else if jc lvl t r.1 = 0 then some (.inr r)
    else obd (rdL t n 0 (lvl + 1) dep (tN t r.1, dfl, r.2.2.1, r.2.2.2 ++ [fj (jc lvl t r.1)])) (fun r1 =>
      if lvl = 1 then some (.inr (r1.1, joD (jc lvl t r.1) r.2.1 r1.2.1, r1.2.2.1 ++ [jc lvl t r.1], r1.2.2.2))
      else rdL t n 1 lvl dep (r1.1, joD (jc lvl t r.1) r.2.1 r1.2.1, r1.2.2.1 ++ [jc lvl t r.1], r1.2.2.2))
theorem obd_r {α β : Type} {r : Option (Nat ⊕ α)} {f : α → Option (Nat ⊕ β)} {z : Nat ⊕ β} (h : obd r f = some z) : (∃ e, r = some (.inl e) ∧ z = .inl e) ∨ ∃ a, r = some (.inr a) ∧ f a = some z := by
  cases r with
  | none => cases h
  | some v =>
    cases v with
    | inl e => exact Or.inl ⟨e, rfl, by cases h; rfl⟩
    | inr a => exact Or.inr ⟨a, rfl, h⟩
theorem isSg_lt {t : TP} {p c : Nat} (h : isSg t p c = true) : p < t.1 := by
  simp only [isSg, Bool.and_eq_true, decide_eq_true_eq] at h
  exact tK_lt (by omega)
theorem isWd_lt {t : TP} {p n : Nat} (h : isWd t p n = true) : p < t.1 := by
  simp only [isWd, Bool.and_eq_true, decide_eq_true_eq] at h
  exact tK_lt (by omega)
theorem vcode_lt {t : TP} {p : Nat} (h : ¬ vcode t p = -5) : p < t.1 := by
  unfold vcode at h
  split at h
  · rename_i e; exact tK_lt (by omega)
  · split at h
    · rename_i e; exact isWd_lt e
    · split at h
      · rename_i e; exact isWd_lt e
      · split at h
        · rename_i e; exact isWd_lt e
        · split at h
          · rename_i e; exact isWd_lt e
          · exact absurd rfl h
theorem isPt_lt {t : TP} {p : Nat} (h : isPt t p = true) : p < t.1 := by
  simp only [isPt, Bool.or_eq_true, decide_eq_true_eq] at h
  rcases h with (h | h) | h
  · exact isWd_lt h
  · exact isSg_lt h
  · exact vcode_lt h
theorem jc_lt {lvl : Nat} {t : TP} {p : Nat} (h : ¬ jc lvl t p = 0) : p < t.1 := by
  unfold jc at h
  split at h
  · split at h
    · rename_i e; exact isWd_lt e
    · split at h
      · rename_i e; exact isWd_lt e
      · exact absurd rfl h
  · split at h
    · split at h
      · rename_i e; exact isSg_lt e
      · split at h
        · rename_i e; exact isSg_lt e
        · exact absurd rfl h
    · split at h
      · split at h
        · rename_i e; exact isSg_lt e
        · split at h
          · rename_i e; exact isSg_lt e
          · exact absurd rfl h
      · split at h
        · rename_i e; exact isSg_lt e
        · exact absurd rfl h
/-- how far it goes, how many codes it lays -/
theorem rdL_go {t : TP} : ∀ (n m lvl dep : Nat) (r r2 : RA), r.1 ≤ t.1 → rdL t n m lvl dep r = some (.inr r2) → (m = 0 → r.1 < r2.1) ∧ r.1 ≤ r2.1 ∧ r2.1 ≤ t.1 ∧ r2.2.2.1.length + r.1 ≤ r2.1 + r.2.2.1.length
  | 0, _, _, _, _, _, _, h => by cases h
  | n + 1, m, lvl, dep, r, r2, hp, h => by
    unfold rdL at h
    split at h
    · rename_i hm
      split at h
      · rcases obd_r h with ⟨e, _, h2⟩ | ⟨r1, h1, h2⟩
        · cases h2
        · obtain ⟨a1, a2, a3, a4⟩ := rdL_go n 0 (lvl + 1) dep r r1 hp h1
          obtain ⟨b1, b2, b3, b4⟩ := rdL_go n 1 lvl dep r1 r2 a3 h2
          have := a1 rfl
          refine ⟨fun _ => by omega, by omega, b3, by omega⟩
      · split at h
        · rename_i hpt
          have hlt := isPt_lt hpt
          have hn1 := tN_lt hlt
          have hn2 := (tN_le (t := t) (p := r.1) (by omega)).2
          split at h
          · cases h
          · split at h
            · rcases obd_r h with ⟨e, _, h2⟩ | ⟨r1, h1, h2⟩
              · cases h2
              · obtain ⟨a1, a2, a3, a4⟩ := rdL_go n 0 0 (dep + 1) _ r1 hn2 h1
                have a1 := a1 rfl
                simp only at a1 a2 a4
                split at h2
                · rename_i hs
                  cases h2
                  have c1 := tN_lt (isSg_lt hs)
                  have c2 := (tN_le (t := t) (p := r1.1) a3).2
                  simp only
                  refine ⟨fun _ => by omega, by omega, c2, by omega⟩
                · cases h2
            · split at h
              · rcases obd_r h with ⟨e, _, h2⟩ | ⟨r1, h1, h2⟩
                · cases h2
                · obtain ⟨a1, a2, a3, a4⟩ := rdL_go n 0 4 (dep + 1) _ r1 hn2 h1
                  have a1 := a1 rfl
                  simp only at a1 a2 a4
                  cases h2
                  simp only [List.length_append, List.length_cons, List.length_nil]
                  refine ⟨fun _ => by omega, by omega, a3, by omega⟩
              · cases h
                simp only [List.length_append, List.length_cons, List.length_nil]
                refine ⟨fun _ => by omega, by omega, hn2, by omega⟩
        · cases h
    · rename_i hm
      split at h
      · cases h
        refine ⟨fun e => absurd e hm, Nat.le_refl _, hp, by omega⟩
      · rename_i hj
        have hlt := jc_lt hj
        have hn1 := tN_lt hlt
        have hn2 := (tN_le (t := t) (p := r.1) (by omega)).2
        rcases obd_r h with ⟨e, _, h2⟩ | ⟨r1, h1, h2⟩
        · cases h2
        · obtain ⟨a1, a2, a3, a4⟩ := rdL_go n 0 (lvl + 1) dep _ r1 hn2 h1
          have a1 := a1 rfl
          simp only at a1 a2 a4
          split at h2
          · cases h2
            simp only [List.length_append, List.length_cons, List.length_nil]
            refine ⟨fun e => absurd e hm, by omega, a3, by omega⟩
          · obtain ⟨b1, b2, b3, b4⟩ := rdL_go n 1 lvl dep (r1.1, joD (jc lvl t r.1) r.2.1 r1.2.1, r1.2.2.1 ++ [jc lvl t r.1], r1.2.2.2) r2 a3 h2
            simp only [List.length_append, List.length_cons, List.length_nil] at b2 b4
            refine ⟨fun e => absurd e hm, by omega, b3, by omega⟩
theorem obd_n {α β : Type} {r : Option (Nat ⊕ α)} {f : α → Option (Nat ⊕ β)} (h1 : r ≠ none) (h2 : ∀ a, r = some (.inr a) → f a ≠ none) : obd r f ≠ none := by
  cases r with
  | none => exact absurd rfl h1
  | some v =>
    cases v with
    | inl e => intro h; cases h
    | inr a => exact h2 a rfl
/-- it comes to an end -/
theorem rdL_ok {t : TP} : ∀ (n m lvl dep : Nat) (r : RA), r.1 ≤ t.1 → lvl ≤ 4 → (m ≠ 0 → lvl ≤ 3) → 8 * (t.1 - r.1) + (if m = 0 then 6 - lvl else 1) < n → rdL t n m lvl dep r ≠ none
  | 0, _, _, _, _, _, _, _, h => by omega
  | n + 1, m, lvl, dep, r, hp, hl, hl3, h => by
    unfold rdL
    split
    · rename_i hm
      rw [if_pos hm] at h
      split
      · rename_i h4
        refine obd_n (rdL_ok n 0 (lvl + 1) dep r hp (by omega) (fun e => absurd rfl e) (by simp only [if_true]; omega)) (fun r1 h1 => ?_)
        obtain ⟨a1, a2, a3, _⟩ := rdL_go n 0 (lvl + 1) dep r r1 hp h1
        have a1 := a1 rfl
        exact rdL_ok n 1 lvl dep r1 a3 (by omega) (fun _ => by omega) (by rw [if_neg (by decide)]; omega)
      · split
        · rename_i hpt
          have hlt := isPt_lt hpt
          have hn1 := tN_lt hlt
          have hn2 := (tN_le (t := t) (p := r.1) (by omega)).2
          split
          · intro e; cases e
          · split
            · refine obd_n (rdL_ok n 0 0 (dep + 1) _ hn2 (by omega) (fun e => absurd rfl e) (by simp only [if_true]; omega)) (fun r1 h1 => ?_)
              split <;> (intro e; cases e)
            · split
              · refine obd_n (rdL_ok n 0 4 (dep + 1) _ hn2 (by omega) (fun e => absurd rfl e) (by simp only [if_true]; omega)) (fun r1 h1 => ?_)
                intro e; cases e
              · intro e; cases e
        · intro e; cases e
    · rename_i hm
      rw [if_neg hm] at h
      split
      · intro e; cases e
      · rename_i hj
        have hlt := jc_lt hj
        have hn1 := tN_lt hlt
        have hn2 := (tN_le (t := t) (p := r.1) (by omega)).2
        by_cases h4 : lvl ≤ 3
        · refine obd_n (rdL_ok n 0 (lvl + 1) dep _ hn2 (by omega) (fun e => absurd rfl e) (by simp only [if_true]; omega)) (fun r1 h1 => ?_)
          obtain ⟨a1, a2, a3, _⟩ := rdL_go n 0 (lvl + 1) dep _ r1 hn2 h1
          have a1 := a1 rfl
          simp only at a1
          split
          · intro e; cases e
          · exact rdL_ok n 1 lvl dep _ a3 (by omega) (fun _ => h4) (by rw [if_neg (by decide)]; simp only; omega)
        · exact absurd (hl3 hm) h4
def setC (B : LB) (pc fc : List Int32) (D : LWT) : LB := (B.1, B.2.1, B.2.2.1, B.2.2.2.1, pc, fc, D)
def rdF (t : TP) : Nat := 8 * t.1 + 20
def sWinds (t : TP) (p : Nat) (B : LB) : Nat ⊕ (Nat × LB) := if bC B = [] then (match rdL t (rdF t) 0 0 0 (tN t p, dfl, [], []) with
  | some (.inl f) => .inl f
  | some (.inr r) => .inr (r.1, setC B r.2.2.1 r.2.2.2 r.2.1)
  | none => .inl 0) else .inl (3 + 16 * p)
theorem wf_winds {t : TP} {p p2 : Nat} {B B2 : LB} (hw : wfB B) (h : sWinds t p B = .inr (p2, B2)) : wfB B2 := by
  unfold sWinds at h
  split at h
  · split at h
    · cases h
    · cases h; exact hw
    · cases h
  · cases h
