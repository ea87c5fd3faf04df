/-! THE LAW READ WITHOUT CALLS: as the reference goes, against rdL -/
def pn : Bool → List (Bool × Bool) → Bool × List (Bool × Bool)
  | c, [] => (c, [])
  | c, (k, c1) :: st => if k = true then pn c1 st else (c, (k, c1) :: st)
def okS (st : List (Bool × Bool)) : Prop := ∀ c, pn c st = (c, st)
def FlC (t : TP) (X : Bool → Nat → Bool → List (Bool × Bool) → List Int32 → Nat ⊕ (Nat × List Int32) → Prop) : Prop := (∀ (p : Nat) (c : Bool) (st : List (Bool × Bool)) (fc : List Int32), (isPt t p = false) → X true p c st fc (.inl (1 + 16 * p))) ∧ (∀ (p : Nat) (c : Bool) (st : List (Bool × Bool)) (fc : List Int32), (isPt t p = true) → (5 ≤ st.length) → X true p c st fc (.inl (5 + 16 * p))) ∧ (∀ (p : Nat) (c : Bool) (st : List (Bool × Bool)) (fc : List Int32) (Z : Nat ⊕ (Nat × List Int32)), (isPt t p = true) → (st.length < 5) → ((isWd t p 15 || isSg t p 40) = true) → (X true (tN t p) false ((isWd t p 15, c) :: st) (fc ++ [if isWd t p 15 = true then 30 else 28]) Z) → X true p c st fc Z) ∧ (∀ (p : Nat) (c : Bool) (st : List (Bool × Bool)) (fc : List Int32) (Z : Nat ⊕ (Nat × List Int32)), (isPt t p = true) → (st.length < 5) → ((isWd t p 15 || isSg t p 40) = false) → (X false (tN t p) (pn c st).1 (pn c st).2 (fc ++ [vflat t p]) Z) → X true p c st fc Z) ∧ (∀ (p : Nat) (c : Bool) (st : List (Bool × Bool)) (fc : List Int32) (Z : Nat ⊕ (Nat × List Int32)), (¬ jc 2 t p = 0) → (X true (tN t p) c st (fc ++ [fj (jc 2 t p)]) Z) → X false p c st fc Z) ∧ (∀ (p : Nat) (c : Bool) (st : List (Bool × Bool)) (fc : List Int32) (Z : Nat ⊕ (Nat × List Int32)), (jc 2 t p = 0) → (¬ jc 3 t p = 0) → (X true (tN t p) c st (fc ++ [fj (jc 3 t p)]) Z) → X false p c st fc Z) ∧ (∀ (p : Nat) (c : Bool) (st : List (Bool × Bool)) (fc : List Int32) (Z : Nat ⊕ (Nat × List Int32)), (jc 2 t p = 0) → (jc 3 t p = 0) → (¬ jc 1 t p = 0) → (c = false) → (X true (tN t p) true st (fc ++ [fj (jc 1 t p)]) Z) → X false p c st fc Z) ∧ (∀ (p : Nat) (c : Bool) (st : List (Bool × Bool)) (fc : List Int32) (Z : Nat ⊕ (Nat × List Int32)), (jc 2 t p = 0) → (jc 3 t p = 0) → (¬ jc 1 t p = 0 → c = true) → (¬ jc 0 t p = 0) → (X true (tN t p) false st (fc ++ [fj (jc 0 t p)]) Z) → X false p c st fc Z) ∧ (∀ (p : Nat) (c k c1 : Bool) (st : List (Bool × Bool)) (fc : List Int32) (Z : Nat ⊕ (Nat × List Int32)), (jc 2 t p = 0) → (jc 3 t p = 0) → (¬ jc 1 t p = 0 → c = true) → (jc 0 t p = 0) → (isSg t p 41 = true) → (X false (tN t p) (pn c1 st).1 (pn c1 st).2 (fc ++ [29]) Z) → X false p c ((k, c1) :: st) fc Z) ∧ (∀ (p : Nat) (c : Bool) (fc : List Int32), (jc 2 t p = 0) → (jc 3 t p = 0) → (¬ jc 1 t p = 0 → c = true) → (jc 0 t p = 0) → (isSg t p 59 = true) → X false p c [] fc (.inr (tN t p, fc))) ∧ (∀ (p : Nat) (c : Bool) (st : List (Bool × Bool)) (fc : List Int32), (jc 2 t p = 0) → (jc 3 t p = 0) → (¬ jc 1 t p = 0 → c = true) → (jc 0 t p = 0) → (isSg t p 41 = true → st = []) → (st = [] → isSg t p 59 = false) → X false p c st fc (.inl (1 + 16 * p)))
/-- the least relation so closed -/
def Fl (t : TP) (w : Bool) (p : Nat) (c : Bool) (st : List (Bool × Bool)) (fc : List Int32) (Z : Nat ⊕ (Nat × List Int32)) : Prop := ∀ X, FlC t X → X w p c st fc Z
theorem Fl.bad {t : TP} {p : Nat} {c : Bool} {st : List (Bool × Bool)} {fc : List Int32} (h1 : isPt t p = false) : Fl t true p c st fc (.inl (1 + 16 * p)) := fun X hX => hX.1 _ _ _ _ h1
theorem Fl.deep {t : TP} {p : Nat} {c : Bool} {st : List (Bool × Bool)} {fc : List Int32} (h1 : isPt t p = true) (h2 : 5 ≤ st.length) : Fl t true p c st fc (.inl (5 + 16 * p)) := fun X hX => hX.2.1 _ _ _ _ h1 h2
theorem Fl.push {t : TP} {p : Nat} {c : Bool} {st : List (Bool × Bool)} {fc : List Int32} {Z : Nat ⊕ (Nat × List Int32)} (h1 : isPt t p = true) (h2 : st.length < 5) (h3 : (isWd t p 15 || isSg t p 40) = true) (hz : Fl t true (tN t p) false ((isWd t p 15, c) :: st) (fc ++ [if isWd t p 15 = true then 30 else 28]) Z) : Fl t true p c st fc Z := fun X hX => hX.2.2.1 _ _ _ _ _ h1 h2 h3 (hz X hX)
theorem Fl.val {t : TP} {p : Nat} {c : Bool} {st : List (Bool × Bool)} {fc : List Int32} {Z : Nat ⊕ (Nat × List Int32)} (h1 : isPt t p = true) (h2 : st.length < 5) (h3 : (isWd t p 15 || isSg t p 40) = false) (hz : Fl t false (tN t p) (pn c st).1 (pn c st).2 (fc ++ [vflat t p]) Z) : Fl t true p c st fc Z := fun X hX => hX.2.2.2.1 _ _ _ _ _ h1 h2 h3 (hz X hX)
theorem Fl.op2 {t : TP} {p : Nat} {c : Bool} {st : List (Bool × Bool)} {fc : List Int32} {Z : Nat ⊕ (Nat × List Int32)} (h1 : ¬ jc 2 t p = 0) (hz : Fl t true (tN t p) c st (fc ++ [fj (jc 2 t p)]) Z) : Fl t false p c st fc Z := fun X hX => hX.2.2.2.2.1 _ _ _ _ _ h1 (hz X hX)
theorem Fl.op3 {t : TP} {p : Nat} {c : Bool} {st : List (Bool × Bool)} {fc : List Int32} {Z : Nat ⊕ (Nat × List Int32)} (h1 : jc 2 t p = 0) (h2 : ¬ jc 3 t p = 0) (hz : Fl t true (tN t p) c st (fc ++ [fj (jc 3 t p)]) Z) : Fl t false p c st fc Z := fun X hX => hX.2.2.2.2.2.1 _ _ _ _ _ h1 h2 (hz X hX)
theorem Fl.cmp {t : TP} {p : Nat} {c : Bool} {st : List (Bool × Bool)} {fc : List Int32} {Z : Nat ⊕ (Nat × List Int32)} (h1 : jc 2 t p = 0) (h2 : jc 3 t p = 0) (h3 : ¬ jc 1 t p = 0) (h4 : c = false) (hz : Fl t true (tN t p) true st (fc ++ [fj (jc 1 t p)]) Z) : Fl t false p c st fc Z := fun X hX => hX.2.2.2.2.2.2.1 _ _ _ _ _ h1 h2 h3 h4 (hz X hX)
theorem Fl.lg {t : TP} {p : Nat} {c : Bool} {st : List (Bool × Bool)} {fc : List Int32} {Z : Nat ⊕ (Nat × List Int32)} (h1 : jc 2 t p = 0) (h2 : jc 3 t p = 0) (h3 : ¬ jc 1 t p = 0 → c = true) (h4 : ¬ jc 0 t p = 0) (hz : Fl t true (tN t p) false st (fc ++ [fj (jc 0 t p)]) Z) : Fl t false p c st fc Z := fun X hX => hX.2.2.2.2.2.2.2.1 _ _ _ _ _ h1 h2 h3 h4 (hz X hX)
theorem Fl.cl {t : TP} {p : Nat} {c k c1 : Bool} {st : List (Bool × Bool)} {fc : List Int32} {Z : Nat ⊕ (Nat × List Int32)} (h1 : jc 2 t p = 0) (h2 : jc 3 t p = 0) (h3 : ¬ jc 1 t p = 0 → c = true) (h4 : jc 0 t p = 0) (h5 : isSg t p 41 = true) (hz : Fl t false (tN t p) (pn c1 st).1 (pn c1 st).2 (fc ++ [29]) Z) : Fl t false p c ((k, c1) :: st) fc Z := fun X hX => hX.2.2.2.2.2.2.2.2.1 _ _ _ _ _ _ _ h1 h2 h3 h4 h5 (hz X hX)
theorem Fl.en {t : TP} {p : Nat} {c : Bool} {fc : List Int32} (h1 : jc 2 t p = 0) (h2 : jc 3 t p = 0) (h3 : ¬ jc 1 t p = 0 → c = true) (h4 : jc 0 t p = 0) (h5 : isSg t p 59 = true) : Fl t false p c [] fc (.inr (tN t p, fc)) := fun X hX => hX.2.2.2.2.2.2.2.2.2.1 _ _ _ h1 h2 h3 h4 h5
theorem Fl.no {t : TP} {p : Nat} {c : Bool} {st : List (Bool × Bool)} {fc : List Int32} (h1 : jc 2 t p = 0) (h2 : jc 3 t p = 0) (h3 : ¬ jc 1 t p = 0 → c = true) (h4 : jc 0 t p = 0) (h5 : isSg t p 41 = true → st = []) (h6 : st = [] → isSg t p 59 = false) : Fl t false p c st fc (.inl (1 + 16 * p)) := fun X hX => hX.2.2.2.2.2.2.2.2.2.2 _ _ _ _ h1 h2 h3 h4 h5 h6
def FPo (t : TP) (lvl p : Nat) (c c2 : Bool) : Prop := (2 ≤ lvl → c2 = c) ∧ jc 3 t p = 0 ∧ (lvl ≤ 2 → jc 2 t p = 0) ∧ (lvl ≤ 1 → ¬ jc 1 t p = 0 → c2 = true) ∧ (lvl = 0 → jc 0 t p = 0)
def FPr (t : TP) (lvl p : Nat) (c : Bool) : Prop := (lvl = 1 → c = false) ∧ (lvl ≤ 2 → jc 3 t p = 0) ∧ (lvl ≤ 1 → jc 2 t p = 0) ∧ (lvl = 0 → ¬ jc 1 t p = 0 → c = true)
def FOu (t : TP) (lvl : Nat) (w : Bool) (c : Bool) (st : List (Bool × Bool)) (r : RA) (z : Nat ⊕ RA) : Prop := match z with
  | .inl f => Fl t w r.1 c st r.2.2.2 (.inl f)
  | .inr r1 => ∃ c2, FPo t lvl r1.1 c c2 ∧ ∀ Z, Fl t false r1.1 c2 st r1.2.2.2 Z → Fl t w r.1 c st r.2.2.2 Z
def FA4 (t : TP) (c : Bool) (st : List (Bool × Bool)) (r : RA) (z : Nat ⊕ RA) : Prop := match z with
  | .inl f => Fl t true r.1 c st r.2.2.2 (.inl f)
  | .inr r1 => ∀ Z, Fl t false r1.1 (pn c st).1 (pn c st).2 r1.2.2.2 Z → Fl t true r.1 c st r.2.2.2 Z
theorem sg_ne {t : TP} {p a c : Nat} (h : isSg t p a = true) (hc : a ≠ c) : isSg t p c = false := by
  simp only [isSg, Bool.and_eq_true, decide_eq_true_eq] at h
  simp only [isSg]
  rw [decide_eq_false (show ¬ cAt t p = c by omega), Bool.and_false]
theorem sg_wd {t : TP} {p a n : Nat} (h : isSg t p a = true) : isWd t p n = false := by
  simp only [isSg, Bool.and_eq_true, decide_eq_true_eq] at h
  simp only [isWd]
  rw [decide_eq_false (show ¬ tK t p = 1 by omega), Bool.false_and]
theorem jc_32 {t : TP} {p : Nat} (h : ¬ jc 3 t p = 0) : jc 2 t p = 0 := by
  have e : isSg t p 42 = true := by
    apply Decidable.byContradiction
    intro e
    exact h (by simp [jc, e])
  simp [jc, sg_ne e (c := 43) (by decide), sg_ne e (c := 45) (by decide)]
theorem Fl.opl {t : TP} {lvl p : Nat} {c : Bool} {st : List (Bool × Bool)} {fc : List Int32} {Z : Nat ⊕ (Nat × List Int32)} (hl : lvl ≤ 3) (hp : FPr t lvl p c) (hj : ¬ jc lvl t p = 0) (hz : Fl t true (tN t p) (if lvl = 1 then true else if lvl = 0 then false else c) st (fc ++ [fj (jc lvl t p)]) Z) : Fl t false p c st fc Z := by
  obtain ⟨a1, a2, a3, a4⟩ := hp
  match lvl, hl with
  | 0, _ => exact Fl.lg (a3 (by decide)) (a2 (by decide)) (a4 rfl) hj hz
  | 1, _ => exact Fl.cmp (a3 (by decide)) (a2 (by decide)) hj (a1 rfl) hz
  | 2, _ => exact Fl.op2 hj hz
  | 3, _ => exact Fl.op3 (jc_32 hj) hj hz
theorem fl_rd {t : TP} : ∀ (n m lvl dep : Nat) (r : RA) (z : Nat ⊕ RA), rdL t n m lvl dep r = some z → lvl ≤ 4 → ∀ (c : Bool) (st : List (Bool × Bool)), st.length = dep → (m = 0 → lvl = 4 → FA4 t c st r z) ∧ (m = 0 → lvl < 4 → okS st → (lvl ≤ 1 → c = false) → FOu t lvl true c st r z) ∧ (m ≠ 0 → lvl < 4 → okS st → FPr t lvl r.1 c → FOu t lvl false c st r z)
  | 0, _, _, _, _, _, h, _, _, _, _ => by cases h
  | n + 1, m, lvl, dep, r, z, h, hl, c, st, hst => by
    refine ⟨fun hm hl4 => ?_, fun hm hl4 hok hc => ?_, fun hm hl4 hok hp => ?_⟩
    · subst hm hl4
      simp only [rdL] at h
      rw [if_pos trivial, if_neg (by decide)] at h
      by_cases hpt : isPt t r.1 = true
      · rw [if_pos hpt] at h
        by_cases hd : 5 ≤ dep
        · rw [if_pos hd] at h
          cases h
          exact Fl.deep hpt (by omega)
        · rw [if_neg hd] at h
          by_cases h40 : isSg t r.1 40 = true
          · rw [if_pos h40] at h
            have hwd : isWd t r.1 15 = false := sg_wd h40
            have hps : ∀ Z, Fl t true (tN t r.1) false ((false, c) :: st) (r.2.2.2 ++ [28]) Z → Fl t true r.1 c st r.2.2.2 Z := fun Z hz => Fl.push hpt (by omega) (by rw [h40, Bool.or_true]) (by rw [hwd]; exact hz)
            rcases obd_r h with ⟨e, h1, rfl⟩ | ⟨r1, h1, h2⟩
            · have := (fl_rd n 0 0 (dep + 1) _ _ h1 (by decide) false ((false, c) :: st) (by simp [hst])).2.1 rfl (by decide) (fun _ => rfl) (fun _ => rfl)
              exact hps _ this
            · obtain ⟨c2, q1, q2⟩ := (fl_rd n 0 0 (dep + 1) _ _ h1 (by decide) false ((false, c) :: st) (by simp [hst])).2.1 rfl (by decide) (fun _ => rfl) (fun _ => rfl)
              obtain ⟨b1, b2, b3, b4, b5⟩ := q1
              by_cases h41 : isSg t r1.1 41 = true
              · rw [if_pos h41] at h2
                cases h2
                exact fun Z hz => hps _ (q2 _ (Fl.cl (b3 (by decide)) b2 (b4 (by decide)) (b5 rfl) h41 hz))
              · rw [if_neg h41] at h2
                cases h2
                exact hps _ (q2 _ (Fl.no (b3 (by decide)) b2 (b4 (by decide)) (b5 rfl) (fun e => absurd e h41) (fun e => by cases e)))
          · rw [if_neg h40] at h
            by_cases h15 : isWd t r.1 15 = true
            · rw [if_pos h15] at h
              have hps : ∀ Z, Fl t true (tN t r.1) false ((true, c) :: st) (r.2.2.2 ++ [30]) Z → Fl t true r.1 c st r.2.2.2 Z := fun Z hz => Fl.push hpt (by omega) (by rw [h15, Bool.true_or]) (by rw [h15]; exact hz)
              rcases obd_r h with ⟨e, h1, rfl⟩ | ⟨r1, h1, h2⟩
              · have := (fl_rd n 0 4 (dep + 1) _ _ h1 (by decide) false ((true, c) :: st) (by simp [hst])).1 rfl rfl
                exact hps _ this
              · have := (fl_rd n 0 4 (dep + 1) _ _ h1 (by decide) false ((true, c) :: st) (by simp [hst])).1 rfl rfl
                cases h2
                exact fun Z hz => hps _ (this Z hz)
            · rw [if_neg h15] at h
              cases h
              exact fun Z hz => Fl.val hpt (by omega) (by rw [Bool.not_eq_true] at h40 h15; rw [h40, h15]; rfl) hz
      · rw [if_neg hpt] at h
        cases h
        exact Fl.bad (by rwa [Bool.not_eq_true] at hpt)
    · subst hm
      simp only [rdL] at h
      rw [if_pos trivial, if_pos hl4] at h
      rcases obd_r h with ⟨e, h1, rfl⟩ | ⟨r1, h1, h2⟩
      · by_cases h3 : lvl = 3
        · exact (fl_rd n 0 (lvl + 1) dep _ _ h1 (by omega) c st hst).1 rfl (by omega)
        · exact (fl_rd n 0 (lvl + 1) dep _ _ h1 (by omega) c st hst).2.1 rfl (by omega) hok (fun e => hc (by omega))
      · have key : ∃ c2, FPr t lvl r1.1 c2 ∧ (2 ≤ lvl → c2 = c) ∧ ∀ Z, Fl t false r1.1 c2 st r1.2.2.2 Z → Fl t true r.1 c st r.2.2.2 Z := by
          by_cases h3 : lvl = 3
          · have q := (fl_rd n 0 (lvl + 1) dep _ _ h1 (by omega) c st hst).1 rfl (by omega)
            refine ⟨c, ⟨fun e => by omega, fun e => by omega, fun e => by omega, fun e => by omega⟩, fun _ => rfl, fun Z hz => q Z ?_⟩
            rw [hok c]
            exact hz
          · obtain ⟨c2, ⟨b1, b2, b3, b4, b5⟩, q2⟩ := (fl_rd n 0 (lvl + 1) dep _ _ h1 (by omega) c st hst).2.1 rfl (by omega) hok (fun e => hc (by omega))
            exact ⟨c2, ⟨fun e => (b1 (by omega)).trans (hc (by omega)), fun _ => b2, fun e => b3 (by omega), fun e => b4 (by omega)⟩, fun e => b1 (by omega), q2⟩
        obtain ⟨c2, k1, k2, k3⟩ := key
        have q := (fl_rd n 1 lvl dep _ _ h2 hl c2 st hst).2.2 (by decide) hl4 hok k1
        cases z with
        | inl f => exact k3 _ q
        | inr r2 =>
          obtain ⟨c3, ⟨b1, b2⟩, q3⟩ := q
          exact ⟨c3, ⟨fun e => (b1 e).trans (k2 e), b2⟩, fun Z hz => k3 _ (q3 Z hz)⟩
    · simp only [rdL] at h
      rw [if_neg hm] at h
      by_cases hj : jc lvl t r.1 = 0
      · rw [if_pos hj] at h
        cases h
        obtain ⟨a1, a2, a3, a4⟩ := hp
        refine ⟨c, ⟨fun _ => rfl, ?_, fun e => ?_, fun e e1 => ?_, fun e => ?_⟩, fun Z hz => hz⟩
        · by_cases h3 : lvl = 3
          · rw [h3] at hj; exact hj
          · exact a2 (by omega)
        · by_cases h3 : lvl = 2
          · rw [h3] at hj; exact hj
          · exact a3 (by omega)
        · by_cases h3 : lvl = 1
          · rw [h3] at hj; exact absurd hj e1
          · exact a4 (by omega) e1
        · rw [e] at hj; exact hj
      · rw [if_neg hj] at h
        have hop : ∀ Z, Fl t true (tN t r.1) (if lvl = 1 then true else if lvl = 0 then false else c) st (r.2.2.2 ++ [fj (jc lvl t r.1)]) Z → Fl t false r.1 c st r.2.2.2 Z := fun Z hz => Fl.opl (by omega) hp hj hz
        have hc1 : lvl + 1 ≤ 1 → (if lvl = 1 then true else if lvl = 0 then false else c) = false := fun e => by rw [if_neg (by omega), if_pos (by omega)]
        have hc2 : 2 ≤ lvl → (if lvl = 1 then true else if lvl = 0 then false else c) = c := fun e => by rw [if_neg (by omega), if_neg (by omega)]
        have hc3 : lvl = 1 → (if lvl = 1 then true else if lvl = 0 then false else c) = true := fun e => by rw [if_pos e]
        generalize (if lvl = 1 then true else if lvl = 0 then false else c) = c1 at hop hc1 hc2 hc3
        rcases obd_r h with ⟨e, h1, rfl⟩ | ⟨r1, h1, h2⟩
        · by_cases h3 : lvl = 3
          · exact hop _ ((fl_rd n 0 (lvl + 1) dep _ _ h1 (by omega) c1 st hst).1 rfl (by omega))
          · exact hop _ ((fl_rd n 0 (lvl + 1) dep _ _ h1 (by omega) c1 st hst).2.1 rfl (by omega) hok hc1)
        · have key : ∃ c2, (2 ≤ lvl + 1 → c2 = c1) ∧ (lvl ≤ 2 → FPo t (lvl + 1) r1.1 c1 c2) ∧ ∀ Z, Fl t false r1.1 c2 st r1.2.2.2 Z → Fl t false r.1 c st r.2.2.2 Z := by
            by_cases h3 : lvl = 3
            · have q := (fl_rd n 0 (lvl + 1) dep _ _ h1 (by omega) c1 st hst).1 rfl (by omega)
              refine ⟨c1, fun _ => rfl, fun e => by omega, fun Z hz => hop _ (q Z ?_)⟩
              rw [hok c1]
              exact hz
            · obtain ⟨c2, b, q2⟩ := (fl_rd n 0 (lvl + 1) dep _ _ h1 (by omega) c1 st hst).2.1 rfl (by omega) hok hc1
              exact ⟨c2, b.1, fun _ => b, fun Z hz => hop _ (q2 Z hz)⟩
          obtain ⟨c2, k1, k2, k3⟩ := key
          by_cases hl1 : lvl = 1
          · rw [if_pos hl1] at h2
            cases h2
            subst hl1
            obtain ⟨b1, b2, b3, b4, b5⟩ := k2 (by decide)
            exact ⟨c2, ⟨fun e => by omega, b2, fun _ => b3 (by decide), fun _ _ => (k1 (by decide)).trans (hc3 rfl), fun e => by omega⟩, k3⟩
          · rw [if_neg hl1] at h2
            have hp2 : FPr t lvl r1.1 c2 := ⟨fun e => absurd e hl1, fun e => (k2 e).2.1, fun e => (k2 (by omega)).2.2.1 (by omega), fun e => (k2 (by omega)).2.2.2.1 (by omega)⟩
            have q := (fl_rd n 1 lvl dep _ _ h2 hl c2 st hst).2.2 (by decide) hl4 hok hp2
            cases z with
            | inl f => exact k3 _ q
            | inr r2 =>
              obtain ⟨c3, ⟨b1, b2⟩, q3⟩ := q
              exact ⟨c3, ⟨fun e => ((b1 e).trans (k1 (by omega))).trans (hc2 e), b2⟩, fun Z hz => k3 _ (q3 Z hz)⟩
def rdZ (t : TP) (z : Nat ⊕ RA) : Nat ⊕ (Nat × List Int32) := bnd z (fun r => bnd (pSign t r.1 59) (fun p2 => .inr (p2, r.2.2.2)))
theorem fl_z {t : TP} {n p : Nat} {z : Nat ⊕ RA} (h : rdL t n 0 0 0 (p, dfl, [], []) = some z) : Fl t true p false [] [] (rdZ t z) := by
  have q := (fl_rd n 0 0 0 _ z h (by decide) false [] rfl).2.1 rfl (by decide) (fun _ => rfl) (fun _ => rfl)
  cases z with
  | inl f => exact q
  | inr r =>
    obtain ⟨c2, ⟨b1, b2, b3, b4, b5⟩, q2⟩ := q
    apply q2
    show Fl t false r.1 c2 [] r.2.2.2 (bnd (pSign t r.1 59) _)
    simp only [pSign]
    by_cases e : isSg t r.1 59 = true
    · rw [if_pos e]
      exact Fl.en (b3 (by decide)) b2 (b4 (by decide)) (b5 rfl) e
    · rw [if_neg e]
      exact Fl.no (b3 (by decide)) b2 (b4 (by decide)) (b5 rfl) (fun _ => rfl) (fun _ => by rwa [Bool.not_eq_true] at e)
