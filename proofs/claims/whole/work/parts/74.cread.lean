/-! WHOLE LANDS READ; by the class -/
def stL (t : TP) (p : Nat) (B : LB) : Nat ⊕ (Nat × LB) := if isWd t p 1 = true then sStreet t p B else if isWd t p 3 = true then sPair t p B true else if isWd t p 4 = true then sPerson t p B else if isWd t p 11 = true then sPair t p B false else if isWd t p 12 = true then sSoon t p B else if isWd t p 13 = true then sSnap t p B else if isWd t p 14 = true then sWinds t p B else .inl (1 + 16 * p)
def oneL (t : TP) (p : Nat) (B : LB) : Nat ⊕ (Nat × LB) := bnd (stL t p B) (fun q => bnd (pSign t q.1 59) (fun p2 => .inr (p2, q.2)))
def ldL (t : TP) : Nat → Nat → LB → Nat ⊕ LB
  | 0, _, B => .inr B
  | n + 1, p, B => if tK t p = 0 then .inr B else bnd (oneL t p B) (fun q => ldL t n q.1 q.2)
def faV {α : Type} (r : Nat ⊕ α) : Int32 := match r with
  | .inl f => nI f
  | .inr _ => 0
/-- what the law's codes tell -/
def lwB (B : LB) : Prop := (bC B = [] ∧ bD B = [] ∧ ∀ gg tt mm ww, bW B gg tt mm ww = 30 - gg) ∨ ∃ (t : TP) (n p : Nat) (r : RA), p ≤ t.1 ∧ t.1 ≤ 1000 ∧ rdL t n 0 0 0 (p, dfl, [], []) = some (.inr r) ∧ bC B = r.2.2.1 ∧ bD B = r.2.2.2 ∧ bW B = r.2.1
def wfBB (B : LB) : Prop := wfB B ∧ lwB B
theorem lwB.len {B : LB} (h : lwB B) : (bC B).length ≤ 1000 := by
  rcases h with ⟨h, _⟩ | ⟨t, n, p, r, h1, h2, h3, h4, _⟩
  · rw [h]; exact Nat.zero_le _
  · obtain ⟨_, a2, a3, a4⟩ := rdL_go n 0 0 0 _ r h1 h3
    rw [h4]
    simp only [List.length_nil] at a4
    omega
theorem beg_wf : wfBB begB := by
  refine ⟨⟨by decide, by decide, fun i hi => absurd hi (by show ¬ i < 0; omega), fun i hi => absurd hi (by show ¬ i < 0; omega), fun h => absurd h (by decide), ⟨60, by decide, rfl⟩, fun i hi => absurd hi (by show ¬ i < 0; omega), fun i hi => absurd hi (by show ¬ i < 0; omega), fun a c ha => absurd ha (by show ¬ a < 0; omega), fun _ _ => false, fun i hi => absurd hi (by show ¬ i < 0; omega)⟩, Or.inl ⟨rfl, rfl, fun _ _ _ _ => rfl⟩⟩
theorem tN_mo {t : TP} {p : Nat} (h : p ≤ t.1) : p ≤ tN t p ∧ tN t p ≤ t.1 := by
  have h1 := tE_le h
  have h2 := tN_le h
  omega
/-- a fault told at a place -/
def fOk (t : TP) (f : Nat) : Prop := 1 ≤ f ∧ f ≤ 5 + 16 * t.1
theorem fOk.m {t : TP} {k p : Nat} (hk : 1 ≤ k ∧ k ≤ 5) (hp : p ≤ t.1) : fOk t (k + 16 * p) := ⟨by omega, by omega⟩
theorem newN_f {t : TP} {p f : Nat} {B : LB} (hp : p ≤ t.1) (h : newN t p B = .inl f) : fOk t f := by
  unfold newN at h
  split at h
  · split at h
    · cases h; exact fOk.m (by decide) hp
    · cases h
  · cases h; exact fOk.m (by decide) hp
theorem numH_f {t : TP} {p f : Nat} {r : Option Nat} (hp : p ≤ t.1) (h : numH t p r = .inl f) : fOk t f := by
  unfold numH at h
  split at h
  · cases r with
    | none => cases h; exact fOk.m (by decide) hp
    | some j => cases h
  · cases h; exact fOk.m (by decide) hp
theorem pWord_f {t : TP} {p n f : Nat} (hp : p ≤ t.1) (h : pWord t p n = .inl f) : fOk t f := by
  unfold pWord at h
  split at h
  · cases h
  · cases h; exact fOk.m (by decide) hp
theorem pSign_f {t : TP} {p n f : Nat} (hp : p ≤ t.1) (h : pSign t p n = .inl f) : fOk t f := by
  unfold pSign at h
  split at h
  · cases h
  · cases h; exact fOk.m (by decide) hp
theorem pNum_f {t : TP} {p lo hi f : Nat} (hp : p ≤ t.1) (h : pNum t p lo hi = .inl f) : fOk t f := by
  unfold pNum at h
  split at h
  · split at h
    · cases h
    · cases h; exact fOk.m (by decide) hp
  · cases h; exact fOk.m (by decide) hp
theorem bnd_l {α β : Type} {r : Nat ⊕ α} {f : α → Nat ⊕ β} {e : Nat} (h : bnd r f = .inl e) : r = .inl e ∨ ∃ a, r = .inr a ∧ f a = .inl e := by
  cases r with
  | inl e2 => cases h; exact Or.inl rfl
  | inr a => exact Or.inr ⟨a, rfl, h⟩
theorem rdL_f {t : TP} : ∀ (n m lvl dep : Nat) (r : RA) (f : Nat), r.1 ≤ t.1 → rdL t n m lvl dep r = some (.inl f) → fOk t f
  | 0, _, _, _, _, _, _, h => by cases h
  | n + 1, m, lvl, dep, r, f, hp, h => by
    have hn2 := (tN_mo (t := t) (p := r.1) hp).2
    unfold rdL at h
    split at h
    · split at h
      · rcases obd_r h with ⟨e, h1, h2⟩ | ⟨r1, h1, h2⟩
        · cases h2; exact rdL_f n 0 (lvl + 1) dep r f hp h1
        · exact rdL_f n 1 lvl dep r1 f (rdL_go n 0 (lvl + 1) dep r r1 hp h1).2.2.1 h2
      · split at h
        · split at h
          · cases h; exact fOk.m (by decide) hp
          · split at h
            · rcases obd_r h with ⟨e, h1, h2⟩ | ⟨r1, h1, h2⟩
              · cases h2; exact rdL_f n 0 0 (dep + 1) _ f hn2 h1
              · split at h2
                · cases h2
                · cases h2; exact fOk.m (by decide) (rdL_go n 0 0 (dep + 1) _ r1 hn2 h1).2.2.1
            · split at h
              · rcases obd_r h with ⟨e, h1, h2⟩ | ⟨r1, h1, h2⟩
                · cases h2; exact rdL_f n 0 4 (dep + 1) _ f hn2 h1
                · cases h2
              · cases h
        · cases h; exact fOk.m (by decide) hp
    · split at h
      · cases h
      · rcases obd_r h with ⟨e, h1, h2⟩ | ⟨r1, h1, h2⟩
        · cases h2; exact rdL_f n 0 (lvl + 1) dep _ f hn2 h1
        · have h3 := (rdL_go n 0 (lvl + 1) dep _ r1 hn2 h1).2.2.1
          split at h2
          · cases h2
          · exact rdL_f n 1 lvl dep (r1.1, joD (jc lvl t r.1) r.2.1 r1.2.1, r1.2.2.1 ++ [jc lvl t r.1], r1.2.2.2) f h3 h2
theorem stL_f {t : TP} {p f : Nat} {B : LB} (hp : p ≤ t.1) (h : stL t p B = .inl f) : fOk t f := by
  have h1 := (tN_mo (t := t) (p := p) hp).2
  have h2 := (tN_mo (t := t) (p := tN t p) h1).2
  have pair : ∀ ss, sPair t p B ss = .inl f → fOk t f := by
    intro ss h
    unfold sPair at h
    rcases bnd_l h with h | ⟨a, _, h⟩
    · exact numH_f h1 h
    · rcases bnd_l h with h | ⟨c, _, h⟩
      · exact numH_f h2 h
      · split at h
        · cases h; exact fOk.m (by decide) h2
        · cases h
  unfold stL at h
  split at h
  · unfold sStreet at h
    split at h
    · cases h; exact fOk.m (by decide) hp
    · rcases bnd_l h with h | ⟨a, _, h⟩
      · exact newN_f h1 h
      · cases h
  · split at h
    · exact pair true h
    · split at h
      · unfold sPerson at h
        split at h
        · cases h; exact fOk.m (by decide) hp
        · rcases bnd_l h with h | ⟨p1, e1, h⟩
          · exact newN_f h1 h
          · obtain ⟨rfl, _⟩ := newN_r e1
            have h3 := (tN_mo (t := t) (p := tN t (tN t p)) h2).2
            split at h
            · cases h; exact fOk.m (by decide) h2
            · rcases bnd_l h with h | ⟨p4, e4, h⟩
              · exact pWord_f h3 h
              · obtain ⟨rfl, _⟩ := pWord_r e4
                have h4 := (tN_mo (t := t) h3).2
                rcases bnd_l h with h | ⟨a, _, h⟩
                · exact numH_f h4 h
                · have h5 := (tN_mo (t := t) h4).2
                  rcases bnd_l h with h | ⟨p6, e6, h⟩
                  · exact pWord_f h5 h
                  · obtain ⟨rfl, _⟩ := pWord_r e6
                    have h6 := (tN_mo (t := t) h5).2
                    rcases bnd_l h with h | ⟨p7, _, h⟩
                    · exact pNum_f h6 h
                    · cases h
      · split at h
        · exact pair false h
        · split at h
          · unfold sSoon at h
            split at h
            · cases h; exact fOk.m (by decide) hp
            · rcases bnd_l h with h | ⟨a, _, h⟩
              · exact pNum_f h1 h
              · cases h
          · split at h
            · unfold sSnap at h
              split at h
              · cases h; exact fOk.m (by decide) hp
              · rcases bnd_l h with h | ⟨a, _, h⟩
                · exact pNum_f h1 h
                · cases h
            · split at h
              · by_cases hb : bC B = []
                · obtain ⟨z, hz, z1, z2⟩ := sWinds_c (B := B) (p := p) hb hp
                  cases z with
                  | inl f2 =>
                    rw [z1 f2 rfl] at h
                    cases h
                    exact rdL_f _ 0 0 0 _ f h1 hz
                  | inr r => rw [z2 r rfl] at h; cases h
                · unfold sWinds at h
                  rw [if_neg hb] at h
                  cases h; exact fOk.m (by decide) hp
              · cases h; exact fOk.m (by decide) hp
theorem stL_go {t : TP} {p p2 : Nat} {B B2 : LB} (hp : p ≤ t.1) (h : stL t p B = .inr (p2, B2)) : p ≤ p2 ∧ p2 ≤ t.1 := by
  have h1 := tN_mo (t := t) (p := p) hp
  have h2 := tN_mo (t := t) (p := tN t p) h1.2
  have h3 := tN_mo (t := t) (p := tN t (tN t p)) h2.2
  have pair : ∀ ss, sPair t p B ss = .inr (p2, B2) → p ≤ p2 ∧ p2 ≤ t.1 := by
    intro ss h
    unfold sPair at h
    obtain ⟨a, _, h⟩ := bnd_r h
    obtain ⟨c, _, h⟩ := bnd_r h
    split at h
    · cases h
    · cases h; omega
  unfold stL at h
  split at h
  · unfold sStreet at h
    split at h
    · cases h
    · obtain ⟨p1, e1, h⟩ := bnd_r h
      obtain ⟨rfl, _⟩ := newN_r e1
      cases h; omega
  · split at h
    · exact pair true h
    · split at h
      · unfold sPerson at h
        split at h
        · cases h
        · obtain ⟨p1, e1, h⟩ := bnd_r h
          obtain ⟨rfl, _⟩ := newN_r e1
          split at h
          · cases h
          · obtain ⟨p4, e4, h⟩ := bnd_r h
            obtain ⟨rfl, _⟩ := pWord_r e4
            obtain ⟨a, _, h⟩ := bnd_r h
            obtain ⟨p6, e6, h⟩ := bnd_r h
            obtain ⟨rfl, _⟩ := pWord_r e6
            obtain ⟨p7, e7, h⟩ := bnd_r h
            obtain ⟨rfl, _⟩ := pNum_r e7
            cases h
            have h4 := tN_mo (t := t) h3.2
            have h5 := tN_mo (t := t) h4.2
            have h6 := tN_mo (t := t) h5.2
            have h7 := tN_mo (t := t) h6.2
            omega
      · split at h
        · exact pair false h
        · split at h
          · unfold sSoon at h
            split at h
            · cases h
            · obtain ⟨p1, e1, h⟩ := bnd_r h
              obtain ⟨rfl, _⟩ := pNum_r e1
              cases h; omega
          · split at h
            · unfold sSnap at h
              split at h
              · cases h
              · obtain ⟨p1, e1, h⟩ := bnd_r h
                obtain ⟨rfl, _⟩ := pNum_r e1
                cases h; omega
            · split at h
              · by_cases hb : bC B = []
                · obtain ⟨z, hz, z1, z2⟩ := sWinds_c (B := B) (p := p) hb hp
                  cases z with
                  | inl f2 => rw [z1 f2 rfl] at h; cases h
                  | inr r =>
                    rw [z2 r rfl] at h
                    cases h
                    have := rdL_go _ 0 0 0 _ r h1.2 hz
                    simp only at this
                    omega
                · unfold sWinds at h
                  rw [if_neg hb] at h
                  cases h
              · cases h
theorem stL_wf {t : TP} {p p2 : Nat} {B B2 : LB} (ht : t.1 ≤ 1000) (hp : p ≤ t.1) (hw : wfBB B) (h : stL t p B = .inr (p2, B2)) : wfBB B2 := by
  have lw : ∀ {B3 : LB}, B3.2.2.2.2 = B.2.2.2.2 → lwB B3 := by
    intro B3 e
    have h2 := hw.2
    unfold lwB at h2 ⊢
    rw [show bC B3 = bC B from congrArg (·.1) e, show bD B3 = bD B from congrArg (·.2.1) e, show bW B3 = bW B from congrArg (·.2.2) e]
    exact h2
  have pair : ∀ ss, sPair t p B ss = .inr (p2, B2) → wfBB B2 := by
    intro ss h
    refine ⟨wf_pair hw.1 h, lw ?_⟩
    unfold sPair at h
    obtain ⟨a, _, h⟩ := bnd_r h
    obtain ⟨c, _, h⟩ := bnd_r h
    split at h
    · cases h
    · cases h; rfl
  unfold stL at h
  split at h
  · refine ⟨wf_street hw.1 h, lw ?_⟩
    unfold sStreet at h
    split at h
    · cases h
    · obtain ⟨p1, e1, h⟩ := bnd_r h
      cases h; rfl
  · split at h
    · exact pair true h
    · split at h
      · refine ⟨wf_person hw.1 h, lw ?_⟩
        unfold sPerson at h
        split at h
        · cases h
        · obtain ⟨p1, e1, h⟩ := bnd_r h
          split at h
          · cases h
          · obtain ⟨p4, e4, h⟩ := bnd_r h
            obtain ⟨a, _, h⟩ := bnd_r h
            obtain ⟨p6, e6, h⟩ := bnd_r h
            obtain ⟨p7, e7, h⟩ := bnd_r h
            cases h; rfl
      · split at h
        · exact pair false h
        · split at h
          · refine ⟨wf_soon hw.1 h, lw ?_⟩
            unfold sSoon at h
            split at h
            · cases h
            · obtain ⟨p1, e1, h⟩ := bnd_r h
              cases h; rfl
          · split at h
            · refine ⟨wf_snap hw.1 h, lw ?_⟩
              unfold sSnap at h
              split at h
              · cases h
              · obtain ⟨p1, e1, h⟩ := bnd_r h
                cases h; rfl
            · split at h
              · refine ⟨wf_winds hw.1 h, ?_⟩
                by_cases hb : bC B = []
                · obtain ⟨z, hz, z1, z2⟩ := sWinds_c (B := B) (p := p) hb hp
                  cases z with
                  | inl f2 => rw [z1 f2 rfl] at h; cases h
                  | inr r =>
                    rw [z2 r rfl] at h
                    cases h
                    exact Or.inr ⟨t, _, tN t p, r, (tN_mo hp).2, ht, hz, rfl, rfl, rfl⟩
                · unfold sWinds at h
                  rw [if_neg hb] at h
                  cases h
              · cases h
theorem oneL_go {t : TP} {p : Nat} {B : LB} {q : Nat × LB} (ht : t.1 ≤ 1000) (hp : p ≤ t.1) (hw : wfBB B) (h : oneL t p B = .inr q) : p < q.1 ∧ q.1 ≤ t.1 ∧ wfBB q.2 := by
  unfold oneL at h
  obtain ⟨q1, h1, h⟩ := bnd_r h
  obtain ⟨p3, h2, h⟩ := bnd_r h
  cases h
  have g1 := stL_go hp h1
  have g2 := stL_wf ht hp hw h1
  unfold pSign at h2
  split at h2
  · rename_i hs
    cases h2
    have := tN_lt (isSg_lt hs)
    exact ⟨by show p < tN t q1.1; omega, (tN_mo g1.2).2, g2⟩
  · cases h2
theorem ldL_f {t : TP} (ht : t.1 ≤ 1000) : ∀ (n p : Nat) (B : LB) (f : Nat), p ≤ t.1 → wfBB B → ldL t n p B = .inl f → fOk t f
  | 0, _, _, _, _, _, h => by cases h
  | n + 1, p, B, f, hp, hw, h => by
    unfold ldL at h
    split at h
    · cases h
    · rcases bnd_l h with h | ⟨q, h1, h⟩
      · unfold oneL at h
        rcases bnd_l h with h | ⟨q1, h2, h⟩
        · exact stL_f hp h
        · rcases bnd_l h with h | ⟨p3, _, h⟩
          · exact pSign_f (stL_go hp h2).2 h
          · cases h
      · obtain ⟨g1, g2, g3⟩ := oneL_go ht hp hw h1
        exact ldL_f ht n q.1 q.2 f g2 g3 h
theorem ldL_wf {t : TP} (ht : t.1 ≤ 1000) : ∀ (n p : Nat) (B B2 : LB), p ≤ t.1 → wfBB B → ldL t n p B = .inr B2 → wfBB B2
  | 0, _, _, _, _, hw, h => by cases h; exact hw
  | n + 1, p, B, B2, hp, hw, h => by
    unfold ldL at h
    split at h
    · cases h; exact hw
    · obtain ⟨q, h1, h⟩ := bnd_r h
      obtain ⟨g1, g2, g3⟩ := oneL_go ht hp hw h1
      exact ldL_wf ht n q.1 q.2 B2 g2 g3 h
section T6
variable {E : EV} {d x p l n : Nat} {F : FT} {G : GT} {b : Bool} {t : TP} {B : LB} {u v w : Int32}
theorem c_stL (hl : l < 2) (hd : 80 ≤ d) (h : CRd F G t p) (hB : CLb F G l B) (hw : wfBB B) (hp : p ≤ t.1) : Td E d 28 0 [some (vr 7 0), some (vr 9 l)] [] x F G b (some (vi (b2i (okB (stL t p B))))) (COb t l F G (stL t p B)) := by
  refine d_run 1 rfl ?_
  refine d_gR k28_1 (by first | assumption | exact Nat.le_of_ble_eq_true rfl | omega) ⟨rfl, rfl, rfl⟩ rfl ?_
  refine d_run 1 rfl ?_
  refine d_callT 2 k28_6 (by omega) (Nat.le_of_ble_eq_true rfl) rfl (Nat.le_of_ble_eq_true rfl) (Nat.le_of_ble_eq_true rfl) (recv_ok rfl (by first | assumption | exact Nat.le_of_ble_eq_true rfl | omega)) rfl (c_isWd (n := 1) (by decide) (by decide) (by decide) (by omega) h) rfl ?_
  refine d_if_eq k28_9 (fun h9 => ?_) (fun h9 => ?_)
  · rw [b2i0] at h9
    refine d_run 1 rfl ?_
    refine d_gR k28_19 (by first | assumption | exact Nat.le_of_ble_eq_true rfl | omega) ⟨rfl, rfl, rfl⟩ rfl ?_
    refine d_run 1 rfl ?_
    refine d_callT 2 k28_24 (by omega) (Nat.le_of_ble_eq_true rfl) rfl (Nat.le_of_ble_eq_true rfl) (Nat.le_of_ble_eq_true rfl) (recv_ok rfl (by first | assumption | exact Nat.le_of_ble_eq_true rfl | omega)) rfl (c_isWd (n := 3) (by decide) (by decide) (by decide) (by omega) h) rfl ?_
    refine d_if_eq k28_27 (fun h27 => ?_) (fun h27 => ?_)
    · rw [b2i0] at h27
      refine d_run 1 rfl ?_
      refine d_gR k28_38 (by first | assumption | exact Nat.le_of_ble_eq_true rfl | omega) ⟨rfl, rfl, rfl⟩ rfl ?_
      refine d_run 1 rfl ?_
      refine d_callT 2 k28_43 (by omega) (Nat.le_of_ble_eq_true rfl) rfl (Nat.le_of_ble_eq_true rfl) (Nat.le_of_ble_eq_true rfl) (recv_ok rfl (by first | assumption | exact Nat.le_of_ble_eq_true rfl | omega)) rfl (c_isWd (n := 4) (by decide) (by decide) (by decide) (by omega) h) rfl ?_
      refine d_if_eq k28_46 (fun h46 => ?_) (fun h46 => ?_)
      · rw [b2i0] at h46
        refine d_run 1 rfl ?_
        refine d_gR k28_56 (by first | assumption | exact Nat.le_of_ble_eq_true rfl | omega) ⟨rfl, rfl, rfl⟩ rfl ?_
        refine d_run 1 rfl ?_
        refine d_callT 2 k28_61 (by omega) (Nat.le_of_ble_eq_true rfl) rfl (Nat.le_of_ble_eq_true rfl) (Nat.le_of_ble_eq_true rfl) (recv_ok rfl (by first | assumption | exact Nat.le_of_ble_eq_true rfl | omega)) rfl (c_isWd (n := 11) (by decide) (by decide) (by decide) (by omega) h) rfl ?_
        refine d_if_eq k28_64 (fun h64 => ?_) (fun h64 => ?_)
        · rw [b2i0] at h64
          refine d_run 1 rfl ?_
          refine d_gR k28_75 (by first | assumption | exact Nat.le_of_ble_eq_true rfl | omega) ⟨rfl, rfl, rfl⟩ rfl ?_
          refine d_run 1 rfl ?_
          refine d_callT 2 k28_80 (by omega) (Nat.le_of_ble_eq_true rfl) rfl (Nat.le_of_ble_eq_true rfl) (Nat.le_of_ble_eq_true rfl) (recv_ok rfl (by first | assumption | exact Nat.le_of_ble_eq_true rfl | omega)) rfl (c_isWd (n := 12) (by decide) (by decide) (by decide) (by omega) h) rfl ?_
          refine d_if_eq k28_83 (fun h83 => ?_) (fun h83 => ?_)
          · rw [b2i0] at h83
            refine d_run 1 rfl ?_
            refine d_gR k28_93 (by first | assumption | exact Nat.le_of_ble_eq_true rfl | omega) ⟨rfl, rfl, rfl⟩ rfl ?_
            refine d_run 1 rfl ?_
            refine d_callT 2 k28_98 (by omega) (Nat.le_of_ble_eq_true rfl) rfl (Nat.le_of_ble_eq_true rfl) (Nat.le_of_ble_eq_true rfl) (recv_ok rfl (by first | assumption | exact Nat.le_of_ble_eq_true rfl | omega)) rfl (c_isWd (n := 13) (by decide) (by decide) (by decide) (by omega) h) rfl ?_
            refine d_if_eq k28_101 (fun h101 => ?_) (fun h101 => ?_)
            · rw [b2i0] at h101
              refine d_run 1 rfl ?_
              refine d_gR k28_111 (by first | assumption | exact Nat.le_of_ble_eq_true rfl | omega) ⟨rfl, rfl, rfl⟩ rfl ?_
              refine d_run 1 rfl ?_
              refine d_callT 2 k28_116 (by omega) (Nat.le_of_ble_eq_true rfl) rfl (Nat.le_of_ble_eq_true rfl) (Nat.le_of_ble_eq_true rfl) (recv_ok rfl (by first | assumption | exact Nat.le_of_ble_eq_true rfl | omega)) rfl (c_isWd (n := 14) (by decide) (by decide) (by decide) (by omega) h) rfl ?_
              refine d_if_eq k28_119 (fun h119 => ?_) (fun h119 => ?_)
              · rw [b2i0] at h119
                rw [show stL t p B = .inl (1 + 16 * p) by simp only [stL]; rw [if_neg (by rw [h9]; decide), if_neg (by rw [h27]; decide), if_neg (by rw [h46]; decide), if_neg (by rw [h64]; decide), if_neg (by rw [h83]; decide), if_neg (by rw [h101]; decide), if_neg (by rw [h119]; decide)]]
                refine d_run 1 rfl ?_
                refine d_gR k28_134 (by first | assumption | exact Nat.le_of_ble_eq_true rfl | omega) ⟨rfl, rfl, rfl⟩ rfl ?_
                refine d_run 1 rfl ?_
                refine d_callT 2 k28_138 (by omega) (Nat.le_of_ble_eq_true rfl) rfl (Nat.le_of_ble_eq_true rfl) (Nat.le_of_ble_eq_true rfl) (recv_ok rfl (by first | assumption | exact Nat.le_of_ble_eq_true rfl | omega)) rfl (c_refuse (c := 1) h) rfl ?_
                refine d_ib k28_141 (by rfl) ?_
                first | exact q1 | exact ⟨by rw [uF_r, pk_us], D5.fr (D5.rf.ft (CFt.of (f := 1 + 16 * p) CNx.rf))⟩
              · rw [b2i0, Bool.not_eq_false] at h119
                rw [show stL t p B = sWinds t p B by simp only [stL]; rw [if_neg (by rw [h9]; decide), if_neg (by rw [h27]; decide), if_neg (by rw [h46]; decide), if_neg (by rw [h64]; decide), if_neg (by rw [h83]; decide), if_neg (by rw [h101]; decide), if_pos h119]]
                refine d_run 1 rfl ?_
                refine d_gR k28_123 (by first | assumption | exact Nat.le_of_ble_eq_true rfl | omega) ⟨rfl, rfl, rfl⟩ rfl ?_
                refine d_run 1 rfl ?_
                refine d_call 2 k28_127 (by omega) (Nat.le_of_ble_eq_true rfl) rfl (Nat.le_of_ble_eq_true rfl) (Nat.le_of_ble_eq_true rfl) (recv_ok rfl (by first | assumption | exact Nat.le_of_ble_eq_true rfl | omega)) rfl (c_winds hl (by omega) h hB hw.2.len hp) rfl ?_
                intro F1 G1 q1
                refine d_run 1 rfl ?_
                refine d_ib k28_141 (by rfl) ?_
                first | exact q1 | exact ⟨by rw [uF_r, pk_us], D5.fr (D5.rf.ft (CFt.of (f := 1 + 16 * p) CNx.rf))⟩
            · rw [b2i0, Bool.not_eq_false] at h101
              rw [show stL t p B = sSnap t p B by simp only [stL]; rw [if_neg (by rw [h9]; decide), if_neg (by rw [h27]; decide), if_neg (by rw [h46]; decide), if_neg (by rw [h64]; decide), if_neg (by rw [h83]; decide), if_pos h101]]
              refine d_run 2 rfl ?_
              refine d_call 2 k28_106 (by omega) (Nat.le_of_ble_eq_true rfl) rfl (Nat.le_of_ble_eq_true rfl) (Nat.le_of_ble_eq_true rfl) (recv_ok rfl (by first | assumption | exact Nat.le_of_ble_eq_true rfl | omega)) rfl (c_snap hl (by omega) h hB) rfl ?_
              intro F1 G1 q1
              refine d_ib k28_109 (by rfl) ?_
              exact q1
          · rw [b2i0, Bool.not_eq_false] at h83
            rw [show stL t p B = sSoon t p B by simp only [stL]; rw [if_neg (by rw [h9]; decide), if_neg (by rw [h27]; decide), if_neg (by rw [h46]; decide), if_neg (by rw [h64]; decide), if_pos h83]]
            refine d_run 2 rfl ?_
            refine d_call 2 k28_88 (by omega) (Nat.le_of_ble_eq_true rfl) rfl (Nat.le_of_ble_eq_true rfl) (Nat.le_of_ble_eq_true rfl) (recv_ok rfl (by first | assumption | exact Nat.le_of_ble_eq_true rfl | omega)) rfl (c_soon hl (by omega) h hB) rfl ?_
            intro F1 G1 q1
            refine d_ib k28_91 (by rfl) ?_
            exact q1
        · rw [b2i0, Bool.not_eq_false] at h64
          rw [show stL t p B = sPair t p B false by simp only [stL]; rw [if_neg (by rw [h9]; decide), if_neg (by rw [h27]; decide), if_neg (by rw [h46]; decide), if_pos h64]]
          refine d_run 3 rfl ?_
          refine d_call 3 k28_70 (by omega) (Nat.le_of_ble_eq_true rfl) rfl (Nat.le_of_ble_eq_true rfl) (Nat.le_of_ble_eq_true rfl) (recv_ok rfl (by first | assumption | exact Nat.le_of_ble_eq_true rfl | omega)) rfl (c_pairP hl (by omega) h hB hw.1) rfl ?_
          intro F1 G1 q1
          refine d_ib k28_73 (by rfl) ?_
          exact q1
      · rw [b2i0, Bool.not_eq_false] at h46
        rw [show stL t p B = sPerson t p B by simp only [stL]; rw [if_neg (by rw [h9]; decide), if_neg (by rw [h27]; decide), if_pos h46]]
        refine d_run 2 rfl ?_
        refine d_call 2 k28_51 (by omega) (Nat.le_of_ble_eq_true rfl) rfl (Nat.le_of_ble_eq_true rfl) (Nat.le_of_ble_eq_true rfl) (recv_ok rfl (by first | assumption | exact Nat.le_of_ble_eq_true rfl | omega)) rfl (c_person hl (by omega) h hB hw.1) rfl ?_
        intro F1 G1 q1
        refine d_ib k28_54 (by rfl) ?_
        exact q1
    · rw [b2i0, Bool.not_eq_false] at h27
      rw [show stL t p B = sPair t p B true by simp only [stL]; rw [if_neg (by rw [h9]; decide), if_pos h27]]
      refine d_run 3 rfl ?_
      refine d_call 3 k28_33 (by omega) (Nat.le_of_ble_eq_true rfl) rfl (Nat.le_of_ble_eq_true rfl) (Nat.le_of_ble_eq_true rfl) (recv_ok rfl (by first | assumption | exact Nat.le_of_ble_eq_true rfl | omega)) rfl (c_pairS hl (by omega) h hB hw.1) rfl ?_
      intro F1 G1 q1
      refine d_ib k28_36 (by rfl) ?_
      exact q1
  · rw [b2i0, Bool.not_eq_false] at h9
    rw [show stL t p B = sStreet t p B by simp only [stL]; rw [if_pos h9]]
    refine d_run 2 rfl ?_
    refine d_call 2 k28_14 (by omega) (Nat.le_of_ble_eq_true rfl) rfl (Nat.le_of_ble_eq_true rfl) (Nat.le_of_ble_eq_true rfl) (recv_ok rfl (by first | assumption | exact Nat.le_of_ble_eq_true rfl | omega)) rfl (c_street hl (by omega) h hB hw.1) rfl ?_
    intro F1 G1 q1
    refine d_ib k28_17 (by rfl) ?_
    exact q1
def CLd (l : Nat) (F : FT) (G : GT) (r : Nat ⊕ LB) (F2 : FT) (G2 : GT) : Prop := match r with
  | .inl _ => CFr l F G F2 G2
  | .inr B => CLb F2 G2 l B ∧ CFr l F G F2 G2
theorem CLd.tr {F F1 F2 : FT} {G G1 G2 : GT} {z : Nat ⊕ LB} (h : CFr l F G F1 G1) (h2 : CLd l F1 G1 z F2 G2) : CLd l F G z F2 G2 := by
  cases z with
  | inl f => exact h.tr h2
  | inr r => exact ⟨h2.1, h.tr h2.2⟩
theorem l_rdLand (hl : l < 2) (hd : 90 ≤ d) : ∀ (r i : Nat) (iv : Int32) (p : Nat) (B : LB) (F : FT) (G : GT), iv = nI i → i + r = 1000 → CRd F G t p → CLb F G l B → wfBB B → p ≤ t.1 → t.1 ≤ 1000 → Td E d 27 23 [some (vr 7 0), some (vr 9 l), some (vi iv)] [] x F G b (some (vi (faV (ldL t r p B)))) (CLd l F G (ldL t r p B)) := by
  intro r
  induction r with
  | zero =>
    intro i iv p B F G hiv hir h hB hw hp ht
    subst hiv
    have hi : i = 1000 := by omega
    refine d_run 2 rfl ?_
    refine d_ic_ge k27_27 (fun h27 => ?_) (fun h27 => ?_)
    · refine d_run 1 rfl ?_
      refine d_ir k27_75 rfl (by rfl) ?_
      exact ⟨hB, CFr.rf⟩
    · exact absurd (lt_nI h27 (b := 1000) rfl (by omega) (by omega)) (by omega)
  | succ r ih =>
    intro i iv p B F G hiv hir h hB hw hp ht
    subst hiv
    have hi : i < 1000 := by omega
    refine d_run 2 rfl ?_
    refine d_ic_ge k27_27 (fun h27 => ?_) (fun h27 => ?_)
    · exact absurd (ge_nI h27 (b := 1000) rfl (by omega) (by omega)) (by omega)
    · refine d_run 1 rfl ?_
      refine d_gR k27_31 (by first | assumption | exact Nat.le_of_ble_eq_true rfl | omega) ⟨rfl, rfl, rfl⟩ rfl ?_
      refine d_gI k27_34 (by first | assumption | exact Nat.le_of_ble_eq_true rfl | omega) ⟨rfl, rfl, Or.inl rfl⟩ ?_
      rw [h.2.2.1]
      have hk4 := tK_4 (t := t) (p := p)
      refine d_if_eq k27_37 (fun h37 => ?_) (fun h37 => ?_)
      · have e37 : tK t p = 0 := nI_inj (b := 0) h37 (by omega) (by omega)
        rw [show ldL t (r + 1) p B = .inr B by simp only [ldL]; rw [if_pos e37]]
        refine d_run 1 rfl ?_
        refine d_ir k27_75 rfl (by rfl) ?_
        exact ⟨hB, CFr.rf⟩
      · have e37 : ¬ tK t p = 0 := fun e => h37 (by rw [e]; rfl)
        refine d_run 2 rfl ?_
        refine d_call 2 k27_42 (by omega) (Nat.le_of_ble_eq_true rfl) rfl (Nat.le_of_ble_eq_true rfl) (Nat.le_of_ble_eq_true rfl) (recv_ok rfl (by first | assumption | exact Nat.le_of_ble_eq_true rfl | omega)) rfl (c_stL hl (by omega) h hB hw hp) rfl ?_
        rintro F1 G1 q1
        refine d_if_eq k27_45 (fun h45 => ?_) (fun h45 => ?_)
        · rw [b2i0] at h45
          obtain ⟨f, ef⟩ := okB_f h45
          rw [ef] at q1
          rw [show ldL t (r + 1) p B = .inl f by simp only [ldL]; rw [if_neg e37]; simp only [oneL]; rw [ef]; rfl]
          refine d_run 1 rfl ?_
          refine d_gR k27_61 (by first | assumption | exact Nat.le_of_ble_eq_true rfl | omega) ⟨rfl, rfl, rfl⟩ rfl ?_
          refine d_gI k27_64 (by first | assumption | exact Nat.le_of_ble_eq_true rfl | omega) ⟨rfl, rfl, Or.inl rfl⟩ ?_
          first | rw [q2.1] | rw [q1.1]
          refine d_ir k27_67 rfl (by rfl) ?_
          first | exact g3.tr (D5.fr (D5.rf.ft q2)) | exact q1.2
        · rw [b2i0, Bool.not_eq_false] at h45
          obtain ⟨⟨p1, B1⟩, ef⟩ := okB_t h45
          rw [ef] at q1
          obtain ⟨g1, g2, g3⟩ := q1
          have gg := stL_go hp ef
          have gw := stL_wf ht hp hw ef
          refine d_run 1 rfl ?_
          refine d_gR k27_49 (by first | assumption | exact Nat.le_of_ble_eq_true rfl | omega) ⟨rfl, rfl, rfl⟩ rfl ?_
          refine d_run 1 rfl ?_
          refine d_call 2 k27_54 (by omega) (Nat.le_of_ble_eq_true rfl) rfl (Nat.le_of_ble_eq_true rfl) (Nat.le_of_ble_eq_true rfl) (recv_ok rfl (by first | assumption | exact Nat.le_of_ble_eq_true rfl | omega)) rfl (c_passS (c := 59) (by decide) (by omega) g1) rfl ?_
          rintro F2 G2 q2
          refine d_if_ne k27_57 (fun h57 => ?_) (fun h57 => ?_)
          · rw [b2i0, Bool.not_eq_false] at h57
            obtain ⟨p3, ef2⟩ := okB_t h57
            rw [ef2] at q2
            obtain ⟨g4, n4⟩ := q2
            have eL : ldL t (r + 1) p B = ldL t r p3 B1 := by simp only [ldL]; rw [if_neg e37]; simp only [oneL]; rw [ef]; simp only [bnd]; rw [ef2]
            have hp3 : p3 ≤ t.1 := g4.2.2.2.2.2.2.2.2
            rw [eL]
            refine d_run 2 rfl ?_
            exact td_mo (ih (i + 1) _ p3 B1 F2 G2 (nI_1 i) (by omega) g4 (g2.d5 (D5.rf.nx n4)) gw hp3 ht) (fun F4 G4 e => CLd.tr (g3.tr (D5.fr (D5.rf.nx n4))) e)
          · rw [b2i0] at h57
            obtain ⟨f, ef2⟩ := okB_f h57
            rw [ef2] at q2
            rw [show ldL t (r + 1) p B = .inl f by simp only [ldL]; rw [if_neg e37]; simp only [oneL]; rw [ef]; simp only [bnd]; rw [ef2]]
            refine d_run 1 rfl ?_
            refine d_gR k27_61 (by first | assumption | exact Nat.le_of_ble_eq_true rfl | omega) ⟨rfl, rfl, rfl⟩ rfl ?_
            refine d_gI k27_64 (by first | assumption | exact Nat.le_of_ble_eq_true rfl | omega) ⟨rfl, rfl, Or.inl rfl⟩ ?_
            first | rw [q2.1] | rw [q1.1]
            refine d_ir k27_67 rfl (by rfl) ?_
            first | exact g3.tr (D5.fr (D5.rf.ft q2)) | exact q1.2
theorem c_open (hw : wfTp t) (hd : 6 ≤ d) (hT : CTp F t) : Td E d 68 0 [some (vr 5 0)] [] x F G b none (fun F2 G2 => CRd F2 G2 t (tB t 0) ∧ D5 F G F2 G2) := by
  refine d_run 2 rfl ?_
  refine d_pI k68_2 (by first | assumption | exact Nat.le_of_ble_eq_true rfl | omega) ⟨rfl, rfl⟩ ?_
  refine d_run 2 rfl ?_
  refine d_pI k68_7 (by first | assumption | exact Nat.le_of_ble_eq_true rfl | omega) ⟨rfl, rfl⟩ ?_
  refine d_run 1 rfl ?_
  refine d_call 1 k68_11 (by omega) (Nat.le_of_ble_eq_true rfl) rfl (Nat.le_of_ble_eq_true rfl) (Nat.le_of_ble_eq_true rfl) (recv_ok rfl (by first | assumption | exact Nat.le_of_ble_eq_true rfl | omega)) rfl (c_next (p := 0) hw (by omega) ((hT.u5 (by decide)).u5 (by decide)) (Nat.zero_le _) (by rw [uF_r, pk_un (by decide), uF_r, pk_us]; rfl)) rfl ?_
  rintro F1 G1 ⟨h1, n1⟩
  refine d_ret k68_14 ?_
  exact ⟨h1, ((((FrD.rf (F := F)).u (D := d5) (k := 5) (n := 0) rfl).u rfl).tr n1.2.1), n1.2.2⟩
theorem c_clear (hl : l < 2) : Td E d 1 0 [some (vr 9 l)] [] x F G b none (fun F2 G2 => F2 = uF (uF (uF (uF (uF F 9 l 9 0) 9 l 10 0) 9 l 11 3) 9 l 12 60) 9 l 13 0 ∧ G2 = G) := by
  refine d_run 2 rfl ?_
  refine d_pI k1_2 (by first | assumption | exact lx2 _ | exact Nat.le_of_ble_eq_true rfl | omega | exact Nat.lt_of_lt_of_le (m := 2) (by omega) (Nat.le_of_ble_eq_true rfl)) ⟨rfl, rfl⟩ ?_
  refine d_run 2 rfl ?_
  refine d_pI k1_7 (by first | assumption | exact lx2 _ | exact Nat.le_of_ble_eq_true rfl | omega | exact Nat.lt_of_lt_of_le (m := 2) (by omega) (Nat.le_of_ble_eq_true rfl)) ⟨rfl, rfl⟩ ?_
  refine d_run 2 rfl ?_
  refine d_pI k1_12 (by first | assumption | exact lx2 _ | exact Nat.le_of_ble_eq_true rfl | omega | exact Nat.lt_of_lt_of_le (m := 2) (by omega) (Nat.le_of_ble_eq_true rfl)) ⟨rfl, rfl⟩ ?_
  refine d_run 2 rfl ?_
  refine d_pI k1_18 (by first | assumption | exact lx2 _ | exact Nat.le_of_ble_eq_true rfl | omega | exact Nat.lt_of_lt_of_le (m := 2) (by omega) (Nat.le_of_ble_eq_true rfl)) ⟨rfl, rfl⟩ ?_
  refine d_run 2 rfl ?_
  refine d_pI k1_23 (by first | assumption | exact lx2 _ | exact Nat.le_of_ble_eq_true rfl | omega | exact Nat.lt_of_lt_of_le (m := 2) (by omega) (Nat.le_of_ble_eq_true rfl)) ⟨rfl, rfl⟩ ?_
  refine d_ret k1_26 ?_
  exact ⟨rfl, rfl⟩
theorem c_rdLand (hl : l < 2) (hd : 95 ≤ d) (hT : CTp F t) (hw : wfTp t) : Td E d 27 0 [some (vr 7 0), some (vr 9 l), none] [] x F G b (some (vi (faV (ldL t 1000 (tB t 0) begB)))) (CLd l F G (ldL t 1000 (tB t 0) begB)) := by
  refine d_run 1 rfl ?_
  refine d_call 1 k27_1 (by omega) (Nat.le_of_ble_eq_true rfl) rfl (Nat.le_of_ble_eq_true rfl) (Nat.le_of_ble_eq_true rfl) (recv_ok rfl (by first | assumption | exact lx2 _ | exact Nat.lt_of_lt_of_le (m := 2) hl (Nat.le_of_ble_eq_true rfl) | omega)) rfl (c_clear hl) rfl ?_
  rintro F1 G1 ⟨rfl, rfl⟩
  refine d_run 2 rfl ?_
  refine d_pZ k27_6 (by first | assumption | exact Nat.le_of_ble_eq_true rfl | omega) ⟨rfl, rfl⟩ (by first | exact Or.inl rfl | exact Or.inr rfl) ?_
  refine d_run 2 rfl ?_
  refine d_pZ k27_11 (by first | assumption | exact Nat.le_of_ble_eq_true rfl | omega) ⟨rfl, rfl⟩ (by first | exact Or.inl rfl | exact Or.inr rfl) ?_
  refine d_run 1 rfl ?_
  refine d_gR k27_15 (by first | assumption | exact Nat.le_of_ble_eq_true rfl | omega) ⟨rfl, rfl, rfl⟩ rfl ?_
  have hT2 : CTp (uF (uF (uF (uF (uF (uF (uF F 9 l 9 0) 9 l 10 0) 9 l 11 3) 9 l 12 60) 9 l 13 0) 7 0 2 0) 7 0 3 0) t := by
    obtain ⟨a1, a2, a3⟩ := hT
    refine ⟨?_, a2, ?_⟩
    · rw [uF_k (by decide), uF_k (by decide), uF_k (by decide), uF_k (by decide), uF_k (by decide), uF_k (by decide), uF_k (by decide)]; exact a1
    · rw [uF_k (by decide), uF_k (by decide), uF_k (by decide), uF_k (by decide), uF_k (by decide), uF_k (by decide), uF_k (by decide)]; exact a3
  have hB2 : CLb (uF (uF (uF (uF (uF (uF (uF F 9 l 9 0) 9 l 10 0) 9 l 11 3) 9 l 12 60) 9 l 13 0) 7 0 2 0) 7 0 3 0) G1 l begB := by
    refine ⟨?_, ?_, ?_, ?_, ?_, fun i hi => absurd hi (by show ¬ i < 0; omega), fun i hi => absurd hi (by show ¬ i < 0; omega), fun i hi => absurd hi (by show ¬ i < 0; omega), fun i hi => absurd hi (by show ¬ i < 0; omega), fun i hi => absurd hi (by show ¬ i < 0; omega), ?_, ?_⟩
    · simp [uF]; rfl
    · simp [uF]; rfl
    · simp [uF]; rfl
    · simp [uF]; rfl
    · simp [uF]; rfl
    · simp [uF]; rfl
    · simp [uF]; rfl
  have f2 : CFr l F G1 (uF (uF (uF (uF (uF (uF (uF F 9 l 9 0) 9 l 10 0) 9 l 11 3) 9 l 12 60) 9 l 13 0) 7 0 2 0) 7 0 3 0) G1 := CFr.u7 (CFr.u7 ((((((CFr.rf (l := l) (F := F) (G := G1)).u (by decide)).u (by decide)).u (by decide)).u (by decide)).u (by decide)))
  refine d_call 1 k27_18 (by omega) (Nat.le_of_ble_eq_true rfl) rfl (Nat.le_of_ble_eq_true rfl) (Nat.le_of_ble_eq_true rfl) (recv_ok rfl (by first | assumption | exact Nat.le_of_ble_eq_true rfl | omega)) rfl (c_open hw (by omega) hT2) rfl ?_
  rintro F3 G3 ⟨h3, d3⟩
  refine d_run 2 rfl ?_
  exact td_mo (l_rdLand hl (by omega) 1000 0 _ (tB t 0) begB F3 G3 rfl (by omega) h3 (hB2.d5 d3) beg_wf (tB_le (Nat.zero_le _)).2 hw.1) (fun F4 G4 e => CLd.tr (f2.tr (D5.fr d3)) e)
end T6
