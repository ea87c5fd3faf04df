/-! WHAT THE CLASS'S CODES TELL -/
def lrl (gg tt mm ww : Int32) (l : List Int32) (s : Nat × (Nat → Int32)) : Nat × (Nat → Int32) := l.foldl (fun s c => lst gg tt mm ww c s) s
def hgt (c : Int32) (h : Nat) : Nat := if -4 ≤ c ∧ h < 32 then h + 1 else if c = -5 ∧ 0 < h then h else if c < -5 ∧ 1 < h then h - 1 else h
def cok (c : Int32) (h : Nat) : Prop := (¬ c < -4 ∧ h < 32) ∨ (c = -5 ∧ 0 < h) ∨ (c < -5 ∧ 1 < h)
def lokL : List Int32 → Nat → Prop
  | [], _ => True
  | c :: l, h => cok c h ∧ lokL l (hgt c h)
def hgl (l : List Int32) (h : Nat) : Nat := l.foldl (fun h c => hgt c h) h
theorem lokL_ap : ∀ (l1 l2 : List Int32) (h : Nat), lokL l1 h → lokL l2 (hgl l1 h) → lokL (l1 ++ l2) h
  | [], l2, h, _, h2 => h2
  | c :: l1, l2, h, h1, h2 => ⟨h1.1, lokL_ap l1 l2 (hgt c h) h1.2 h2⟩
theorem hgl_ap (l1 l2 : List Int32) (h : Nat) : hgl (l1 ++ l2) h = hgl l2 (hgl l1 h) := by simp [hgl]
theorem lrl_ap (gg tt mm ww : Int32) (l1 l2 : List Int32) (s : Nat × (Nat → Int32)) : lrl gg tt mm ww (l1 ++ l2) s = lrl gg tt mm ww l2 (lrl gg tt mm ww l1 s) := by simp [lrl]
theorem lst_h (gg tt mm ww c : Int32) (s : Nat × (Nat → Int32)) : (lst gg tt mm ww c s).1 = hgt c s.1 := by
  simp only [lst, hgt]
  split
  · rfl
  · split
    · rfl
    · split
      · rfl
      · rfl
/-- laid codes that tell D above a height h -/
def Tel (ps : List Int32) (D : LWT) (h : Nat) : Prop := lokL ps h ∧ hgl ps h = h + 1 ∧ ∀ gg tt mm ww (v : Nat → Int32), (lrl gg tt mm ww ps (h, v)).1 = h + 1 ∧ (lrl gg tt mm ww ps (h, v)).2 h = D gg tt mm ww ∧ ∀ j, j < h → (lrl gg tt mm ww ps (h, v)).2 j = v j
/-- laid codes that make D2 out of D1, which waits at h -/
def TelJ (ps : List Int32) (D1 D2 : LWT) (h : Nat) : Prop := lokL ps (h + 1) ∧ hgl ps (h + 1) = h + 1 ∧ ∀ gg tt mm ww (v : Nat → Int32), v h = D1 gg tt mm ww → (lrl gg tt mm ww ps (h + 1, v)).1 = h + 1 ∧ (lrl gg tt mm ww ps (h + 1, v)).2 h = D2 gg tt mm ww ∧ ∀ j, j < h → (lrl gg tt mm ww ps (h + 1, v)).2 j = v j
theorem TelJ.nil {D : LWT} {h : Nat} : TelJ [] D D h := ⟨trivial, rfl, fun _ _ _ _ _ e => ⟨rfl, e, fun _ _ => rfl⟩⟩
theorem Tel.j {ps qs : List Int32} {D1 D2 : LWT} {h : Nat} (h1 : Tel ps D1 h) (h2 : TelJ qs D1 D2 h) : Tel (ps ++ qs) D2 h := by
  refine ⟨lokL_ap _ _ _ h1.1 (by rw [h1.2.1]; exact h2.1), by rw [hgl_ap, h1.2.1]; exact h2.2.1, fun gg tt mm ww v => ?_⟩
  obtain ⟨a1, a2, a3⟩ := h1.2.2 gg tt mm ww v
  rw [lrl_ap]
  have e : lrl gg tt mm ww ps (h, v) = (h + 1, (lrl gg tt mm ww ps (h, v)).2) := Prod.ext a1 rfl
  rw [e]
  obtain ⟨b1, b2, b3⟩ := h2.2.2 gg tt mm ww (lrl gg tt mm ww ps (h, v)).2 a2
  exact ⟨b1, b2, fun j hj => (b3 j hj).trans (a3 j hj)⟩
theorem TelJ.j {ps qs : List Int32} {D1 D2 D3 : LWT} {h : Nat} (h1 : TelJ ps D1 D2 h) (h2 : TelJ qs D2 D3 h) : TelJ (ps ++ qs) D1 D3 h := by
  refine ⟨lokL_ap _ _ _ h1.1 (by rw [h1.2.1]; exact h2.1), by rw [hgl_ap, h1.2.1]; exact h2.2.1, fun gg tt mm ww v hv => ?_⟩
  obtain ⟨a1, a2, a3⟩ := h1.2.2 gg tt mm ww v hv
  rw [lrl_ap]
  have e : lrl gg tt mm ww ps (h + 1, v) = (h + 1, (lrl gg tt mm ww ps (h + 1, v)).2) := Prod.ext a1 rfl
  rw [e]
  obtain ⟨b1, b2, b3⟩ := h2.2.2 gg tt mm ww (lrl gg tt mm ww ps (h + 1, v)).2 a2
  exact ⟨b1, b2, fun j hj => (b3 j hj).trans (a3 j hj)⟩
theorem Tel.val {c : Int32} {h : Nat} (hc : -4 ≤ c) (hh : h < 32) : Tel [c] (vD c) h := by
  have e1 : hgt c h = h + 1 := by simp only [hgt]; rw [if_pos ⟨hc, hh⟩]
  refine ⟨⟨Or.inl ⟨Int32.not_lt.mpr hc, hh⟩, trivial⟩, e1, fun gg tt mm ww v => ?_⟩
  have e2 : lrl gg tt mm ww [c] (h, v) = (h + 1, upd v h (if 0 ≤ c then c else fct c gg tt mm ww)) := by
    show lst gg tt mm ww c (h, v) = _
    simp only [lst]
    rw [if_pos ⟨hc, hh⟩]
  rw [e2]
  exact ⟨rfl, pk_us, fun j hj => pk_un (by omega)⟩
theorem TelJ.not {D : LWT} {h : Nat} : TelJ [-5] D (noD D) h := by
  have e1 : hgt (-5) (h + 1) = h + 1 := by
    unfold hgt
    rw [if_neg (fun e => absurd e.1 (by decide)), if_pos ⟨rfl, by omega⟩]
  refine ⟨⟨Or.inr (Or.inl ⟨rfl, by omega⟩), trivial⟩, e1, fun gg tt mm ww v hv => ?_⟩
  have e2 : lrl gg tt mm ww [-5] (h + 1, v) = (h + 1, upd v h (if v h = 0 then 1 else 0)) := by
    show lst gg tt mm ww (-5) (h + 1, v) = _
    unfold lst
    rw [if_neg (fun e => absurd e.1 (by decide)), if_pos ⟨rfl, by show 0 < h + 1; omega⟩]
    rfl
  rw [e2]
  refine ⟨rfl, ?_, fun j hj => pk_un (by omega)⟩
  show upd v h _ h = _
  rw [pk_us, hv]
  rfl
theorem TelJ.join {ps : List Int32} {c : Int32} {D1 D2 : LWT} {h : Nat} (hc : c < -5) (h2 : Tel ps D2 (h + 1)) : TelJ (ps ++ [c]) D1 (joD c D1 D2) h := by
  have n1 : ¬ (-4 : Int32) ≤ c := fun e => absurd (Int32.lt_of_le_of_lt e hc) (by decide)
  have n2 : ¬ c = -5 := fun e => by rw [e] at hc; exact absurd hc (by decide)
  have e1 : hgt c (h + 2) = h + 1 := by
    simp only [hgt]
    rw [if_neg (fun e => n1 e.1), if_neg (fun e => n2 e.1), if_pos ⟨hc, by omega⟩]
    omega
  refine ⟨lokL_ap _ _ _ h2.1 ?_, ?_, fun gg tt mm ww v hv => ?_⟩
  · rw [h2.2.1]
    exact ⟨Or.inr (Or.inr ⟨hc, by omega⟩), trivial⟩
  · rw [hgl_ap, h2.2.1]
    exact e1
  · obtain ⟨a1, a2, a3⟩ := h2.2.2 gg tt mm ww v
    rw [lrl_ap]
    have e : lrl gg tt mm ww ps (h + 1, v) = (h + 2, (lrl gg tt mm ww ps (h + 1, v)).2) := Prod.ext a1 rfl
    rw [e]
    have e2 : ∀ v2 : Nat → Int32, lrl gg tt mm ww [c] (h + 2, v2) = (h + 1, upd v2 h (jnd c (v2 h) (v2 (h + 1)))) := by
      intro v2
      show lst gg tt mm ww c (h + 2, v2) = _
      simp only [lst]
      rw [if_neg (fun e => n1 e.1), if_neg (fun e => n2 e.1), if_pos ⟨hc, by omega⟩]
      rfl
    rw [e2]
    refine ⟨rfl, ?_, fun j hj => ?_⟩
    · show upd _ h _ h = _
      rw [pk_us, a2, a3 h (by omega), hv]
      rfl
    · show upd _ h _ j = _
      rw [pk_un (by omega)]
      exact a3 j (by omega)
theorem vcode_ge {t : TP} {p : Nat} (h : ¬ vcode t p = -5) : -4 ≤ vcode t p := by
  have hv : tK t p = 2 → 0 ≤ nI (tV t p) := fun e => Int32.not_lt.mp (nn_nI (by have := tV_le e; omega))
  unfold vcode at h ⊢
  split
  · rename_i e
    exact Int32.le_trans (by decide) (hv e)
  · split
    · decide
    · split
      · decide
      · split
        · decide
        · split
          · decide
          · rename_i e1 e2 e3 e4 e5
            rw [if_neg e1, if_neg e2, if_neg e3, if_neg e4, if_neg e5] at h
            exact absurd rfl h
theorem jc_neg {lvl : Nat} {t : TP} {p : Nat} (h : ¬ jc lvl t p = 0) : jc lvl t p < -5 := by
  unfold jc at h ⊢
  split
  · rename_i e0
    rw [if_pos e0] at h
    split
    · decide
    · rename_i e1
      rw [if_neg e1] at h
      split
      · decide
      · rename_i e2
        rw [if_neg e2] at h
        exact absurd rfl h
  · rename_i e0
    rw [if_neg e0] at h
    split
    · rename_i e1
      rw [if_pos e1] at h
      split
      · decide
      · rename_i e2
        rw [if_neg e2] at h
        split
        · decide
        · rename_i e3
          rw [if_neg e3] at h
          exact absurd rfl h
    · rename_i e1
      rw [if_neg e1] at h
      split
      · rename_i e2
        rw [if_pos e2] at h
        split
        · decide
        · rename_i e3
          rw [if_neg e3] at h
          split
          · decide
          · rename_i e4
            rw [if_neg e4] at h
            exact absurd rfl h
      · rename_i e2
        rw [if_neg e2] at h
        split
        · decide
        · rename_i e3
          rw [if_neg e3] at h
          exact absurd rfl h
theorem rdL_tel {t : TP} : ∀ (n m lvl dep : Nat) (r r2 : RA), rdL t n m lvl dep r = some (.inr r2) → lvl ≤ 4 → (m ≠ 0 → lvl ≤ 3) → dep ≤ 5 → ∃ ps, r2.2.2.1 = r.2.2.1 ++ ps ∧ (m = 0 → ∀ h, h ≤ 4 * dep + lvl → Tel ps r2.2.1 h) ∧ (m ≠ 0 → ∀ h, h ≤ 4 * dep + lvl → TelJ ps r.2.1 r2.2.1 h)
  | 0, _, _, _, _, _, h, _, _, _ => by cases h
  | n + 1, m, lvl, dep, r, r2, h, h4, hl3, h5 => by
    unfold rdL at h
    split at h
    · rename_i hm
      split at h
      · rename_i hlv
        rcases obd_r h with ⟨e, _, h2⟩ | ⟨r1, h1, h2⟩
        · cases h2
        · obtain ⟨ps, e1, p1, _⟩ := rdL_tel n 0 (lvl + 1) dep r r1 h1 (by omega) (fun e => absurd rfl e) h5
          obtain ⟨qs, e2, _, q2⟩ := rdL_tel n 1 lvl dep r1 r2 h2 (by omega) (fun _ => by omega) h5
          refine ⟨ps ++ qs, by rw [e2, e1, List.append_assoc], fun _ hh hb => ?_, fun e => absurd hm e⟩
          exact (p1 rfl hh (by omega)).j (q2 (by decide) hh hb)
      · rename_i hlv
        have hlv : lvl = 4 := by omega
        split at h
        · rename_i hpt
          split at h
          · cases h
          · rename_i hd5
            split at h
            · rcases obd_r h with ⟨e, _, h2⟩ | ⟨r1, h1, h2⟩
              · cases h2
              · split at h2
                · cases h2
                  obtain ⟨ps, e1, p1, _⟩ := rdL_tel n 0 0 (dep + 1) _ r1 h1 (by omega) (fun e => absurd rfl e) (by omega)
                  exact ⟨ps, e1, fun _ hh hb => p1 rfl hh (by omega), fun e => absurd hm e⟩
                · cases h2
            · rename_i hs
              split at h
              · rcases obd_r h with ⟨e, _, h2⟩ | ⟨r1, h1, h2⟩
                · cases h2
                · cases h2
                  obtain ⟨ps, e1, p1, _⟩ := rdL_tel n 0 4 (dep + 1) _ r1 h1 (by omega) (fun e => absurd rfl e) (by omega)
                  refine ⟨ps ++ [-5], ?_, fun _ hh hb => (p1 rfl hh (by omega)).j TelJ.not, fun e => absurd hm e⟩
                  show r1.2.2.1 ++ [-5] = _
                  rw [e1, List.append_assoc]
              · rename_i hnw
                cases h
                have hv : ¬ vcode t r.1 = -5 := by
                  intro e
                  simp only [isPt] at hpt
                  rw [decide_eq_false (fun e2 => e2 e)] at hpt
                  simp only [Bool.or_false, Bool.or_eq_true] at hpt
                  rcases hpt with h6 | h6
                  · exact hnw h6
                  · exact hs h6
                exact ⟨[vcode t r.1], rfl, fun _ hh hb => Tel.val (vcode_ge hv) (by omega), fun e => absurd hm e⟩
        · cases h
    · rename_i hm
      split at h
      · cases h
        exact ⟨[], (List.append_nil _).symm, fun e => absurd e hm, fun _ hh _ => TelJ.nil⟩
      · rename_i hj
        rcases obd_r h with ⟨e, _, h2⟩ | ⟨r1, h1, h2⟩
        · cases h2
        · have h3 := hl3 hm
          obtain ⟨ps, e1, p1, _⟩ := rdL_tel n 0 (lvl + 1) dep _ r1 h1 (by omega) (fun e => absurd rfl e) h5
          split at h2
          · cases h2
            refine ⟨ps ++ [jc lvl t r.1], ?_, fun e => absurd e hm, fun _ hh hb => TelJ.join (jc_neg hj) (p1 rfl (hh + 1) (by omega))⟩
            show r1.2.2.1 ++ [jc lvl t r.1] = _
            rw [e1, List.append_assoc]
          · obtain ⟨qs, e2, _, q2⟩ := rdL_tel n 1 lvl dep (r1.1, joD (jc lvl t r.1) r.2.1 r1.2.1, r1.2.2.1 ++ [jc lvl t r.1], r1.2.2.2) r2 h2 (by omega) (fun _ => h3) h5
            refine ⟨(ps ++ [jc lvl t r.1]) ++ qs, ?_, fun e => absurd e hm, fun _ hh hb => ?_⟩
            · rw [e2]
              show (r1.2.2.1 ++ [jc lvl t r.1]) ++ qs = _
              rw [e1]
              simp only [List.append_assoc]
            · exact (TelJ.join (jc_neg hj) (p1 rfl (hh + 1) (by omega))).j (q2 (by decide) hh hb)
theorem lrn_l {cs : Nat → Int32} {gg tt mm ww : Int32} {v0 : Nat → Int32} : ∀ k, lrn cs gg tt mm ww v0 k = lrl gg tt mm ww ((List.range k).map cs) (0, v0)
  | 0 => rfl
  | k + 1 => by
    rw [List.range_succ, List.map_append, lrl_ap, ← lrn_l k]
    rfl
theorem lhg_l {cs : Nat → Int32} : ∀ k, lhg cs k = hgl ((List.range k).map cs) 0
  | 0 => rfl
  | k + 1 => by
    rw [List.range_succ, List.map_append, hgl_ap, ← lhg_l k]
    rfl
theorem lokL_sp : ∀ (l1 l2 : List Int32) (h : Nat), lokL (l1 ++ l2) h → lokL l1 h ∧ lokL l2 (hgl l1 h)
  | [], l2, h, hl => ⟨trivial, hl⟩
  | c :: l1, l2, h, hl => by
    obtain ⟨a1, a2⟩ := lokL_sp l1 l2 (hgt c h) hl.2
    exact ⟨⟨hl.1, a1⟩, a2⟩
theorem lok_l {cs : Nat → Int32} : ∀ {N : Nat}, lokL ((List.range N).map cs) 0 → lok cs N
  | 0, _ => fun i hi => absurd hi (by omega)
  | N + 1, hl => by
    rw [List.range_succ, List.map_append] at hl
    obtain ⟨a1, a2⟩ := lokL_sp _ _ _ hl
    intro i hi
    by_cases e : i = N
    · subst e
      rw [lhg_l i]
      exact a2.1
    · exact lok_l a1 i (by omega)
theorem law_c {B : LB} (h : lwB B) {cs : Nat → Int32} (hcs : ∀ i (hi : i < (bC B).length), cs i = (bC B)[i]) : lok cs (bC B).length ∧ ∀ gg tt mm ww v0, lres cs (bC B).length gg tt mm ww v0 = bW B gg tt mm ww := by
  have el : (List.range (bC B).length).map cs = bC B := by
    apply List.ext_getElem
    · simp
    · intro i h1 h2
      simp only [List.getElem_map, List.getElem_range]
      exact hcs i h2
  rcases h with ⟨h1, _, h3⟩ | ⟨t, n, p, r, h1, h2, h3, h4, h5, h6⟩
  · rw [h1]
    refine ⟨fun i hi => absurd hi (by simp), fun gg tt mm ww v0 => ?_⟩
    rw [h3]
    rfl
  · obtain ⟨ps, e1, p1, _⟩ := rdL_tel n 0 0 0 _ r h3 (by omega) (fun e => absurd rfl e) (by omega)
    have e1 : r.2.2.1 = ps := e1
    have hT := p1 rfl 0 (by omega)
    rw [← e1, ← h4] at hT
    refine ⟨lok_l (by rw [el]; exact hT.1), fun gg tt mm ww v0 => ?_⟩
    have hne : ¬ (bC B).length = 0 := by
      intro e
      have := hT.2.1
      rw [List.length_eq_zero_iff.mp e] at this
      cases this
    unfold lres
    rw [if_neg hne, lrn_l, el, h6]
    exact (hT.2.2 gg tt mm ww v0).2.1
