/-! BITS; HOW IT IS, AS PLAIN ROWS; AN HOUR KEEPS WHAT AGREES -/
theorem and1l (v : BitVec 32) : (v &&& 1#32 = 0#32) = (v.getLsbD 0 = false) := by
  rw [BitVec.and_one_eq_setWidth_ofBool_getLsbD]
  cases h : v.getLsbD 0 <;> simp
theorem c6 {p : Nat} (hp : p < 6) : p = 0 ∨ p = 1 ∨ p = 2 ∨ p = 3 ∨ p = 4 ∨ p = 5 := by omega
theorem bit_lsb (x : Int32) (p : Nat) (hp : p < 6) : bit x p = x.toBitVec.getLsbD p := by
  have key : ∀ y : Int32, decide (¬ y &&& 1 = 0) = y.toBitVec.getLsbD 0 := by
    intro y
    have h2 : (y &&& 1 = 0) = (y.toBitVec.getLsbD 0 = false) := by
      rw [← and1l, ← Int32.toBitVec_inj]
      simp
    simp only [h2]
    cases y.toBitVec.getLsbD 0 <;> simp
  simp only [bit]
  rw [key]
  rcases c6 hp with rfl | rfl | rfl | rfl | rfl | rfl <;> simp [Int32.toBitVec_shiftRight, BitVec.getElem_sshiftRight, nI]
theorem sh1_lsb (p q : Nat) (hp : p < 6) (hq : q < 6) : ((1 : Int32) <<< (nI p &&& 31)).toBitVec.getLsbD q = decide (q = p) := by
  rcases c6 hp with rfl | rfl | rfl | rfl | rfl | rfl <;> rcases c6 hq with rfl | rfl | rfl | rfl | rfl | rfl <;> decide +kernel
theorem bit_or (x y : Int32) (p : Nat) (hp : p < 6) : bit (x ||| y) p = (bit x p || bit y p) := by
  simp [bit_lsb _ _ hp]
theorem bit_and (x y : Int32) (p : Nat) (hp : p < 6) : bit (x &&& y) p = (bit x p && bit y p) := by
  simp [bit_lsb _ _ hp]
theorem bit_sh1 (p q : Nat) (hp : p < 6) (hq : q < 6) : bit ((1 : Int32) <<< (nI p &&& 31)) q = decide (q = p) := by
  rw [bit_lsb _ _ hq, sh1_lsb p q hp hq]
theorem bit_not (x : Int32) (p : Nat) (hp : p < 6) : bit (x ^^^ (-1)) p = !bit x p := by
  rcases c6 hp with rfl | rfl | rfl | rfl | rfl | rfl <;> simp [bit_lsb]
theorem bit_0 (p : Nat) (hp : p < 6) : bit 0 p = false := by
  simp [bit_lsb _ _ hp]
theorem gv2 : ∀ g, g < 41 → nI g / 2 = nI (g / 2) := by decide +kernel
theorem clamp_nI (t : Int32) : ∃ g, g ≤ 40 ∧ clamp t = nI g := by
  unfold clamp
  by_cases h1 : t < 40
  · rw [if_pos h1]
    by_cases h2 : 0 < t
    · rw [if_pos h2]
      obtain ⟨j, hj, e⟩ := nI_of (x := t) (fun h => by
        have := Int32.lt_trans h h2
        exact Int32.lt_irrefl this)
      refine ⟨j, ?_, e⟩
      rw [e, show (40 : Int32) = nI 40 from rfl, nI_ltI hj (by omega)] at h1
      omega
    · rw [if_neg h2]
      exact ⟨0, by omega, rfl⟩
  · rw [if_neg h1, if_pos (by decide)]
    exact ⟨40, by omega, rfl⟩
theorem gvn_nI (ki : Nat → Int32) (w : Nat) (t : Int32) : ∃ g, g ≤ 40 ∧ gvn ki w t = nI g := by
  obtain ⟨g, hg, e⟩ := clamp_nI t
  unfold gvn
  split
  · exact ⟨g / 2, by omega, by rw [e, gv2 g (by omega)]⟩
  · exact ⟨g, hg, e⟩
abbrev LWT : Type := Int32 → Int32 → Int32 → Int32 → Int32
/-- agree: hours left of the first P, windings, snapped, windings in all; snaps but for a number -/
def eqV (P : Nat) (e : Int32) (s t : SV) : Prop := (∀ p, p < P → s.1 p = t.1 p) ∧ (∀ i, i < 36 → s.2.1 i = t.2.1 i) ∧ s.2.2.1 = t.2.2.1 ∧ s.2.2.2.1 = t.2.2.2.1 ∧ s.2.2.2.2 = t.2.2.2.2 + e
def eqR (P : Nat) (f g : Nat → Int32) : Prop := ∀ p, p < P → f p = g p
theorem strg_k {kn kn2 f g : Nat → Int32} {so : Int32} {a b : Nat} (ha : a < 6) (hb : b < 6) (hk : kn a = kn2 a) (h : ∀ i, i < 36 → f i = g i) : strg kn f so a b = strg kn2 g so a b := by
  rw [strg_c ha hb h]
  simp only [strg, hk]
section EQ
variable {P : Nat} {e so snap : Int32} {LW : LWT} {ki ki2 kn kn2 at_ at2 : Nat → Int32} {s t : SV} {w o : Nat}
theorem cwd_c (hP : P ≤ 6) (h : eqV P e s t) (hki : eqR P ki ki2) (hkn : eqR P kn kn2) (hat : eqR P at_ at2) (hw : w < P) (ho : o < P) : cwd ki kn at_ s.1 s.2.1 so s.2.2.1 w o = cwd ki2 kn2 at2 t.1 t.2.1 so t.2.2.1 w o := by
  unfold cwd
  rw [strg_k (by omega) (by omega) (hkn w hw) h.2.1, sit_c (h.1 w hw), hki w hw, hki o ho, hat w hw, hat o ho, h.2.2.1]
theorem tn_c (hP : P ≤ 6) (h : eqV P e s t) (hki : eqR P ki ki2) (hat : eqR P at_ at2) (hw : w < P) (ho : o < P) : eqV P e (tn LW ki at_ P snap w o s) (tn LW ki2 at2 P snap w o t) := by
  have k1 : s.1 o + gvn ki w (LW (s.1 o) (s.1 w) (tog s.2.1 w o) (crd at_ w o P)) = t.1 o + gvn ki2 w (LW (t.1 o) (t.1 w) (tog t.2.1 w o) (crd at2 w o P)) := by
    rw [h.1 o ho, h.1 w hw, tog_c (by omega) (by omega) h.2.1, crd_c (hat o ho) hat]
    simp only [gvn, hki w hw]
  have hu : ∀ (f g : Nat → Int32) (v : Int32) (j : Nat), (f j = g j) → ∀ k, upd f k v j = upd g k v j := by
    intro f g v j hh k
    simp only [upd]
    split
    · rfl
    · exact hh
  have hwo : 6 * w + o < 36 := by omega
  unfold tn
  rw [k1]
  split
  · refine ⟨fun p hp => hu _ _ _ _ (h.1 p hp) _, fun i hi => ?_, h.2.2.1, ?_, h.2.2.2.2⟩
    · show upd s.2.1 _ _ i = upd t.2.1 _ _ i
      rw [h.2.1 _ hwo]
      exact hu _ _ _ _ (h.2.1 i hi) _
    · show s.2.2.2.1 + 1 = t.2.2.2.1 + 1
      rw [h.2.2.2.1]
  · refine ⟨fun p hp => hu _ _ _ _ (hu _ _ _ _ (h.1 p hp) _) _, fun i hi => ?_, ?_, ?_, ?_⟩
    · show upd s.2.1 _ _ i = upd t.2.1 _ _ i
      rw [h.2.1 _ hwo]
      exact hu _ _ _ _ (h.2.1 i hi) _
    · show s.2.2.1 ||| _ = t.2.2.1 ||| _
      rw [h.2.2.1]
    · show s.2.2.2.1 + 1 = t.2.2.2.1 + 1
      rw [h.2.2.2.1]
    · show s.2.2.2.2 + 1 = t.2.2.2.2 + 1 + e
      rw [h.2.2.2.2, Int32.add_assoc, Int32.add_comm e 1, ← Int32.add_assoc]
theorem wl_c (hP : P ≤ 6) (h : eqV P e s t) (hki : eqR P ki ki2) (hkn : eqR P kn kn2) (hat : eqR P at_ at2) (hw : w < P) (ho : o < P) : eqV P e (wl LW ki kn at_ P so snap w o s) (wl LW ki2 kn2 at2 P so snap w o t) := by
  unfold wl
  rw [cwd_c hP h hki hkn hat hw ho, h.1 o ho]
  split
  · exact tn_c hP h hki hat hw ho
  · exact h
theorem inr_c (hP : P ≤ 6) (hki : eqR P ki ki2) (hkn : eqR P kn kn2) (hat : eqR P at_ at2) {a : Nat} (ha : a < P) : ∀ (k b : Nat) (s t : SV), b + k ≤ P → eqV P e s t → eqV P e (inr LW ki kn at_ P so snap a b k s) (inr LW ki2 kn2 at2 P so snap a b k t)
  | 0, _, _, _, _, h => h
  | k + 1, b, s, t, hb, h => inr_c hP hki hkn hat ha k (b + 1) _ _ (by omega) (wl_c hP (wl_c hP h hki hkn hat ha (by omega)) hki hkn hat (by omega) ha)
theorem otr_c (hP : P ≤ 6) (hki : eqR P ki ki2) (hkn : eqR P kn kn2) (hat : eqR P at_ at2) : ∀ (k a : Nat) (s t : SV), a + k ≤ P → eqV P e s t → eqV P e (otr LW ki kn at_ P so snap a k s) (otr LW ki2 kn2 at2 P so snap a k t)
  | 0, _, _, _, _, h => h
  | k + 1, a, s, t, hb, h => otr_c hP hki hkn hat k (a + 1) _ _ (by omega) (inr_c hP hki hkn hat (by omega) (P - (a + 1)) (a + 1) _ _ (by omega) h)
theorem dcr_c : ∀ (k p : Nat) (f g : Nat → Int32), p + k ≤ P → eqR P f g → eqR P (dcr p k f) (dcr p k g)
  | 0, _, _, _, _, h => h
  | k + 1, p, f, g, hp, h => by
    refine dcr_c k (p + 1) _ _ (by omega) (fun j hj => ?_)
    simp only [upd]
    split
    · rw [h p (by omega)]
    · exact h j hj
theorem hr_c (hP : P ≤ 6) (h : eqV P e s t) (hki : eqR P ki ki2) (hkn : eqR P kn kn2) (hat : eqR P at_ at2) : eqV P e (hr LW ki kn at_ P so snap s) (hr LW ki2 kn2 at2 P so snap t) := by
  have h1 := otr_c (LW := LW) (so := so) (snap := snap) hP hki hkn hat P 0 s t (by omega) h
  exact ⟨dcr_c P 0 _ _ (by omega) h1.1, h1.2⟩
/-- hours left of the first P within 0 and 99, none of who has snapped -/
def wfV (P : Nat) (s : SV) : Prop := ∀ p, p < P → ∃ c, c ≤ 99 ∧ s.1 p = nI c ∧ (bit s.2.2.1 p = true → c = 0)
theorem tn_wf {sp : Nat} (hP : P ≤ 6) (hsp : snap = nI sp) (hsp9 : sp ≤ 99) (h : wfV P s) (ho : o < P) (hb : bit s.2.2.1 o = false) : wfV P (tn LW ki at_ P snap w o s) := by
  obtain ⟨c, hc, e1, e2⟩ := h o ho
  obtain ⟨g, hg, e3⟩ := gvn_nI ki w (LW (s.1 o) (s.1 w) (tog s.2.1 w o) (crd at_ w o P))
  intro p hp
  unfold tn
  rw [e3, e1, nI_add, hsp]
  by_cases hl : c + g ≤ sp
  · rw [if_pos ((nI_leI (by omega) (by omega)).mpr hl)]
    by_cases hpo : p = o
    · subst hpo
      refine ⟨c + g, by omega, pk_us, fun q => ?_⟩
      rw [hb] at q
      cases q
    · obtain ⟨c1, h1, h2, h3⟩ := h p hp
      exact ⟨c1, h1, by rw [← h2]; exact pk_un hpo, h3⟩
  · rw [if_neg (fun q => hl ((nI_leI (by omega) (by omega)).mp q))]
    by_cases hpo : p = o
    · subst hpo
      exact ⟨0, by omega, pk_us, fun _ => rfl⟩
    · obtain ⟨c1, h1, h2, h3⟩ := h p hp
      refine ⟨c1, h1, ?_, fun q => h3 ?_⟩
      · rw [← h2]
        show upd (upd s.1 o _) o _ p = s.1 p
        rw [pk_un hpo, pk_un hpo]
      · have q : bit (s.2.2.1 ||| _) p = true := q
        rw [bit_or _ _ _ (by omega), bit_sh1 _ _ (by omega) (by omega)] at q
        simpa [hpo] using q
theorem wl_wf {sp : Nat} (hP : P ≤ 6) (hsp : snap = nI sp) (hsp9 : sp ≤ 99) (h : wfV P s) (ho : o < P) : wfV P (wl LW ki kn at_ P so snap w o s) := by
  unfold wl
  split
  · rename_i hh
    refine tn_wf hP hsp hsp9 h ho ?_
    simp only [cwd, Bool.and_eq_true, Bool.not_eq_true'] at hh
    exact hh.2.1.2
  · exact h
theorem inr_wf {sp : Nat} (hP : P ≤ 6) (hsp : snap = nI sp) (hsp9 : sp ≤ 99) {a : Nat} (ha : a < P) : ∀ (k b : Nat) (s : SV), b + k ≤ P → wfV P s → wfV P (inr LW ki kn at_ P so snap a b k s)
  | 0, _, _, _, h => h
  | k + 1, b, s, hb, h => inr_wf hP hsp hsp9 ha k (b + 1) _ (by omega) (wl_wf hP hsp hsp9 (wl_wf hP hsp hsp9 h (by omega)) ha)
theorem otr_wf {sp : Nat} (hP : P ≤ 6) (hsp : snap = nI sp) (hsp9 : sp ≤ 99) : ∀ (k a : Nat) (s : SV), a + k ≤ P → wfV P s → wfV P (otr LW ki kn at_ P so snap a k s)
  | 0, _, _, _, h => h
  | k + 1, a, s, hb, h => otr_wf hP hsp hsp9 k (a + 1) _ (by omega) (inr_wf hP hsp hsp9 (by omega) (P - (a + 1)) (a + 1) _ (by omega) h)
theorem dc1 {c : Nat} (hc : c ≤ 99) : (if 0 < nI c - 1 then nI c - 1 else 0) = nI (c - 1) := by
  cases c with
  | zero => rfl
  | succ c =>
    rw [show (1 : Int32) = nI 1 from rfl, pk_sub (by omega), ← nI_0, Nat.add_sub_cancel]
    cases c with
    | zero => rfl
    | succ c => rw [if_pos ((nI_ltI (by omega) (by omega)).mpr (by omega))]
theorem dcr_at : ∀ (k p : Nat) (f : Nat → Int32) (j : Nat), (j < p ∨ p + k ≤ j) → dcr p k f j = f j
  | 0, _, _, _, _ => rfl
  | k + 1, p, f, j, h => by
    show dcr (p + 1) k _ j = _
    rw [dcr_at k (p + 1) _ j (by omega), pk_un (by omega)]
theorem dcr_in : ∀ (k p : Nat) (f : Nat → Int32) (j : Nat), p ≤ j → j < p + k → dcr p k f j = (if 0 < f j - 1 then f j - 1 else 0)
  | 0, _, _, _, _, _ => by omega
  | k + 1, p, f, j, h1, h2 => by
    show dcr (p + 1) k _ j = _
    by_cases h : j = p
    · subst h
      rw [dcr_at k (j + 1) _ j (by omega), pk_us]
    · rw [dcr_in k (p + 1) _ j (by omega) (by omega), pk_un h]
theorem dcm_at {sn : Int32} : ∀ (k p : Nat) (f : Nat → Int32) (j : Nat), (j < p ∨ p + k ≤ j) → dcm sn p k f j = f j
  | 0, _, _, _, _ => rfl
  | k + 1, p, f, j, h => by
    show dcm sn (p + 1) k _ j = _
    rw [dcm_at k (p + 1) _ j (by omega)]
    split
    · rfl
    · rw [pk_un (by omega)]
theorem dcm_in {sn : Int32} : ∀ (k p : Nat) (f : Nat → Int32) (j : Nat), p ≤ j → j < p + k → dcm sn p k f j = (if sit f sn j = true then f j else f j - 1)
  | 0, _, _, _, _, _ => by omega
  | k + 1, p, f, j, h1, h2 => by
    show dcm sn (p + 1) k _ j = _
    by_cases h : j = p
    · subst h
      rw [dcm_at k (j + 1) _ j (by omega)]
      split
      · rfl
      · rw [pk_us]
    · rw [dcm_in k (p + 1) _ j (by omega) (by omega)]
      have e : (if sit f sn p = true then f else upd f p (f p - 1)) j = f j := by
        split
        · rfl
        · rw [pk_un h]
      rw [sit_c e, e]
/-- the reference's end of an hour is the class's -/
theorem dcm_dcr (h : wfV P s) : eqR P (dcm s.2.2.1 0 P s.1) (dcr 0 P s.1) := by
  intro p hp
  obtain ⟨c, hc, e1, e2⟩ := h p hp
  rw [dcm_in P 0 _ p (by omega) (by omega), dcr_in P 0 _ p (by omega) (by omega)]
  rw [show (if 0 < s.1 p - 1 then s.1 p - 1 else 0) = nI (c - 1) by rw [e1]; exact dc1 hc]
  cases hs : sit s.1 s.2.2.1 p with
  | true =>
    rw [if_pos rfl]
    simp only [sit, Bool.or_eq_true, decide_eq_true_eq] at hs
    have : c = 0 := by
      rcases hs with h1 | h1
      · rw [e1, ← nI_0] at h1
        exact (nI_eq (by omega) (by omega)).mp h1
      · exact e2 h1
    subst this
    exact e1
  | false =>
    rw [if_neg (by simp)]
    simp only [sit, Bool.or_eq_false_iff, decide_eq_false_iff_not] at hs
    have : c ≠ 0 := by
      intro q
      subst q
      exact hs.1 e1
    rw [e1, show (1 : Int32) = nI 1 from rfl, pk_sub (by omega)]
theorem hr_wf {sp : Nat} (hP : P ≤ 6) (hsp : snap = nI sp) (hsp9 : sp ≤ 99) (h : wfV P s) : wfV P (hr LW ki kn at_ P so snap s) := by
  have h1 := otr_wf (LW := LW) (ki := ki) (kn := kn) (at_ := at_) (so := so) hP hsp hsp9 P 0 s (by omega) h
  intro p hp
  obtain ⟨c, hc, e1, e2⟩ := h1 p hp
  refine ⟨c - 1, by omega, ?_, fun q => by have := e2 q; omega⟩
  show dcr 0 P _ p = _
  rw [dcr_in P 0 _ p (by omega) (by omega), e1, dc1 hc]
theorem hrm_c {sp : Nat} (hP : P ≤ 6) (hsp : snap = nI sp) (hsp9 : sp ≤ 99) (hw : wfV P s) (h : eqV P e s t) (hki : eqR P ki ki2) (hkn : eqR P kn kn2) (hat : eqR P at_ at2) : eqV P e (hrm LW ki kn at_ P so snap s) (hr LW ki2 kn2 at2 P so snap t) := by
  have h0 := hr_c (LW := LW) (so := so) (snap := snap) hP h hki hkn hat
  have h1 := dcm_dcr (otr_wf (LW := LW) (ki := ki) (kn := kn) (at_ := at_) (so := so) hP hsp hsp9 P 0 s (by omega) hw)
  exact ⟨fun p hp => (h1 p hp).trans (h0.1 p hp), h0.2⟩
theorem wfV_c (h : eqV P e s t) (hw : wfV P t) : wfV P s := by
  intro p hp
  obtain ⟨c, hc, e1, e2⟩ := hw p hp
  exact ⟨c, hc, by rw [h.1 p hp, e1], by rw [h.2.2.1]; exact e2⟩
end EQ
