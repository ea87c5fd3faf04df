/-! THE WORLD: which heap holds the plain machine's cells -/
def tyl (X : CX) : List (ClassId × FieldType) := [(xc X 1, .int), (xc X 2, .char), (xc X 3, .boolean), (xc X 4, .long), (xc X 5, .object "StrangeWinding$Scene"), (xc X 6, .object "StrangeWinding$State")]
def fvl (X : CX) (h : HS) (k n j : Nat) : Value := match (kt k).2.2[j]? with
  | some (1, _) => .long (h.2.2.1 k n j)
  | some (2, rk) => va_rf ((h.2.2.2 k n j).map fun m => xz X + pos rk m)
  | _ => .int (h.2.1 k n j)
def rka (k : Nat) : Nat := match (kt k).2.2 with
  | [(_, rk)] => rk
  | _ => 0
def ent (X : CX) (h : HS) (k n : Nat) : va_E := match (kt k).1 with
  | 0 => .inr ((kt k).2.1, (List.range (kt k).2.2.length).map (fvl X h k n))
  | 1 => .inl (xc X 1, (kt k).2.1, .inl (h.2.1 k n))
  | 2 => .inl (xc X 2, (kt k).2.1, .inl (h.2.1 k n))
  | 3 => .inl (xc X 3, (kt k).2.1, .inl (h.2.1 k n))
  | 4 => .inl (xc X 4, (kt k).2.1, .inr (.inl (h.2.2.1 k n)))
  | _ => .inl (xc X (if rka k = 23 then 5 else 6), (kt k).2.1, .inr (.inr (.inr (.inr fun j => (h.2.2.2 k n j).map fun m => xz X + pos (rka k) m))))
def ckd (i : Nat) : Nat × Nat := cord.getD i (0, 0)
def wsl (X : CX) (h : HS) : va_W := (List.range h.1.1).map fun i => (xz X + i, ent X h (ckd i).1 (ckd i).2)
def aok (h : HS) : Prop := h.1.1 ≤ NN ∧ ∀ k n, k < 82 → n < h.1.2 k → ∃ i, i < h.1.1 ∧ cord[i]? = some (k, n)
def Rel (X : CX) (h : HS) (H : Heap) : Prop := va_P (xD X) vwCl (wsl X h) H ∧ aok h
abbrev xA (X : CX) : Nat → Prop := fun q => xz X ≤ q
theorem cord_nd : cord.Nodup := by decide +kernel
theorem cord_k : ∀ x ∈ cord, 0 < x.1 ∧ x.1 < 82 := by decide +kernel
theorem pos_at {i k n : Nat} (h : cord[i]? = some (k, n)) : pos k n = i := by
  obtain ⟨hi, e⟩ := List.getElem?_eq_some_iff.mp h
  unfold pos
  rw [← e]
  exact cord_nd.idxOf_getElem i hi
theorem ckd_at {i k n : Nat} (h : cord[i]? = some (k, n)) : ckd i = (k, n) := by simp [ckd, List.getD, h]
theorem ckd_inj {i j k n : Nat} (hi : i < NN) (h : cord[j]? = some (k, n)) (e : ckd i = (k, n)) : i = j := by
  have hl : i < cord.length := hi
  have h1 : cord[i]? = some (k, n) := by
    rw [List.getElem?_eq_getElem hl]
    rw [← e]
    simp [ckd, List.getD, List.getElem?_eq_getElem hl]
  exact (pos_at h1).symm.trans (pos_at h)
theorem trv_cell (X : CX) {k n : Nat} (h0 : 0 < k) (h1 : k < 82) : trv X (.inr (.inr (k, n))) = .ref (xz X + pos k n) := by
  simp only [trv]
  rw [if_neg (by omega), if_neg (by omega), if_neg (by omega), if_neg (by omega)]
theorem wsl_at {X : CX} {h : HS} {i k n : Nat} (hi : i < h.1.1) (hc : cord[i]? = some (k, n)) : (wsl X h)[i]? = some (xz X + i, ent X h k n) := by
  simp [wsl, List.getElem?_map, List.getElem?_range hi, ckd_at hc]
/-- what the tables of kinds say of an object -/
theorem kt_out {k : Nat} (h : ¬ k < 82) : kt k = (9, 0, []) := by
  have h2 : ktab.length ≤ k := by show 82 ≤ k; omega
  simp [kt, List.getD, List.getElem?_eq_none h2]
theorem kt_lt {k : Nat} (h : (kt k).1 < 9) : k < 82 := by
  apply Decidable.byContradiction
  intro hk
  rw [kt_out hk] at h
  exact absurd h (by decide)
theorem cell_at {X : CX} {h : HS} {k n : Nat} (ha : aok h) (hk : (kt k).1 < 9) (hn : n < h.1.2 k) : (0 < k ∧ k < 82) ∧ pos k n < h.1.1 ∧ cord[pos k n]? = some (k, n) ∧ (wsl X h)[pos k n]? = some (xz X + pos k n, ent X h k n) := by
  obtain ⟨i, hi, hc⟩ := ha.2 k n (kt_lt hk) hn
  have hp := pos_at hc
  rw [hp]
  exact ⟨cord_k _ (List.mem_of_getElem? hc), hi, hc, wsl_at hi hc⟩
theorem wsl_D {X : CX} {h : HS} : va_D (xA X) (wsl X h) := by
  refine ⟨fun i j x y hx hy e => ?_, fun k x hx => ?_⟩
  · simp only [wsl, List.getElem?_map, Option.map_eq_some_iff] at hx hy
    obtain ⟨a, ha, rfl⟩ := hx
    obtain ⟨b, hb, rfl⟩ := hy
    have ha := (List.getElem?_eq_some_iff.mp ha).2
    have hb := (List.getElem?_eq_some_iff.mp hb).2
    simp at ha hb e
    omega
  · simp only [wsl, List.getElem?_map, Option.map_eq_some_iff] at hx
    obtain ⟨a, ha, rfl⟩ := hx
    simp
theorem wsl_set {X : CX} {h h' : HS} {i k n : Nat} {e' : va_E} (ha : aok h) (hi : i < h.1.1) (hc : cord[i]? = some (k, n)) (ht : h'.1 = h.1) (he : ent X h' k n = e') (ho : ∀ k' n', ¬ (k' = k ∧ n' = n) → ent X h' k' n' = ent X h k' n') : (wsl X h).set i (xz X + i, e') = wsl X h' := by
  apply List.ext_getElem?
  intro j
  by_cases hij : i = j
  · subst hij
    rw [List.getElem?_set_self (by simp [wsl]; exact hi), wsl_at (h := h') (by rw [ht]; exact hi) hc, he]
  · rw [List.getElem?_set_ne hij]
    simp only [wsl, List.getElem?_map]
    rw [ht]
    by_cases hj : j < h.1.1
    · rw [List.getElem?_range hj]
      simp only [Option.map_some]
      rw [ho]
      intro hkn
      exact hij (ckd_inj (Nat.lt_of_lt_of_le hj ha.1) hc (Prod.ext hkn.1 hkn.2)).symm
    · rw [List.getElem?_eq_none (by simpa using hj)]
      rfl
/-- ints of one cell changed: the other cells are as they were -/
theorem ent_F {X : CX} {h : HS} {F : FT} {k n k' n' : Nat} (hF : ∀ k2 n2, ¬ (k2 = k ∧ n2 = n) → F k2 n2 = h.2.1 k2 n2) (hne : ¬ (k' = k ∧ n' = n)) : ent X (h.1, F, h.2.2.1, h.2.2.2) k' n' = ent X h k' n' := by
  have e := hF k' n' hne
  have e2 : fvl X (h.1, F, h.2.2.1, h.2.2.2) k' n' = fvl X h k' n' := by
    funext j
    simp only [fvl, e]
  simp only [ent, e, e2]
theorem ent_G {X : CX} {h : HS} {G : GT} {k n k' n' : Nat} (hG : ∀ k2 n2, ¬ (k2 = k ∧ n2 = n) → G k2 n2 = h.2.2.1 k2 n2) (hne : ¬ (k' = k ∧ n' = n)) : ent X (h.1, h.2.1, G, h.2.2.2) k' n' = ent X h k' n' := by
  have e := hG k' n' hne
  have e2 : fvl X (h.1, h.2.1, G, h.2.2.2) k' n' = fvl X h k' n' := by
    funext j
    simp only [fvl, e]
  simp only [ent, e, e2]
theorem ent_R {X : CX} {h : HS} {R : RT} {k n k' n' : Nat} (hR : ∀ k2 n2, ¬ (k2 = k ∧ n2 = n) → R k2 n2 = h.2.2.2 k2 n2) (hne : ¬ (k' = k ∧ n' = n)) : ent X (h.1, h.2.1, h.2.2.1, R) k' n' = ent X h k' n' := by
  have e := hR k' n' hne
  have e2 : fvl X (h.1, h.2.1, h.2.2.1, R) k' n' = fvl X h k' n' := by
    funext j
    simp only [fvl, e]
  simp only [ent, e, e2]
theorem uF_ne {F : FT} {k n i : Nat} {v : Int32} {k2 n2 : Nat} (h : ¬ (k2 = k ∧ n2 = n)) : uF F k n i v k2 n2 = F k2 n2 := by
  funext j
  simp only [uF]
  rw [if_neg (fun q => h ⟨q.1, q.2.1⟩)]
theorem uG_ne {F : GT} {k n i : Nat} {v : Int64} {k2 n2 : Nat} (h : ¬ (k2 = k ∧ n2 = n)) : uG F k n i v k2 n2 = F k2 n2 := by
  funext j
  simp only [uG]
  rw [if_neg (fun q => h ⟨q.1, q.2.1⟩)]
theorem uR_ne {F : RT} {k n i : Nat} {v : Option Nat} {k2 n2 : Nat} (h : ¬ (k2 = k ∧ n2 = n)) : uR F k n i v k2 n2 = F k2 n2 := by
  funext j
  simp only [uR]
  rw [if_neg (fun q => h ⟨q.1, q.2.1⟩)]
theorem cF_ne {F : FT} {k n a k3 n3 b m : Nat} {k2 n2 : Nat} (h : ¬ (k2 = k ∧ n2 = n)) : cF F k n a k3 n3 b m k2 n2 = F k2 n2 := by
  funext j
  simp only [cF]
  rw [if_neg h]
theorem uF_eq (F : FT) (k n i : Nat) (v : Int32) : uF F k n i v k n = upd (F k n) i v := by
  funext j
  simp [uF, upd]
theorem uG_eq (F : GT) (k n i : Nat) (v : Int64) : uG F k n i v k n = vp_updL (F k n) i v := by
  funext j
  simp [uG, vp_updL]
theorem uR_eq (F : RT) (k n i : Nat) (v : Option Nat) : uR F k n i v k n = va_up (F k n) i v := by
  funext j
  simp [uR, va_up]
theorem cF_eq (F : FT) (k n a k3 n3 b m : Nat) : cF F k n a k3 n3 b m k n = va_cpy (F k3 n3) (F k n) b a m := by
  funext j
  simp [cF]
def tyok (t : Nat × Nat) (ty : FieldType) : Bool := match t.1, ty with
  | 0, .int => true
  | 1, .long => true
  | 3, .boolean => true
  | 2, .object _ => decide (0 < t.2 ∧ t.2 < 82)
  | 2, .array _ => decide (0 < t.2 ∧ t.2 < 82)
  | _, _ => false
theorem kt_obj0 : ((List.range 82).all fun k => (kt k).1 != 0 || (match vwCl[(kt k).2.1]? with
  | some r => decide (r.2.2 = (kt k).2.2.length) && ((List.range r.2.2).all fun j => match (kt k).2.2[j]? with
    | some t => tyok t (vty (kt k).2.1 j)
    | none => false)
  | none => false)) = true := by decide +kernel
theorem kt_obj {k : Nat} (h : (kt k).1 = 0) : ∃ r : vw_C, vwCl[(kt k).2.1]? = some r ∧ r.2.2 = (kt k).2.2.length ∧ ∀ j t, (kt k).2.2[j]? = some t → tyok t (vty (kt k).2.1 j) = true := by
  have hk : k < 82 := by
    apply Decidable.byContradiction
    intro hk
    rw [kt_out hk] at h
    cases h
  have h1 := List.all_eq_true.mp kt_obj0 k (List.mem_range.mpr hk)
  rw [h] at h1
  simp only [bne_self_eq_false, Bool.false_or] at h1
  split at h1
  · rename_i r hr
    simp only [Bool.and_eq_true, decide_eq_true_eq] at h1
    refine ⟨r, hr, h1.1, fun j t ht => ?_⟩
    have hj : j < r.2.2 := by rw [h1.1]; exact (List.getElem?_eq_some_iff.mp ht).1
    have h2 := List.all_eq_true.mp h1.2 j (List.mem_range.mpr hj)
    rw [ht] at h2
    exact h2
  · cases h1
theorem ent_obj {X : CX} {h : HS} {k n : Nat} (hk : (kt k).1 = 0) : ent X h k n = .inr ((kt k).2.1, (List.range (kt k).2.2.length).map (fvl X h k n)) := by simp only [ent, hk]
