/-! SOUNDNESS IV: new cells, and the rest of the steps -/
def csz (k : Nat) : Nat := if (kt k).1 = 0 then (kt k).2.2.length else (kt k).2.1
/-- the slots of the first t cells -/
def slt (t : Nat) : Nat := ((cord.take t).map fun x => csz x.1).sum
theorem slt_succ {t k n : Nat} (h : cord[t]? = some (k, n)) : slt (t + 1) = slt t + csz k := by
  obtain ⟨hl, e⟩ := List.getElem?_eq_some_iff.mp h
  unfold slt
  rw [List.take_succ_eq_append_getElem hl, e]
  simp
theorem slt_mono {a b : Nat} (h : a ≤ b) : slt a ≤ slt b := by
  induction b with
  | zero =>
    have h2 : a = 0 := by omega
    rw [h2]
    exact Nat.le_refl _
  | succ b ih =>
    by_cases hb : a = b + 1
    · rw [hb]
      exact Nat.le_refl _
    · refine Nat.le_trans (ih (by omega)) ?_
      cases hc : cord[b]? with
      | some x =>
        obtain ⟨k, n⟩ := x
        rw [slt_succ hc]
        omega
      | none =>
        have hl : cord.length ≤ b := by simpa using hc
        unfold slt
        rw [List.take_of_length_le hl, List.take_of_length_le (by omega)]
        exact Nat.le_refl _
theorem alc_spec {k : Nat} {h h1 : HS} (hg : alc k h = some h1) : cord[h.1.1]? = some (k, h.1.2 k) ∧ h1 = ((h.1.1 + 1, uC h.1.2 k (h.1.2 k + 1)), zF h.2.1 k (h.1.2 k), zG h.2.2.1 k (h.1.2 k), zR h.2.2.2 k (h.1.2 k)) := by
  unfold alc at hg
  split at hg
  · rename_i hc
    exact ⟨hc, (Option.some.inj hg).symm⟩
  · cases hg
theorem alc_ent {X : CX} {k : Nat} {h h1 : HS} (hg : alc k h = some h1) {k' n' : Nat} (hne : ¬ (k' = k ∧ n' = h.1.2 k)) : ent X h1 k' n' = ent X h k' n' := by
  obtain ⟨-, rfl⟩ := alc_spec hg
  have e1 : zF h.2.1 k (h.1.2 k) k' n' = h.2.1 k' n' := by funext j; simp only [zF]; rw [if_neg hne]
  have e2 : zG h.2.2.1 k (h.1.2 k) k' n' = h.2.2.1 k' n' := by funext j; simp only [zG]; rw [if_neg hne]
  have e3 : zR h.2.2.2 k (h.1.2 k) k' n' = h.2.2.2 k' n' := by funext j; simp only [zR]; rw [if_neg hne]
  have e4 : fvl X ((h.1.1 + 1, uC h.1.2 k (h.1.2 k + 1)), zF h.2.1 k (h.1.2 k), zG h.2.2.1 k (h.1.2 k), zR h.2.2.2 k (h.1.2 k)) k' n' = fvl X h k' n' := by
    funext j
    simp only [fvl, e1, e2, e3]
  simp only [ent, e1, e2, e3, e4]
theorem alc_wsl {X : CX} {k : Nat} {h h1 : HS} (ha : aok h) (hg : alc k h = some h1) : wsl X h1 = wsl X h ++ [(xz X + h.1.1, ent X h1 k (h.1.2 k))] := by
  obtain ⟨hc, he⟩ := alc_spec hg
  have h11 : h1.1.1 = h.1.1 + 1 := by rw [he]
  unfold wsl
  rw [h11, List.range_succ, List.map_append]
  congr 1
  · apply List.map_congr_left
    intro i hi
    have hi : i < h.1.1 := List.mem_range.mp hi
    rw [alc_ent hg]
    intro hkn
    have h2 := ckd_inj (Nat.lt_of_lt_of_le hi ha.1) hc (Prod.ext hkn.1 hkn.2)
    omega
  · simp [ckd_at hc]
theorem alc_aok {k : Nat} {h h1 : HS} (ha : aok h) (hg : alc k h = some h1) : aok h1 := by
  obtain ⟨hc, he⟩ := alc_spec hg
  have hlt : h.1.1 < cord.length := (List.getElem?_eq_some_iff.mp hc).1
  have hNN : cord.length = NN := rfl
  rw [he]
  refine ⟨by show h.1.1 + 1 ≤ NN; omega, fun k' n' hk' hn' => ?_⟩
  simp only [uC] at hn'
  by_cases hkk : k' = k
  · rw [if_pos hkk] at hn'
    subst hkk
    by_cases hnn : n' = h.1.2 k'
    · subst hnn
      exact ⟨h.1.1, Nat.lt_succ_self _, hc⟩
    · obtain ⟨i, hi, hci⟩ := ha.2 k' n' hk' (by omega)
      exact ⟨i, Nat.lt_succ_of_lt hi, hci⟩
  · rw [if_neg hkk] at hn'
    obtain ⟨i, hi, hci⟩ := ha.2 k' n' hk' hn'
    exact ⟨i, Nat.lt_succ_of_lt hi, hci⟩
section SN
variable {p : Program} {l : Launch} {e : Env} {R : Room} {s : State} {m : MethodId} {args : Array Value} {below : List Frame} {meth : Method} {c : Code} {H : Heap} {locs : List Loc} {cells slots : Nat} {Q : State → Prop}
variable {cc : ByteArray} {pc : Nat} {ls : Array Slot} {rest : List Value} {X : CX} {Ls : Nat} {xs : Nat → Int32} {h h1 : HS} {o : Nat}
theorem W.sz {g : JFrame} (k : H.size ≤ s.heap.size + cells → W p l e R s m args below meth c H locs cells slots Q g) : W p l e R s m args below meth c H locs cells slots Q g :=
  fun T hT Y => k (by rw [← hT]; exact Y.same.2.2.1) T hT Y
/-- a new cell's address -/
theorem new_at {k n q : Nat} {en : va_E} {H1 : Heap} (ha : aok h) (hc : cord[h.1.1]? = some (k, n)) (hz : h.1.1 < NN → s.heap.size + cells = xz X + h.1.1) (hP : va_P (xD X) vwCl (wsl X h ++ [(q, en)]) H1) (hD : va_D (xA X) (wsl X h ++ [(q, en)])) (hle : H1.size ≤ s.heap.size + (cells + 1)) : q = xz X + h.1.1 := by
  have hlen : (wsl X h).length = h.1.1 := by simp [wsl]
  have hq : (wsl X h ++ [(q, en)])[h.1.1]? = some (q, en) := by rw [List.getElem?_append_right (by omega)]; simp [hlen]
  have hlt : q < H1.size := (hP _ _ hq).lt
  have hge : xz X ≤ q := hD.2 _ _ hq
  have hNN : h.1.1 < NN := (List.getElem?_eq_some_iff.mp hc).1
  have hs := hz hNN
  by_cases he : q = xz X + h.1.1
  · exact he
  · have hi : q - xz X < h.1.1 := by omega
    have h2 : (wsl X h ++ [(q, en)])[q - xz X]? = some (xz X + (q - xz X), ent X h (ckd (q - xz X)).1 (ckd (q - xz X)).2) := by
      rw [List.getElem?_append_left (by omega)]
      simp [wsl, List.getElem?_map, List.getElem?_range hi]
    have h3 := hD.1 _ _ _ _ h2 hq (by simp; omega)
    omega
end SN
