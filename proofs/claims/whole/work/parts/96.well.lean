/-! WHAT STANDS STANDS WELL -/
section TP
variable {o : SG} {u v : Int32}
theorem WF.set {s : ST} {ps : List ST} (h : WF o) (hs : wfS (gA o) s) (hp : ∀ q, q ∈ ps → wfS (gA o) q) (hl : ps.length ≤ 16) : WF (setS o s ps) := by
  obtain ⟨a1, a2, a3, a4, a5, a6⟩ := h
  exact ⟨a1, ⟨hs, a2.2⟩, a3, hp, hl, a6⟩
theorem WF.keep {s : ST} (h : WF o) (hs : wfS (gA o) s) : WF (keepS o s) := by
  refine h.set hs (fun q hq => ?_) (List.length_take_le _ _)
  have hq := List.mem_of_mem_take hq
  rcases List.mem_cons.mp hq with e | e
  · rw [e]; exact h.2.1.1
  · exact h.2.2.2.1 q e
theorem w_walk (h : WF o) : WF (n_walk o u v) := by
  unfold n_walk
  split
  · rename_i e
    simp only [g_walk, Bool.and_eq_true] at e
    have hS := h.1.1
    obtain ⟨q, hq, rfl⟩ := isN_ex e.1.2 (by omega)
    refine h.keep (wfS_wlk h.2.1.1 ?_)
    rw [ix_nI (by omega)]
    exact hq
  · exact h
theorem w_wind (h : WF o) : WF (n_wind o u v) := by
  unfold n_wind
  split
  · rename_i e
    simp only [g_wind, Bool.and_eq_true] at e
    have hP := h.1.2.1
    obtain ⟨p, q, hp, hq, _, rfl, rfl⟩ := isTwo_ex e.1 (by omega)
    have e2 := e.2
    rw [ix_nI (by omega), ix_nI (by omega)] at e2 ⊢
    refine h.keep (wfS_turn h.1 h.2.1.1 hp hq ?_)
    rw [cwd_mwdA] at e2
    simp only [Bool.and_eq_true, Bool.not_eq_true'] at e2
    exact e2.2.2
  · exact h
theorem w_mend (h : WF o) : WF (n_mend o u) := by
  unfold n_mend
  split
  · rename_i e
    simp only [g_mend, Bool.and_eq_true] at e
    have hP := h.1.2.1
    obtain ⟨q, hq, rfl⟩ := isN_ex e.1 (by omega)
    refine h.keep (wfS_rep h.1 h.2.1.1 ?_)
    rw [ix_nI (by omega)]
    exact hq
  · exact h
theorem w_hour (h : WF o) : WF (n_hour o) := h.keep (wfS_hour h.1 h.2.1.1)
theorem w_undo (h : WF o) : WF (n_undo o) := by
  unfold n_undo
  have h4 := h.2.2.2.1
  have h5 := h.2.2.2.2.1
  cases e : gP o with
  | nil => exact h
  | cons s ps =>
    rw [e] at h4 h5
    exact h.set (h4 s (List.mem_cons_self ..)) (fun q hq => h4 q (List.mem_cons_of_mem _ hq)) (by simp at h5; omega)
theorem w_mark (h : WF o) : WF (n_mark o u v) := by
  unfold n_mark
  split
  · rename_i e
    simp only [g_mark, Bool.and_eq_true, Bool.or_eq_true, decide_eq_true_eq] at e
    obtain ⟨a1, a2, a3, a4, a5, a6⟩ := h
    split
    · refine ⟨a1, a2, fun j hj e2 => ?_, a4, a5, a6⟩
      by_cases ej : j = ix u
      · show wfC (gA o) (updM (gM o) (ix u) (true, gC o) j).2
        simp only [updM, if_pos ej]
        exact a2
      · have e3 : (updM (gM o) (ix u) (true, gC o) j).1 = true := e2
        show wfC (gA o) (updM (gM o) (ix u) (true, gC o) j).2
        simp only [updM, if_neg ej] at e3 ⊢
        exact a3 j hj e3
    · rename_i hv
      have hw := e.1
      simp only [isW2, Bool.and_eq_true, decide_eq_true_eq] at hw
      obtain ⟨q, hq, rfl⟩ := isN_ex (u := u) (P := 4) (by simp only [isN, Bool.and_eq_true, decide_eq_true_eq]; exact ⟨hw.1, Int32.lt_of_le_of_lt hw.2 (by decide)⟩) (by decide)
      refine ⟨a1, ?_, a3, fun q hq => (by cases hq), Nat.zero_le _, a6⟩
      have e1 := e.2.resolve_left hv
      rw [ix_nI (by omega)] at e1
      show wfC (gA o) (gM o (ix (nI q))).2
      rw [ix_nI (by omega)]
      exact a3 q hq e1
  · exact h
theorem wf_psh {c : Nat} {t : TP} (h : wfTp t) : wfTp (pshT c t) := by
  unfold pshT
  split
  · rename_i e
    simp only [Bool.and_eq_true, decide_eq_true_eq, okc, Bool.or_eq_true] at e
    refine ⟨by show t.1 + 1 ≤ 1000; omega, fun i hi => ?_⟩
    have hi : i < t.1 + 1 := hi
    show ∃ c2, upd t.2 t.1 (nI c) i = nI c2 ∧ _
    by_cases ei : i = t.1
    · subst ei
      exact ⟨c, pk_us, e.1⟩
    · rw [pk_un ei]
      exact h.2 i (by omega)
  · exact h
theorem wf_land (h : WF o) : WF (n_land o) := by
  have ht := h.2.2.2.2.2.2
  have h0 : wfTp (0, (gT o).2) := ⟨Nat.zero_le _, fun i hi => absurd hi (Nat.not_lt_zero _)⟩
  unfold n_land
  cases e : ldL (gT o) 1000 (tB (gT o) 0) begB with
  | inl f =>
    obtain ⟨a1, a2, a3, a4, a5, a6, a7⟩ := h
    exact ⟨a1, a2, a3, a4, a5, a6, h0⟩
  | inr B =>
    have hB := (ldL_wf ht.1 1000 (tB (gT o) 0) begB B (tB_le (Nat.zero_le _)).2 beg_wf e).1
    have hA := wfL_of hB
    refine ⟨hA, ⟨wfS_beg hA, ⟨Nat.zero_le _, fun i hi => absurd hi (Nat.not_lt_zero _)⟩, fun p hp => Or.inl rfl⟩, fun j hj e2 => (by cases e2), fun q hq => (by cases hq), Nat.zero_le _, ⟨hB.2.2.1, hB.2.2.2.1⟩, h0⟩
theorem wf_week (h : WF o) : WF (n_week o) := by
  have ht := h.2.2.2.2.2.2
  have h0 : wfTp (0, (gT o).2) := ⟨Nat.zero_le _, fun i hi => absurd hi (Nat.not_lt_zero _)⟩
  have hw0 : wfK (gA o) w00 := ⟨by decide, fun i hi => absurd hi (by show ¬ i < 0; omega)⟩
  unfold n_week
  cases e : ldW (gT o) (gA o) (gN o) 1000 (tB (gT o) 0) w00 with
  | inl f =>
    obtain ⟨a1, a2, a3, a4, a5, a6, a7⟩ := h
    exact ⟨a1, a2, a3, a4, a5, a6, h0⟩
  | inr w =>
    have hw := ldW_wf 1000 (tB (gT o) 0) w00 w (tB_le (Nat.zero_le _)).2 hw0 e
    obtain ⟨a1, a2, a3, a4, a5, a6, a7⟩ := h
    exact ⟨a1, ⟨a2.1, hw, a2.2.2⟩, a3, a4, a5, a6, h0⟩
theorem w_tale (h : WF o) : WF (n_tale o u v) := by
  unfold n_tale
  split
  · rename_i e
    simp only [g_tale, Bool.and_eq_true] at e
    have hP := h.1.2.1
    obtain ⟨q, hq, rfl⟩ := isN_ex e.1 (by omega)
    obtain ⟨c, hc, rfl⟩ := isW2_ex (H := 99) e.2 ⟨by decide, rfl, by decide⟩
    obtain ⟨a1, a2, a3, a4, a5, a6⟩ := h
    refine ⟨a1, ⟨a2.1, a2.2.1, fun p hp => ?_⟩, a3, a4, a5, a6⟩
    show upd (gTl o) (ix (nI q)) (nI c) p = -1 ∨ (p < lP (gA o) ∧ ∃ c2, c2 ≤ 99 ∧ upd (gTl o) (ix (nI q)) (nI c) p = nI c2)
    rw [ix_nI (by omega)]
    by_cases ep : p = q
    · rw [ep, pk_us]
      exact Or.inr ⟨hq, c, hc, rfl⟩
    · rw [pk_un ep]
      exact a2.2.2 p hp
  · exact h
theorem wf_lp {w : Int64} : ∀ (k i : Nat) (t : TP), wfTp t → wfTp (lpN (fun j t => pshT (byt w j) t) i k t)
  | 0, _, _, h => h
  | k + 1, i, t, h => wf_lp k (i + 1) _ (wf_psh h)
theorem w_feed {a c e : Int64} (h : WF o) : WF (n_feed o a c e) := by
  obtain ⟨a1, a2, a3, a4, a5, a6, a7⟩ := h
  exact ⟨a1, a2, a3, a4, a5, a6, wf_lp _ _ _ (wf_lp _ _ _ (wf_lp _ _ _ a7))⟩
end TP
