/-! WHAT THE CODES TELL IS WORKED -/
theorem scr_55 {k : Nat} (h : scr k = false) : d55 k = false := by
  simp only [scr, Bool.and_eq_false_iff, decide_eq_false_iff_not] at h
  simp only [d55, Bool.and_eq_false_iff, decide_eq_false_iff_not]
  omega
theorem wk_ok {F : FT} {LW : LWT} (h : MLX F LW) : WKok F LW := by
  obtain ⟨fc, ⟨a1, a2, a3, a4⟩, ht⟩ := h
  rcases ht with ⟨e1, e2⟩ | ⟨t, n, p, r, b1, b2, b3, b4, b5⟩
  · subst e1
    refine Or.inl ⟨?_, e2⟩
    rw [a1, a2]
    decide
  · subst b4 b5
    have hl := ((rdL_fl n 0 0 0 _ r b1 b3).2.2.2 rfl).2
    have hl : 0 < r.2.2.2.length := hl
    refine Or.inr ⟨?_, fun E d x G b F1 hd e50 e51 e52 => ?_⟩
    · rw [a1, a2]
      intro e
      have := (nI_leI (a := r.2.2.2.length) (b := 0) (by omega) (by omega)).mp e
      omega
    · obtain ⟨F2, G2, tt, hG, hf⟩ := b_worked (E := E) (d := d) (x := x) (G := G) (b := b) (F1 := F1) hd (by rw [e50]; exact a1) (by rw [e51]; exact a2) a3 (fun i hi => by rw [e52]; exact a4 i hi) b3
      subst hG
      refine ⟨F2, ?_⟩
      rw [show (fun k n i => if scr k = true then F2 k n i else F1 k n i) = F2 by
        funext k n i
        by_cases e : scr k = true
        · rw [if_pos e]
        · rw [if_neg e, hf k (scr_55 (by rwa [Bool.not_eq_true] at e))]]
      exact tt
section TO
variable {E : EV} {d x : Nat} {F : FT} {G : GT} {b : Bool} {o : SG}
theorem e_land (h : MI2 F G o) (hw : WF o) (hd : 100 ≤ d) : Td E d 173 0 [some (vr 40 0), none] [] x F G b (some (vi (q_land o))) (MP2 (n_land o) F G) := m_land (fun _ _ => wk_ok) h hw hd
theorem MPost.p2 {o2 : SG} {F2 : FT} {G2 : GT} (h : MPost o2 F G F2 G2) (hX : MLX F (lW (gA o))) (e : lW (gA o2) = lW (gA o)) : MP2 o2 F G F2 G2 := by
  obtain ⟨h1, h2, h3⟩ := h
  have k : ∀ k, 50 ≤ k → k ≤ 52 → F2 k = F k := fun k a c => h2 k (by simp only [dMo, Bool.and_eq_false_iff, Bool.not_eq_false', Bool.and_eq_true, decide_eq_false_iff_not, decide_eq_true_eq]; omega)
  refine ⟨⟨h1, ?_⟩, fun k hk => h2 k ?_, fun k a _ _ => h3 k a⟩
  · rw [e]
    exact hX.fr (by rw [k 50 (by decide) (by decide)]) (by rw [k 51 (by decide) (by decide)]) (fun i _ => by rw [k 52 (by decide) (by decide)])
  · simp only [dM4, Bool.and_eq_false_iff, decide_eq_false_iff_not] at hk
    simp only [dMo, Bool.and_eq_false_iff, Bool.not_eq_false', Bool.and_eq_true, decide_eq_false_iff_not, decide_eq_true_eq]
    omega
end TO
