theorem t_dr11111110 {E : EV} {d m pc : Nat} {st : List PV} {C : CT} {F : FT} {G : GT} {R : RT} {r : Option PV} {t : HS} {a0 a1 a2 a3 a4 a5 a6 a7 : Option PV} (kk : Tm E d m pc [a0, a1, a2, a3, a4, a5, a6, none] st C F G R r t) : Tm E d m pc [a0, a1, a2, a3, a4, a5, a6, a7] st C F G R r t := t_le (by simp [leL]) kk
theorem nI_m1 {h : Nat} (hh : 0 < h) : nI h - 1 = nI (h - 1) := by
  obtain ⟨k, rfl⟩ : ∃ k, h = k + 1 := ⟨h - 1, by omega⟩
  exact nI_pred k
theorem nI_p1 {h : Nat} (hh : 0 < h) : nI h + (-1) = nI (h - 1) := by
  obtain ⟨k, rfl⟩ : ∃ k, h = k + 1 := ⟨h - 1, by omega⟩
  exact pk_m1 k
theorem srow_at (F : FT) (k n j : Nat) (f : Nat → Int32) : srow F k n f k n j = f j := by simp [srow]
section L2
variable {E : EV} {d x l i h N : Nat} {F : FT} {G : GT} {b : Bool} {gg t m w : Int32} {vs : Nat → Int32} {r : Option PV} {tt : HS}
theorem lw_pushN (hl : l < 2) (hN : F 9 l 13 = nI N) (hN1 : N ≤ 1000) (hi : i < N) (hd : 1 ≤ d) (h1 : ¬ F 17 l i < -4) (h2 : h < 32) (h0 : ¬ F 17 l i < 0) (kk : Tm E d 7 18 [some (vr 9 l), some (vi gg), some (vi t), some (vi m), some (vi w), some (vi (nI (h + 1))), some (vi (nI (i + 1))), none] [] (cC x) (srow F 18 l (upd vs h (F 17 l i))) G (Rs b) r tt) : Tm E d 7 18 [some (vr 9 l), some (vi gg), some (vi t), some (vi m), some (vi w), some (vi (nI h)), some (vi (nI i)), none] [] (cC x) (srow F 18 l vs) G (Rs b) r tt := by
  refine t_run 2 rfl ?_
  refine t_gI k7_21 (by first | assumption | exact Nat.le_of_ble_eq_true rfl | omega) ⟨rfl, rfl, Or.inl rfl⟩ ?_
  refine t_ic_ge k7_24 (fun h24 => ?_) (fun h24 => ?_)
  · exact absurd (ge_nI h24 hN (by omega) (by omega)) (by omega)
  · refine t_run 1 rfl ?_
    refine t_gR k7_28 (by first | assumption | exact Nat.le_of_ble_eq_true rfl | omega) ⟨rfl, rfl, rfl⟩ rfl ?_
    refine t_run 1 rfl ?_
    refine t_ia (N := 1000) k7_33 (by decide) (by first | assumption | exact Nat.le_of_ble_eq_true rfl | omega) ⟨⟨rfl, rfl⟩, rfl, rfl⟩ (by first | assumption | omega) rfl ?_
    refine t_run 3 rfl ?_
    refine t_ic_lt k7_40 (fun h40 => ?_) (fun h40 => ?_)
    · exact absurd h40 h1
    · refine t_run 2 rfl ?_
      refine t_ic_ge k7_47 (fun h47 => ?_) (fun h47 => ?_)
      · exact absurd (ge_nI h47 (b := 32) rfl (by omega) (by omega)) (by omega)
      · refine t_run 1 rfl ?_
        refine t_gR k7_51 (by first | assumption | exact Nat.le_of_ble_eq_true rfl | omega) ⟨rfl, rfl, rfl⟩ rfl ?_
        refine t_run 2 rfl ?_
        refine t_if_lt k7_58 (fun h58 => ?_) (fun h58 => ?_)
        · exact absurd h58 h0
        · refine t_run 2 rfl ?_
          refine t_is (N := 32) k7_76 (by first | assumption | exact Nat.le_of_ble_eq_true rfl | omega) ⟨rfl, rfl⟩ (by first | assumption | omega) rfl ?_
          refine t_run 4 rfl ?_
          refine t_dr11111110 ?_
          rw [← srow_u, ← nI_1, ← nI_1] at kk
          exact kk
theorem lw_pushF (hl : l < 2) (hN : F 9 l 13 = nI N) (hN1 : N ≤ 1000) (hi : i < N) (hd : 1 ≤ d) (h1 : ¬ F 17 l i < -4) (h2 : h < 32) (h0 : F 17 l i < 0) (kk : Tm E d 7 18 [some (vr 9 l), some (vi gg), some (vi t), some (vi m), some (vi w), some (vi (nI (h + 1))), some (vi (nI (i + 1))), none] [] (cC x) (srow F 18 l (upd vs h (fct (F 17 l i) gg t m w))) G (Rs b) r tt) : Tm E d 7 18 [some (vr 9 l), some (vi gg), some (vi t), some (vi m), some (vi w), some (vi (nI h)), some (vi (nI i)), none] [] (cC x) (srow F 18 l vs) G (Rs b) r tt := by
  refine t_run 2 rfl ?_
  refine t_gI k7_21 (by first | assumption | exact Nat.le_of_ble_eq_true rfl | omega) ⟨rfl, rfl, Or.inl rfl⟩ ?_
  refine t_ic_ge k7_24 (fun h24 => ?_) (fun h24 => ?_)
  · exact absurd (ge_nI h24 hN (by omega) (by omega)) (by omega)
  · refine t_run 1 rfl ?_
    refine t_gR k7_28 (by first | assumption | exact Nat.le_of_ble_eq_true rfl | omega) ⟨rfl, rfl, rfl⟩ rfl ?_
    refine t_run 1 rfl ?_
    refine t_ia (N := 1000) k7_33 (by decide) (by first | assumption | exact Nat.le_of_ble_eq_true rfl | omega) ⟨⟨rfl, rfl⟩, rfl, rfl⟩ (by first | assumption | omega) rfl ?_
    refine t_run 3 rfl ?_
    refine t_ic_lt k7_40 (fun h40 => ?_) (fun h40 => ?_)
    · exact absurd h40 h1
    · refine t_run 2 rfl ?_
      refine t_ic_ge k7_47 (fun h47 => ?_) (fun h47 => ?_)
      · exact absurd (ge_nI h47 (b := 32) rfl (by omega) (by omega)) (by omega)
      · refine t_run 1 rfl ?_
        refine t_gR k7_51 (by first | assumption | exact Nat.le_of_ble_eq_true rfl | omega) ⟨rfl, rfl, rfl⟩ rfl ?_
        refine t_run 2 rfl ?_
        refine t_if_lt k7_58 (fun h58 => ?_) (fun h58 => ?_)
        · refine t_run 5 rfl ?_
          refine t_call 5 k7_73 (by omega) (Nat.le_of_ble_eq_true rfl) rfl (Nat.le_of_ble_eq_true rfl) (Nat.le_of_ble_eq_true rfl) recv_st rfl c_fct rfl ?_
          refine t_is (N := 32) k7_76 (by first | assumption | exact Nat.le_of_ble_eq_true rfl | omega) ⟨rfl, rfl⟩ (by first | assumption | omega) rfl ?_
          refine t_run 4 rfl ?_
          refine t_dr11111110 ?_
          rw [← srow_u, ← nI_1, ← nI_1] at kk
          exact kk
        · exact absurd h0 h58
theorem lw_not (hl : l < 2) (hN : F 9 l 13 = nI N) (hN1 : N ≤ 1000) (hi : i < N) (hd : 1 ≤ d) (h1 : F 17 l i = -5) (h2 : 0 < h) (h3 : h ≤ 32) (kk : Tm E d 7 18 [some (vr 9 l), some (vi gg), some (vi t), some (vi m), some (vi w), some (vi (nI (h))), some (vi (nI (i + 1))), none] [] (cC x) (srow F 18 l (upd vs (h - 1) (if vs (h - 1) = 0 then 1 else 0))) G (Rs b) r tt) : Tm E d 7 18 [some (vr 9 l), some (vi gg), some (vi t), some (vi m), some (vi w), some (vi (nI h)), some (vi (nI i)), none] [] (cC x) (srow F 18 l vs) G (Rs b) r tt := by
  refine t_run 2 rfl ?_
  refine t_gI k7_21 (by first | assumption | exact Nat.le_of_ble_eq_true rfl | omega) ⟨rfl, rfl, Or.inl rfl⟩ ?_
  refine t_ic_ge k7_24 (fun h24 => ?_) (fun h24 => ?_)
  · exact absurd (ge_nI h24 hN (by omega) (by omega)) (by omega)
  · refine t_run 1 rfl ?_
    refine t_gR k7_28 (by first | assumption | exact Nat.le_of_ble_eq_true rfl | omega) ⟨rfl, rfl, rfl⟩ rfl ?_
    refine t_run 1 rfl ?_
    refine t_ia (N := 1000) k7_33 (by decide) (by first | assumption | exact Nat.le_of_ble_eq_true rfl | omega) ⟨⟨rfl, rfl⟩, rfl, rfl⟩ (by first | assumption | omega) rfl ?_
    refine t_run 3 rfl ?_
    refine t_ic_lt k7_40 (fun h40 => ?_) (fun h40 => ?_)
    · refine t_run 2 rfl ?_
      refine t_ic_ne k7_87 (fun h87 => ?_) (fun h87 => ?_)
      · exact absurd h1 h87
      · refine t_run 1 rfl ?_
        refine t_if_le k7_92 (fun h92 => ?_) (fun h92 => ?_)
        · exact absurd (ge_nI (b := h) (a := 0) h92 rfl (by omega) (by omega)) (by omega)
        · refine t_run 1 rfl ?_
          refine t_gR k7_96 (by first | assumption | exact Nat.le_of_ble_eq_true rfl | omega) ⟨rfl, rfl, rfl⟩ rfl ?_
          refine t_run 4 rfl ?_
          refine t_gR k7_104 (by first | assumption | exact Nat.le_of_ble_eq_true rfl | omega) ⟨rfl, rfl, rfl⟩ rfl ?_
          refine t_run 3 rfl ?_
          refine t_ia (N := 32) k7_111 (by decide) (by first | assumption | exact Nat.le_of_ble_eq_true rfl | omega) ⟨⟨rfl, rfl⟩, rfl, rfl⟩ (by omega) (nI_m1 h2) ?_
          refine t_if_ne k7_112 (fun h112 => ?_) (fun h112 => ?_)
          · rw [srow_at] at h112
            rw [if_neg h112] at kk
            refine t_run 1 rfl ?_
            refine t_is (N := 32) k7_120 (by first | assumption | exact Nat.le_of_ble_eq_true rfl | omega) ⟨rfl, rfl⟩ (by omega) (nI_m1 h2) ?_
            refine t_run 3 rfl ?_
            refine t_dr11111110 ?_
            rw [← srow_u, ← nI_1] at kk
            exact kk
          · rw [srow_at] at h112
            rw [if_pos h112] at kk
            refine t_run 2 rfl ?_
            refine t_is (N := 32) k7_120 (by first | assumption | exact Nat.le_of_ble_eq_true rfl | omega) ⟨rfl, rfl⟩ (by omega) (nI_m1 h2) ?_
            refine t_run 3 rfl ?_
            refine t_dr11111110 ?_
            rw [← srow_u, ← nI_1] at kk
            exact kk
    · exact absurd (by show F 17 l i < -4; rw [h1]; decide) h40
theorem lw_join (hl : l < 2) (hN : F 9 l 13 = nI N) (hN1 : N ≤ 1000) (hi : i < N) (hd : 1 ≤ d) (h1 : F 17 l i < -5) (h2 : 1 < h) (h3 : h ≤ 32) (kk : Tm E d 7 18 [some (vr 9 l), some (vi gg), some (vi t), some (vi m), some (vi w), some (vi (nI (h - 1))), some (vi (nI (i + 1))), none] [] (cC x) (srow F 18 l (upd vs (h - 2) (jnd (F 17 l i) (vs (h - 2)) (vs (h - 1))))) G (Rs b) r tt) : Tm E d 7 18 [some (vr 9 l), some (vi gg), some (vi t), some (vi m), some (vi w), some (vi (nI h)), some (vi (nI i)), none] [] (cC x) (srow F 18 l vs) G (Rs b) r tt := by
  refine t_run 2 rfl ?_
  refine t_gI k7_21 (by first | assumption | exact Nat.le_of_ble_eq_true rfl | omega) ⟨rfl, rfl, Or.inl rfl⟩ ?_
  refine t_ic_ge k7_24 (fun h24 => ?_) (fun h24 => ?_)
  · exact absurd (ge_nI h24 hN (by omega) (by omega)) (by omega)
  · refine t_run 1 rfl ?_
    refine t_gR k7_28 (by first | assumption | exact Nat.le_of_ble_eq_true rfl | omega) ⟨rfl, rfl, rfl⟩ rfl ?_
    refine t_run 1 rfl ?_
    refine t_ia (N := 1000) k7_33 (by decide) (by first | assumption | exact Nat.le_of_ble_eq_true rfl | omega) ⟨⟨rfl, rfl⟩, rfl, rfl⟩ (by first | assumption | omega) rfl ?_
    refine t_run 3 rfl ?_
    refine t_ic_lt k7_40 (fun h40 => ?_) (fun h40 => ?_)
    · refine t_run 2 rfl ?_
      refine t_ic_ne k7_87 (fun h87 => ?_) (fun h87 => ?_)
      · refine t_run 2 rfl ?_
        refine t_ic_ge k7_128 (fun h128 => ?_) (fun h128 => ?_)
        · exact absurd h1 (Int32.not_lt.mpr h128)
        · refine t_run 2 rfl ?_
          refine t_ic_le k7_134 (fun h134 => ?_) (fun h134 => ?_)
          · exact absurd (ge_nI (b := h) (a := 1) h134 rfl (by omega) (by omega)) (by omega)
          · refine t_run 2 rfl ?_
            refine t_gR k7_141 (by first | assumption | exact Nat.le_of_ble_eq_true rfl | omega) ⟨rfl, rfl, rfl⟩ rfl ?_
            refine t_run 5 rfl ?_
            refine t_gR k7_151 (by first | assumption | exact Nat.le_of_ble_eq_true rfl | omega) ⟨rfl, rfl, rfl⟩ rfl ?_
            refine t_run 3 rfl ?_
            refine t_ia (N := 32) (j := h - 2) k7_158 (by decide) (by first | assumption | exact Nat.le_of_ble_eq_true rfl | omega) ⟨⟨rfl, rfl⟩, rfl, rfl⟩ (by omega) (by show nI h + (-1) - 1 = _; rw [nI_p1 (by omega), nI_m1 (by omega)]; rfl) ?_
            refine t_run 1 rfl ?_
            refine t_gR k7_160 (by first | assumption | exact Nat.le_of_ble_eq_true rfl | omega) ⟨rfl, rfl, rfl⟩ rfl ?_
            refine t_run 1 rfl ?_
            refine t_ia (N := 32) k7_165 (by decide) (by first | assumption | exact Nat.le_of_ble_eq_true rfl | omega) ⟨⟨rfl, rfl⟩, rfl, rfl⟩ (by omega) (nI_p1 (by omega)) ?_
            refine t_call 3 k7_166 (by omega) (Nat.le_of_ble_eq_true rfl) rfl (Nat.le_of_ble_eq_true rfl) (Nat.le_of_ble_eq_true rfl) recv_st rfl c_jnd rfl ?_
            refine t_is (N := 32) (j := h - 2) k7_169 (by first | assumption | exact Nat.le_of_ble_eq_true rfl | omega) ⟨rfl, rfl⟩ (by omega) (by show nI h + (-1) - 1 = _; rw [nI_p1 (by omega), nI_m1 (by omega)]; rfl) ?_
            refine t_run 2 rfl ?_
            refine t_dr11111110 ?_
            rw [← srow_u, ← nI_1, ← nI_p1 (by omega)] at kk
            simp only [srow_at]
            exact kk
      · exact absurd (show F 17 l i < -5 from h1) (by rw [show F 17 l i = -5 from h87]; decide)
    · exact absurd (by show F 17 l i < -4; exact Int32.lt_trans h1 (by decide)) h40
/-- how many wait -/
def lhg (cs : Nat → Int32) : Nat → Nat
  | 0 => 0
  | k + 1 => if -4 ≤ cs k ∧ lhg cs k < 32 then lhg cs k + 1 else if cs k = -5 ∧ 0 < lhg cs k then lhg cs k else if cs k < -5 ∧ 1 < lhg cs k then lhg cs k - 1 else lhg cs k
theorem lrn_h {cs : Nat → Int32} {v0 : Nat → Int32} : ∀ k, (lrn cs gg t m w v0 k).1 = lhg cs k
  | 0 => rfl
  | k + 1 => by
    have ih := lrn_h (cs := cs) (v0 := v0) k
    simp only [lrn, lst, lhg, ih]
    split
    · rfl
    · split
      · rfl
      · split
        · rfl
        · exact ih
/-- codes that can be worked -/
def lok (cs : Nat → Int32) (N : Nat) : Prop := ∀ i, i < N → (¬ cs i < -4 ∧ lhg cs i < 32) ∨ (cs i = -5 ∧ 0 < lhg cs i) ∨ (cs i < -5 ∧ 1 < lhg cs i)
theorem l_law (hl : l < 2) (hN : F 9 l 13 = nI N) (hN1 : N ≤ 1000) (hd : 1 ≤ d) (hok : lok (F 17 l) N) : ∀ (r i : Nat), i ≤ N → N < i + r → Tm E d 7 18 [some (vr 9 l), some (vi gg), some (vi t), some (vi m), some (vi w), some (vi (nI (lrn (F 17 l) gg t m w (F 18 l) i).1)), some (vi (nI i)), none] [] (cC x) (srow F 18 l (lrn (F 17 l) gg t m w (F 18 l) i).2) G (Rs b) (some (vi ((lrn (F 17 l) gg t m w (F 18 l) N).2 0))) (cC x, lrow F l N gg t m w, G, Rs b) := by
  intro r
  induction r with
  | zero => intros; omega
  | succ r ih =>
    intro i hi hr
    by_cases hiN : i = N
    · subst hiN
      refine t_run 2 rfl ?_
      refine t_gI k7_21 (by first | assumption | exact Nat.le_of_ble_eq_true rfl | omega) ⟨rfl, rfl, Or.inl rfl⟩ ?_
      refine t_ic_ge k7_24 (fun h24 => ?_) (fun h24 => ?_)
      · refine t_run 1 rfl ?_
        refine t_gR k7_177 (by first | assumption | exact Nat.le_of_ble_eq_true rfl | omega) ⟨rfl, rfl, rfl⟩ rfl ?_
        refine t_run 1 rfl ?_
        refine t_ia (N := 32) (j := 0) k7_181 (by decide) (by first | assumption | exact Nat.le_of_ble_eq_true rfl | omega) ⟨⟨rfl, rfl⟩, rfl, rfl⟩ (by decide) rfl ?_
        exact t_ir k7_182 rfl (by rw [srow_at])
      · exact absurd (lt_nI h24 hN (by omega) (by omega)) (by omega)
    · have hi : i < N := by omega
      have k1 := ih (i + 1) (by omega) (by omega)
      have hh := lrn_h (cs := F 17 l) (v0 := F 18 l) (gg := gg) (t := t) (m := m) (w := w) i
      have h32 := lrn_le (cs := F 17 l) (v0 := F 18 l) (g := gg) (t := t) (m := m) (w := w) i
      have h3 := hok i hi
      rw [← hh] at h3
      rcases h3 with ⟨h1, h2⟩ | ⟨h1, h2⟩ | ⟨h1, h2⟩
      · have h4 : -4 ≤ F 17 l i := Int32.not_lt.mp h1
        by_cases h0 : F 17 l i < 0
        · refine lw_pushF hl hN hN1 hi hd h1 h2 h0 ?_
          simp only [lrn, lst, if_pos (And.intro h4 h2), if_neg (Int32.not_le.mpr h0)] at k1
          exact k1
        · refine lw_pushN hl hN hN1 hi hd h1 h2 h0 ?_
          simp only [lrn, lst, if_pos (And.intro h4 h2), if_pos (Int32.not_lt.mp h0)] at k1
          exact k1
      · refine lw_not hl hN hN1 hi hd h1 h2 h32 ?_
        have h4 : ¬ (-4 ≤ F 17 l i ∧ (lrn (F 17 l) gg t m w (F 18 l) i).1 < 32) := fun q => absurd q.1 (by rw [h1]; decide)
        simp only [lrn, lst, if_neg h4, if_pos (And.intro h1 h2)] at k1
        exact k1
      · refine lw_join hl hN hN1 hi hd h1 h2 h32 ?_
        have h4 : ¬ (-4 ≤ F 17 l i ∧ (lrn (F 17 l) gg t m w (F 18 l) i).1 < 32) := fun q => absurd q.1 (Int32.not_le.mpr (Int32.lt_trans h1 (by decide)))
        have h5 : ¬ (F 17 l i = -5 ∧ 0 < (lrn (F 17 l) gg t m w (F 18 l) i).1) := fun q => absurd h1 (by rw [q.1]; decide)
        simp only [lrn, lst, if_neg h4, if_neg h5, if_pos (And.intro h1 h2)] at k1
        exact k1
theorem lrow_0 : lrow F l 0 gg t m w = F := srow_self F 18 l
theorem c_law (hl : l < 2) (hN : F 9 l 13 = nI N) (hN1 : N ≤ 1000) (hd : 1 ≤ d) (hok : lok (F 17 l) N) : Tm E d 7 0 [some (vr 9 l), some (vi gg), some (vi t), some (vi m), some (vi w), none, none, none] [] (cC x) F G (Rs b) (some (vi (lres (F 17 l) N gg t m w (F 18 l)))) (cC x, lrow F l N gg t m w, G, Rs b) := by
  refine t_run 1 rfl ?_
  refine t_gI k7_1 (by first | assumption | exact Nat.le_of_ble_eq_true rfl | omega) ⟨rfl, rfl, Or.inl rfl⟩ ?_
  refine t_if_ne k7_4 (fun h4 => ?_) (fun h4 => ?_)
  · have hN0 : ¬ N = 0 := fun e => h4 (by rw [hN, e]; rfl)
    unfold lres
    rw [if_neg hN0]
    refine t_run 4 rfl ?_
    have k1 := l_law (E := E) (x := x) (G := G) (b := b) (gg := gg) (t := t) (m := m) (w := w) hl hN hN1 hd hok (N + 1) 0 (by omega) (by omega)
    rw [show (lrn (F 17 l) gg t m w (F 18 l) 0).2 = F 18 l from rfl, srow_self] at k1
    exact k1
  · have hN0 : N = 0 := nI_inj (hN.symm.trans h4) (by omega) (by omega)
    subst hN0
    rw [lrow_0]
    refine t_run 3 rfl ?_
    exact t_ir k7_11 rfl (by rfl)
end L2
