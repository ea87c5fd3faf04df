/-! WEEKS READ; by the class; land() of the class -/
def verbN (t : TP) (p : Nat) : Int32 := if isWd t p 22 = true then 0 else if isWd t p 23 = true then 1 else if isWd t p 24 = true then 2 else if isWd t p 25 = true then 3 else -1
def addW (w : WK) (v a c : Int32) : WK := (w.1 + 1, fun r i => if i = w.1 then (if r = 0 then v else if r = 1 then a else c) else w.2 r i)
def fwP (A : LA) (nm : NMs) (w : List Nat) : Option Nat := findN nm.2 w 0 (lP A)
def fwS (A : LA) (nm : NMs) (w : List Nat) : Option Nat := findN nm.1 w 0 (lS A)
def stW (t : TP) (p : Nat) (A : LA) (nm : NMs) (w : WK) : Nat ⊕ (Nat × WK) :=
  if verbN t p = -1 then .inl (1 + 16 * p) else if 40 ≤ w.1 then .inl (5 + 16 * p) else if verbN t p = 3 then .inr (tN t p, addW w 3 0 0) else
  bnd (numH t (tN t p) (fwP A nm (tW t (tN t p)))) (fun a => if verbN t p = 2 then .inr (tN t (tN t p), addW w 2 (nI a) 0)
    else if verbN t p = 0 then bnd (numH t (tN t (tN t p)) (fwS A nm (tW t (tN t (tN t p))))) (fun c => .inr (tN t (tN t (tN t p)), addW w 0 (nI a) (nI c)))
    else bnd (numH t (tN t (tN t p)) (fwP A nm (tW t (tN t (tN t p))))) (fun c => if a = c then .inl (3 + 16 * tN t (tN t p)) else .inr (tN t (tN t (tN t p)), addW w 1 (nI a) (nI c))))
def oneW (t : TP) (p : Nat) (A : LA) (nm : NMs) (w : WK) : Nat ⊕ (Nat × WK) := bnd (stW t p A nm w) (fun q => bnd (pSign t q.1 59) (fun p2 => .inr (p2, q.2)))
def ldW (t : TP) (A : LA) (nm : NMs) : Nat → Nat → WK → Nat ⊕ WK
  | 0, _, w => .inr w
  | n + 1, p, w => if tK t p = 0 then .inr w else bnd (oneW t p A nm w) (fun q => ldW t A nm n q.1 q.2)
theorem verb_c {t : TP} {p : Nat} : verbN t p = 0 ∨ verbN t p = 1 ∨ verbN t p = 2 ∨ verbN t p = 3 ∨ verbN t p = -1 := by
  unfold verbN
  split
  · exact Or.inl rfl
  · split
    · exact Or.inr (Or.inl rfl)
    · split
      · exact Or.inr (Or.inr (Or.inl rfl))
      · split
        · exact Or.inr (Or.inr (Or.inr (Or.inl rfl)))
        · exact Or.inr (Or.inr (Or.inr (Or.inr rfl)))
theorem stW_go {t : TP} {p p2 : Nat} {A : LA} {nm : NMs} {w w2 : WK} (hp : p ≤ t.1) (hw : wfK A w) (h : stW t p A nm w = .inr (p2, w2)) : p ≤ p2 ∧ p2 ≤ t.1 ∧ wfK A w2 := by
  have h1 := tN_mo (t := t) (p := p) hp
  have h2 := tN_mo (t := t) (p := tN t p) h1.2
  have h3 := tN_mo (t := t) (p := tN t (tN t p)) h2.2
  have ad : ∀ (v a c : Int32), w.1 < 40 → ((v = 0 ∧ ∃ p q, p < lP A ∧ q < lS A ∧ a = nI p ∧ c = nI q) ∨ (v = 1 ∧ ∃ p q, p < lP A ∧ q < lP A ∧ p ≠ q ∧ a = nI p ∧ c = nI q) ∨ (v = 2 ∧ ∃ p, p < lP A ∧ a = nI p) ∨ v = 3) → wfK A (addW w v a c) := by
    intro v a c h40 hv
    refine ⟨by show w.1 + 1 ≤ 40; omega, fun i hi => ?_⟩
    have hi : i < w.1 + 1 := hi
    show ((if i = w.1 then (if 0 = 0 then v else if 0 = 1 then a else c) else w.2 0 i) = 0 ∧ ∃ p q, p < lP A ∧ q < lS A ∧ (if i = w.1 then (if 1 = 0 then v else if 1 = 1 then a else c) else w.2 1 i) = nI p ∧ (if i = w.1 then (if 2 = 0 then v else if 2 = 1 then a else c) else w.2 2 i) = nI q) ∨ ((if i = w.1 then (if 0 = 0 then v else if 0 = 1 then a else c) else w.2 0 i) = 1 ∧ ∃ p q, p < lP A ∧ q < lP A ∧ p ≠ q ∧ (if i = w.1 then (if 1 = 0 then v else if 1 = 1 then a else c) else w.2 1 i) = nI p ∧ (if i = w.1 then (if 2 = 0 then v else if 2 = 1 then a else c) else w.2 2 i) = nI q) ∨ ((if i = w.1 then (if 0 = 0 then v else if 0 = 1 then a else c) else w.2 0 i) = 2 ∧ ∃ p, p < lP A ∧ (if i = w.1 then (if 1 = 0 then v else if 1 = 1 then a else c) else w.2 1 i) = nI p) ∨ (if i = w.1 then (if 0 = 0 then v else if 0 = 1 then a else c) else w.2 0 i) = 3
    by_cases e : i = w.1
    · simp only [if_pos e]
      simpa using hv
    · simp only [if_neg e]
      exact hw.2 i (by omega)
  unfold stW at h
  split at h
  · cases h
  · split at h
    · cases h
    · rename_i hv h40
      split at h
      · cases h
        exact ⟨h1.1, h1.2, ad 3 0 0 (by omega) (Or.inr (Or.inr (Or.inr rfl)))⟩
      · obtain ⟨a, ea, h⟩ := bnd_r h
        have ha := (findN_lt _ _ (show findN nm.2 _ 0 (lP A) = some a from (numH_r ea).2)).2
        split at h
        · cases h
          exact ⟨by omega, h2.2, ad 2 (nI a) 0 (by omega) (Or.inr (Or.inr (Or.inl ⟨rfl, a, by omega, rfl⟩)))⟩
        · split at h
          · obtain ⟨c, ec, h⟩ := bnd_r h
            have hc := (findN_lt _ _ (show findN nm.1 _ 0 (lS A) = some c from (numH_r ec).2)).2
            cases h
            exact ⟨by omega, h3.2, ad 0 (nI a) (nI c) (by omega) (Or.inl ⟨rfl, a, c, by omega, by omega, rfl, rfl⟩)⟩
          · obtain ⟨c, ec, h⟩ := bnd_r h
            have hc := (findN_lt _ _ (show findN nm.2 _ 0 (lP A) = some c from (numH_r ec).2)).2
            split at h
            · cases h
            · rename_i hac
              cases h
              exact ⟨by omega, h3.2, ad 1 (nI a) (nI c) (by omega) (Or.inr (Or.inl ⟨rfl, a, c, by omega, by omega, hac, rfl, rfl⟩))⟩
theorem oneW_go {t : TP} {p : Nat} {A : LA} {nm : NMs} {w : WK} {q : Nat × WK} (hp : p ≤ t.1) (hw : wfK A w) (h : oneW t p A nm w = .inr q) : p < q.1 ∧ q.1 ≤ t.1 ∧ wfK A q.2 := by
  unfold oneW at h
  obtain ⟨q1, h1, h⟩ := bnd_r h
  obtain ⟨p3, h2, h⟩ := bnd_r h
  cases h
  have g1 := stW_go hp hw h1
  unfold pSign at h2
  split at h2
  · rename_i hs
    cases h2
    have := tN_lt (isSg_lt hs)
    exact ⟨by show p < tN t q1.1; omega, (tN_mo g1.2.1).2, g1.2.2⟩
  · cases h2
theorem stW_f {t : TP} {p f : Nat} {A : LA} {nm : NMs} {w : WK} (hp : p ≤ t.1) (h : stW t p A nm w = .inl f) : fOk t f := by
  have h1 := (tN_mo (t := t) (p := p) hp).2
  have h2 := (tN_mo (t := t) (p := tN t p) h1).2
  unfold stW at h
  split at h
  · cases h; exact fOk.m (by decide) hp
  · split at h
    · cases h; exact fOk.m (by decide) hp
    · split at h
      · cases h
      · rcases bnd_l h with h | ⟨a, _, h⟩
        · exact numH_f h1 h
        · split at h
          · cases h
          · split at h
            · rcases bnd_l h with h | ⟨c, _, h⟩
              · exact numH_f h2 h
              · cases h
            · rcases bnd_l h with h | ⟨c, _, h⟩
              · exact numH_f h2 h
              · split at h
                · cases h; exact fOk.m (by decide) h2
                · cases h
theorem ldW_f {t : TP} {A : LA} {nm : NMs} : ∀ (n p : Nat) (w : WK) (f : Nat), p ≤ t.1 → wfK A w → ldW t A nm n p w = .inl f → fOk t f
  | 0, _, _, _, _, _, h => by cases h
  | n + 1, p, w, f, hp, hw, h => by
    unfold ldW at h
    split at h
    · cases h
    · rcases bnd_l h with h | ⟨q, h1, h⟩
      · unfold oneW at h
        rcases bnd_l h with h | ⟨q1, h2, h⟩
        · exact stW_f hp h
        · rcases bnd_l h with h | ⟨p3, _, h⟩
          · exact pSign_f (stW_go hp hw h2).2.1 h
          · cases h
      · obtain ⟨g1, g2, g3⟩ := oneW_go hp hw h1
        exact ldW_f n q.1 q.2 f g2 g3 h
theorem ldW_wf {t : TP} {A : LA} {nm : NMs} : ∀ (n p : Nat) (w w2 : WK), p ≤ t.1 → wfK A w → ldW t A nm n p w = .inr w2 → wfK A w2
  | 0, _, _, _, _, hw, h => by cases h; exact hw
  | n + 1, p, w, w2, hp, hw, h => by
    unfold ldW at h
    split at h
    · cases h; exact hw
    · obtain ⟨q, h1, h⟩ := bnd_r h
      obtain ⟨g1, g2, g3⟩ := oneW_go hp hw h1
      exact ldW_wf n q.1 q.2 w2 g2 g3 h
def w00 : WK := (0, fun _ _ => 0)
def dRw (k m : Nat) : Bool := decide (k = 5) || (decide (19 ≤ k) && decide (k ≤ 22) && decide (m = 0))
def WFr (F : FT) (G : GT) (F2 : FT) (G2 : GT) : Prop := FrD dRw F F2 ∧ ∀ k, k ≠ 5 → G2 k = G k
theorem WFr.rf {F : FT} {G : GT} : WFr F G F G := ⟨FrD.rf, fun _ _ => rfl⟩
theorem WFr.tr {F F1 F2 : FT} {G G1 G2 : GT} (h : WFr F G F1 G1) (h2 : WFr F1 G1 F2 G2) : WFr F G F2 G2 := ⟨h.1.tr h2.1, fun k hk => (h2.2 k hk).trans (h.2 k hk)⟩
theorem D5.wf {F F1 : FT} {G G1 : GT} (h : D5 F G F1 G1) : WFr F G F1 G1 := ⟨h.1.mo (fun k m e => by
  simp only [dRw, Bool.or_eq_false_iff] at e
  exact e.1), h.2⟩
def COW (t : TP) (F : FT) (G : GT) (r : Nat ⊕ (Nat × WK)) (F2 : FT) (G2 : GT) : Prop := match r with
  | .inl f => F2 5 0 7 = nI f ∧ WFr F G F2 G2
  | .inr (p, w) => CRd F2 G2 t p ∧ CW F2 0 w ∧ WFr F G F2 G2
theorem CW.d5 {F F2 : FT} {G G2 : GT} {w : WK} (h : CW F 0 w) (hd : D5 F G F2 G2) : CW F2 0 w := h.fr (fun k a b => hd.at (by omega))
section T7
variable {E : EV} {d x p l n : Nat} {F : FT} {G : GT} {b : Bool} {t : TP} {A : LA} {nm : NMs} {wk : WK} {u v w : Int32}
theorem c_verb (hd : 6 ≤ d) (h : CRd F G t p) : Tm E d 36 0 [some (vr 7 0)] [] (cC x) F G (Rs b) (some (vi (verbN t p))) (cC x, F, G, Rs b) := by
  refine t_run 1 rfl ?_
  refine t_gR k36_1 (by first | assumption | exact Nat.le_of_ble_eq_true rfl | omega) ⟨rfl, rfl, rfl⟩ rfl ?_
  refine t_run 1 rfl ?_
  refine t_call 2 k36_6 (by omega) (Nat.le_of_ble_eq_true rfl) rfl (Nat.le_of_ble_eq_true rfl) (Nat.le_of_ble_eq_true rfl) (recv_ok rfl (by first | assumption | exact Nat.le_of_ble_eq_true rfl | omega)) rfl (c_isWd (n := 22) (by decide) (by decide) (by decide) (by omega) h) rfl ?_
  refine t_if_eq k36_9 (fun h9 => ?_) (fun h9 => ?_)
  · rw [b2i0] at h9
    refine t_run 1 rfl ?_
    refine t_gR k36_15 (by first | assumption | exact Nat.le_of_ble_eq_true rfl | omega) ⟨rfl, rfl, rfl⟩ rfl ?_
    refine t_run 1 rfl ?_
    refine t_call 2 k36_20 (by omega) (Nat.le_of_ble_eq_true rfl) rfl (Nat.le_of_ble_eq_true rfl) (Nat.le_of_ble_eq_true rfl) (recv_ok rfl (by first | assumption | exact Nat.le_of_ble_eq_true rfl | omega)) rfl (c_isWd (n := 23) (by decide) (by decide) (by decide) (by omega) h) rfl ?_
    refine t_if_eq k36_23 (fun h23 => ?_) (fun h23 => ?_)
    · rw [b2i0] at h23
      refine t_run 1 rfl ?_
      refine t_gR k36_29 (by first | assumption | exact Nat.le_of_ble_eq_true rfl | omega) ⟨rfl, rfl, rfl⟩ rfl ?_
      refine t_run 1 rfl ?_
      refine t_call 2 k36_34 (by omega) (Nat.le_of_ble_eq_true rfl) rfl (Nat.le_of_ble_eq_true rfl) (Nat.le_of_ble_eq_true rfl) (recv_ok rfl (by first | assumption | exact Nat.le_of_ble_eq_true rfl | omega)) rfl (c_isWd (n := 24) (by decide) (by decide) (by decide) (by omega) h) rfl ?_
      refine t_if_eq k36_37 (fun h37 => ?_) (fun h37 => ?_)
      · rw [b2i0] at h37
        refine t_run 1 rfl ?_
        refine t_gR k36_43 (by first | assumption | exact Nat.le_of_ble_eq_true rfl | omega) ⟨rfl, rfl, rfl⟩ rfl ?_
        refine t_run 1 rfl ?_
        refine t_call 2 k36_48 (by omega) (Nat.le_of_ble_eq_true rfl) rfl (Nat.le_of_ble_eq_true rfl) (Nat.le_of_ble_eq_true rfl) (recv_ok rfl (by first | assumption | exact Nat.le_of_ble_eq_true rfl | omega)) rfl (c_isWd (n := 25) (by decide) (by decide) (by decide) (by omega) h) rfl ?_
        refine t_if_eq k36_51 (fun h51 => ?_) (fun h51 => ?_)
        · rw [b2i0] at h51
          refine t_run 1 rfl ?_
          exact t_ir k36_59 rfl (by simp [verbN, *])
        · rw [b2i0, Bool.not_eq_false] at h51
          refine t_run 2 rfl ?_
          exact t_ir k36_59 rfl (by simp [verbN, *])
      · rw [b2i0, Bool.not_eq_false] at h37
        refine t_run 1 rfl ?_
        exact t_ir k36_41 rfl (by simp [verbN, *])
    · rw [b2i0, Bool.not_eq_false] at h23
      refine t_run 1 rfl ?_
      exact t_ir k36_27 rfl (by simp [verbN, *])
  · rw [b2i0, Bool.not_eq_false] at h9
    refine t_run 1 rfl ?_
    exact t_ir k36_13 rfl (by simp [verbN, *])
theorem c_addL {N : Nat} (hN : F 19 0 3 = nI N) (h40 : N < 40) : Td E d 83 0 [some (vr 19 0), some (vi u), some (vi v), some (vi w)] [] x F G b none (fun F2 G2 => F2 = uF (uF (uF (uF F 20 0 N u) 21 0 N v) 22 0 N w) 19 0 3 (nI (N + 1)) ∧ G2 = G) := by
  refine d_run 1 rfl ?_
  refine d_gI k83_1 (by first | assumption | exact Nat.le_of_ble_eq_true rfl | omega | exact Nat.lt_of_lt_of_le (m := 6) (by omega) (Nat.le_of_ble_eq_true rfl)) ⟨rfl, rfl, Or.inl rfl⟩ ?_
  rw [hN]
  refine d_run 1 rfl ?_
  refine d_ic_ge k83_6 (fun h6 => ?_) (fun h6 => ?_)
  · exact absurd (ge_nI (b := 40) h6 rfl (by omega) (by omega)) (by omega)
  · refine d_run 1 rfl ?_
    refine d_gR k83_10 (by first | assumption | exact Nat.le_of_ble_eq_true rfl | omega | exact Nat.lt_of_lt_of_le (m := 6) (by omega) (Nat.le_of_ble_eq_true rfl)) ⟨rfl, rfl, rfl⟩ rfl ?_
    refine d_run 1 rfl ?_
    refine d_gI k83_14 (by first | assumption | exact Nat.le_of_ble_eq_true rfl | omega | exact Nat.lt_of_lt_of_le (m := 6) (by omega) (Nat.le_of_ble_eq_true rfl)) ⟨rfl, rfl, Or.inl rfl⟩ ?_
    rw [hN]
    refine d_run 1 rfl ?_
    refine d_is (N := 40) (j := N) k83_18 (by first | assumption | exact Nat.le_of_ble_eq_true rfl | omega | exact Nat.lt_of_lt_of_le (m := 6) (by omega) (Nat.le_of_ble_eq_true rfl)) ⟨rfl, rfl⟩ (show N < 40 by omega) rfl ?_
    refine d_run 1 rfl ?_
    refine d_gR k83_20 (by first | assumption | exact Nat.le_of_ble_eq_true rfl | omega | exact Nat.lt_of_lt_of_le (m := 6) (by omega) (Nat.le_of_ble_eq_true rfl)) ⟨rfl, rfl, rfl⟩ rfl ?_
    refine d_run 1 rfl ?_
    refine d_gI k83_24 (by first | assumption | exact Nat.le_of_ble_eq_true rfl | omega | exact Nat.lt_of_lt_of_le (m := 6) (by omega) (Nat.le_of_ble_eq_true rfl)) ⟨rfl, rfl, Or.inl rfl⟩ ?_
    rw [uF_k (by decide), hN]
    refine d_run 1 rfl ?_
    refine d_is (N := 40) (j := N) k83_28 (by first | assumption | exact Nat.le_of_ble_eq_true rfl | omega | exact Nat.lt_of_lt_of_le (m := 6) (by omega) (Nat.le_of_ble_eq_true rfl)) ⟨rfl, rfl⟩ (show N < 40 by omega) rfl ?_
    refine d_run 1 rfl ?_
    refine d_gR k83_30 (by first | assumption | exact Nat.le_of_ble_eq_true rfl | omega | exact Nat.lt_of_lt_of_le (m := 6) (by omega) (Nat.le_of_ble_eq_true rfl)) ⟨rfl, rfl, rfl⟩ rfl ?_
    refine d_run 1 rfl ?_
    refine d_gI k83_34 (by first | assumption | exact Nat.le_of_ble_eq_true rfl | omega | exact Nat.lt_of_lt_of_le (m := 6) (by omega) (Nat.le_of_ble_eq_true rfl)) ⟨rfl, rfl, Or.inl rfl⟩ ?_
    rw [uF_k (by decide), uF_k (by decide), hN]
    refine d_run 1 rfl ?_
    refine d_is (N := 40) (j := N) k83_38 (by first | assumption | exact Nat.le_of_ble_eq_true rfl | omega | exact Nat.lt_of_lt_of_le (m := 6) (by omega) (Nat.le_of_ble_eq_true rfl)) ⟨rfl, rfl⟩ (show N < 40 by omega) rfl ?_
    refine d_run 2 rfl ?_
    refine d_gI k83_41 (by first | assumption | exact Nat.le_of_ble_eq_true rfl | omega | exact Nat.lt_of_lt_of_le (m := 6) (by omega) (Nat.le_of_ble_eq_true rfl)) ⟨rfl, rfl, Or.inl rfl⟩ ?_
    rw [uF_k (by decide), uF_k (by decide), uF_k (by decide), hN]
    refine d_run 2 rfl ?_
    rw [show ibop 0 (nI N) 1 = nI (N + 1) from nI_1 N]
    refine d_pI k83_46 (by first | assumption | exact Nat.le_of_ble_eq_true rfl | omega | exact Nat.lt_of_lt_of_le (m := 6) (by omega) (Nat.le_of_ble_eq_true rfl)) ⟨rfl, rfl⟩ ?_
    refine d_ret k83_49 ?_
    exact ⟨rfl, rfl⟩
theorem CW.add (h : CW F 0 wk) (h40 : wk.1 < 40) : CW (uF (uF (uF (uF F 20 0 wk.1 u) 21 0 wk.1 v) 22 0 wk.1 w) 19 0 3 (nI (wk.1 + 1))) 0 (addW wk u v w) := by
  obtain ⟨h1, h2, h3, h4, h5⟩ := h
  refine ⟨by rw [uF_r, pk_us]; rfl, by show wk.1 + 1 ≤ 40; omega, fun i hi => ?_, fun i hi => ?_, fun i hi => ?_⟩
  · have hi : i < wk.1 + 1 := hi
    rw [uF_k (by decide), uF_k (by decide), uF_k (by decide), uF_r]
    show _ = if i = wk.1 then u else wk.2 0 i
    simp only [upd]
    split
    · rfl
    · exact h3 i (by omega)
  · have hi : i < wk.1 + 1 := hi
    rw [uF_k (by decide), uF_k (by decide), uF_r, uF_k (by decide)]
    show _ = if i = wk.1 then v else wk.2 1 i
    simp only [upd]
    split
    · rfl
    · exact h4 i (by omega)
  · have hi : i < wk.1 + 1 := hi
    rw [uF_k (by decide), uF_r, uF_k (by decide), uF_k (by decide)]
    show _ = if i = wk.1 then w else wk.2 2 i
    simp only [upd]
    split
    · rfl
    · exact h5 i (by omega)
/-- a line is laid: from 139 on -/
theorem c_line2 {F0 : FT} {G0 : GT} {z : Nat ⊕ (Nat × WK)} (hl : l < 2) (hd : 20 ≤ d) (h : CRd F G t p) (hW : CW F 0 wk) (h40 : wk.1 < 40) (hf : WFr F0 G0 F G) (hz : z = .inr (p, addW wk u v w)) : Td E d 35 139 [some (vr 7 0), some (vr 9 l), some (vr 19 0), some (vi u), some (vi v), some (vi w)] [] x F G b (some (vi (b2i (okB z)))) (COW t F0 G0 z) := by
  subst hz
  refine d_run 4 rfl ?_
  refine d_call 4 k35_145 (by omega) (Nat.le_of_ble_eq_true rfl) rfl (Nat.le_of_ble_eq_true rfl) (Nat.le_of_ble_eq_true rfl) (recv_ok rfl (by first | assumption | exact Nat.le_of_ble_eq_true rfl | omega | exact Nat.lt_of_lt_of_le (m := 6) (by omega) (Nat.le_of_ble_eq_true rfl))) rfl (c_addL hW.1 h40) rfl ?_
  rintro F1 G1 ⟨rfl, rfl⟩
  refine d_run 1 rfl ?_
  refine d_ib k35_149 (by rfl) ?_
  exact ⟨(((h.u (by decide) (by decide)).u (by decide) (by decide)).u (by decide) (by decide)).u (by decide) (by decide), hW.add h40, hf.tr ⟨((((FrD.rf.u rfl).u rfl).u rfl).u rfl), fun _ _ => rfl⟩⟩
theorem c_stW (hl : l < 2) (hd : 20 ≤ d) (h : CRd F G t p) (hp : p ≤ t.1) (hW : CW F 0 wk) (hS : F 9 l 9 = nI (lS A)) (hP : F 9 l 10 = nI (lP A)) (hS5 : lS A ≤ 5) (hP6 : lP A ≤ 6) (hN : CNm G l A nm) (hwN : wfN A nm) : Td E d 35 0 [some (vr 7 0), some (vr 9 l), some (vr 19 0), none, none, none] [] x F G b (some (vi (b2i (okB (stW t p A nm wk))))) (COW t F G (stW t p A nm wk)) := by
  have hW40 := hW.2.1
  rcases verb_c (t := t) (p := p) with hv | hv | hv | hv | hv
  · refine d_run 1 rfl ?_
    refine d_callT 1 k35_1 (by omega) (Nat.le_of_ble_eq_true rfl) rfl (Nat.le_of_ble_eq_true rfl) (Nat.le_of_ble_eq_true rfl) (recv_ok rfl (by first | assumption | exact Nat.le_of_ble_eq_true rfl | omega)) rfl (c_verb (by omega) h) rfl ?_
    rw [hv]
    refine d_run 3 rfl ?_
    refine d_ic_ne k35_7 (fun h7 => ?_) (fun h7 => ?_)
    · refine d_run 1 rfl ?_
      refine d_gI k35_20 (by first | assumption | exact Nat.le_of_ble_eq_true rfl | omega | exact Nat.lt_of_lt_of_le (m := 6) (by omega) (Nat.le_of_ble_eq_true rfl)) ⟨rfl, rfl, Or.inl rfl⟩ ?_
      rw [hW.1]
      refine d_run 1 rfl ?_
      refine d_ic_lt k35_25 (fun h25 => ?_) (fun h25 => ?_)
      · have h25 := gt_nI (a := 40) (b := wk.1) h25 rfl (by omega) (by omega)
        refine d_run 1 rfl ?_
        refine d_gR k35_38 (by first | assumption | exact Nat.le_of_ble_eq_true rfl | omega) ⟨rfl, rfl, rfl⟩ rfl ?_
        refine d_call 1 k35_41 (by omega) (Nat.le_of_ble_eq_true rfl) rfl (Nat.le_of_ble_eq_true rfl) (Nat.le_of_ble_eq_true rfl) (recv_ok rfl (by first | assumption | exact Nat.le_of_ble_eq_true rfl | omega)) rfl (c_nx (by omega) h) rfl ?_
        rintro F1 G1 ⟨h1, n1⟩
        have d1 : D5 F G F1 G1 := D5.rf.nx n1
        have s1 : F1 9 l 9 = nI (lS A) := by rw [d1.at (k := 9) (by decide)]; exact hS
        have p1 : F1 9 l 10 = nI (lP A) := by rw [d1.at (k := 9) (by decide)]; exact hP
        have g1 : ∀ i, i < lP A → G1 12 l i = w32 (nm.2 i) := fun i hi => by rw [d1.2 12 (by decide)]; exact hN.2 i hi
        refine d_run 6 rfl ?_
        refine d_ic_eq k35_52 (fun h52 => ?_) (fun h52 => ?_)
        · exact absurd h52 (by decide)
        · refine d_run 3 rfl ?_
          refine d_call 3 k35_58 (by omega) (Nat.le_of_ble_eq_true rfl) rfl (Nat.le_of_ble_eq_true rfl) (Nat.le_of_ble_eq_true rfl) (recv_ok rfl (by first | assumption | exact Nat.le_of_ble_eq_true rfl | omega)) rfl (c_numP hl (by omega) h1 p1 hP6 g1 hwN.2) rfl ?_
          rintro F2 G2 q2
          refine d_run 3 rfl ?_
          refine d_ic_ne k35_66 (fun h66 => ?_) (fun h66 => ?_)
          · obtain ⟨a, ea⟩ : ∃ a, numH t (tN t p) (fwP A nm (tW t (tN t p))) = .inr a := by
              cases e : numH t (tN t p) (fwP A nm (tW t (tN t p))) with
              | inl f => rw [show numH t (tN t p) (findN _ (tW t (tN t p)) 0 _) = _ from e] at h66; exact absurd rfl h66
              | inr a => exact ⟨a, rfl⟩
            have q2 := q2
            rw [show numH t (tN t p) (findN _ (tW t (tN t p)) 0 _) = _ from ea] at q2 ⊢
            obtain ⟨rfl, rfl⟩ := q2
            rw [show nmV (.inr a) = nI a from rfl]
            have ha := (findN_lt _ _ (show findN _ _ 0 _ = some a from (numH_r ea).2)).2
            refine d_run 1 rfl ?_
            refine d_gR k35_72 (by first | assumption | exact Nat.le_of_ble_eq_true rfl | omega) ⟨rfl, rfl, rfl⟩ rfl ?_
            refine d_call 1 k35_75 (by omega) (Nat.le_of_ble_eq_true rfl) rfl (Nat.le_of_ble_eq_true rfl) (Nat.le_of_ble_eq_true rfl) (recv_ok rfl (by first | assumption | exact Nat.le_of_ble_eq_true rfl | omega)) rfl (c_nx (by omega) h1) rfl ?_
            rintro F3 G3 ⟨h3, n3⟩
            have d3 := d1.nx n3
            refine d_run 1 rfl ?_
            refine d_if_eq k35_79 (fun h79 => ?_) (fun h79 => ?_)
            · refine d_run 3 rfl ?_
              refine d_if_ne k35_90 (fun h90 => ?_) (fun h90 => ?_)
              · exact absurd rfl h90
              · refine d_run 2 rfl ?_
                have s3 : F3 9 l 9 = nI (lS A) := by rw [d3.at (k := 9) (by decide)]; exact hS
                have g3 : ∀ i, i < lS A → G3 10 l i = w32 (nm.1 i) := fun i hi => by rw [d3.2 10 (by decide)]; exact hN.1 i hi
                have p3 : F3 9 l 10 = nI (lP A) := by rw [d3.at (k := 9) (by decide)]; exact hP
                have g3p : ∀ i, i < lP A → G3 12 l i = w32 (nm.2 i) := fun i hi => by rw [d3.2 12 (by decide)]; exact hN.2 i hi
                refine d_call 3 k35_98 (by omega) (Nat.le_of_ble_eq_true rfl) rfl (Nat.le_of_ble_eq_true rfl) (Nat.le_of_ble_eq_true rfl) (recv_ok rfl (by first | assumption | exact Nat.le_of_ble_eq_true rfl | omega)) rfl (c_numS hl (by omega) h3 s3 hS5 g3 hwN.1) rfl ?_
                rintro F4 G4 q4
                refine d_run 3 rfl ?_
                refine d_ic_ne k35_106 (fun h106 => ?_) (fun h106 => ?_)
                · obtain ⟨c, ec⟩ : ∃ a, numH t (tN t (tN t p)) (fwS A nm (tW t (tN t (tN t p)))) = .inr a := by
                    cases e : numH t (tN t (tN t p)) (fwS A nm (tW t (tN t (tN t p)))) with
                    | inl f => rw [show numH t (tN t (tN t p)) (findN _ (tW t (tN t (tN t p))) 0 _) = _ from e] at h106; exact absurd rfl h106
                    | inr a => exact ⟨a, rfl⟩
                  have q4 := q4
                  rw [show numH t (tN t (tN t p)) (findN _ (tW t (tN t (tN t p))) 0 _) = _ from ec] at q4 ⊢
                  obtain ⟨rfl, rfl⟩ := q4
                  rw [show nmV (.inr c) = nI c from rfl]
                  have hc := (findN_lt _ _ (show findN _ _ 0 _ = some c from (numH_r ec).2)).2
                  refine d_run 2 rfl ?_
                  refine d_ic_ne k35_113 (fun h113 => ?_) (fun h113 => ?_)
                  · refine d_run 1 rfl ?_
                    refine d_gR k35_133 (by first | assumption | exact Nat.le_of_ble_eq_true rfl | omega) ⟨rfl, rfl, rfl⟩ rfl ?_
                    refine d_call 1 k35_136 (by omega) (Nat.le_of_ble_eq_true rfl) rfl (Nat.le_of_ble_eq_true rfl) (Nat.le_of_ble_eq_true rfl) (recv_ok rfl (by first | assumption | exact Nat.le_of_ble_eq_true rfl | omega)) rfl (c_nx (by omega) h3) rfl ?_
                    rintro F6 G6 ⟨h6, n6⟩
                    have d6 := d3.nx n6
                    have eW : stW t p A nm wk = .inr (tN t (tN t (tN t p)), addW wk 0 (nI a) (nI c)) := by simp only [stW]; rw [if_neg (by rw [hv]; decide), if_neg (by omega), if_neg (by rw [hv]; decide), ea]; simp only [bnd]; rw [if_neg (by rw [hv]; decide), if_pos hv, ec]
                    exact c_line2 (F0 := F) (G0 := G) hl hd h6 (hW.d5 d6) h25 d6.wf eW
                  · exact absurd h113 (by decide)
                · obtain ⟨f, ef⟩ : ∃ f, numH t (tN t (tN t p)) (fwS A nm (tW t (tN t (tN t p)))) = .inl f := by
                    cases e : numH t (tN t (tN t p)) (fwS A nm (tW t (tN t (tN t p)))) with
                    | inl f => exact ⟨f, rfl⟩
                    | inr i =>
                      rw [show numH t (tN t (tN t p)) (findN _ (tW t (tN t (tN t p))) 0 _) = _ from e] at h106
                      have := (findN_lt _ _ (show findN _ _ 0 _ = some i from (numH_r e).2)).2
                      exact absurd (show nI i < 0 by rw [show nI i = -1 from h106]; decide) (nn_nI (by omega))
                  rw [show numH t (tN t (tN t p)) (findN _ (tW t (tN t (tN t p))) 0 _) = _ from ef] at q4
                  rw [show stW t p A nm wk = .inl f by simp only [stW]; rw [if_neg (by rw [hv]; decide), if_neg (by omega), if_neg (by rw [hv]; decide)]; rw [ea]; simp only [bnd]; rw [if_neg (by rw [hv]; decide), if_pos hv]; rw [ef]]
                  refine d_run 1 rfl ?_
                  refine d_ib k35_110 (by rfl) ?_
                  exact ⟨q4.1, (d3.ft q4).wf⟩
            · exact absurd rfl h79
          · obtain ⟨f, ef⟩ : ∃ f, numH t (tN t p) (fwP A nm (tW t (tN t p))) = .inl f := by
              cases e : numH t (tN t p) (fwP A nm (tW t (tN t p))) with
              | inl f => exact ⟨f, rfl⟩
              | inr i =>
                rw [show numH t (tN t p) (findN _ (tW t (tN t p)) 0 _) = _ from e] at h66
                have := (findN_lt _ _ (show findN _ _ 0 _ = some i from (numH_r e).2)).2
                exact absurd (show nI i < 0 by rw [show nI i = -1 from h66]; decide) (nn_nI (by omega))
            rw [show numH t (tN t p) (findN _ (tW t (tN t p)) 0 _) = _ from ef] at q2
            rw [show stW t p A nm wk = .inl f by simp only [stW]; rw [if_neg (by rw [hv]; decide), if_neg (by omega), if_neg (by rw [hv]; decide)]; rw [ef]; rfl]
            refine d_run 1 rfl ?_
            refine d_ib k35_70 (by rfl) ?_
            exact ⟨q2.1, (d1.ft q2).wf⟩
      · have h25 := le_nI (a := 40) (b := wk.1) h25 rfl (by omega) (by omega)
        rw [show stW t p A nm wk = .inl (5 + 16 * p) by simp only [stW]; rw [if_neg (by rw [hv]; decide), if_pos h25]]
        refine d_run 1 rfl ?_
        refine d_gR k35_29 (by first | assumption | exact Nat.le_of_ble_eq_true rfl | omega) ⟨rfl, rfl, rfl⟩ rfl ?_
        refine d_run 1 rfl ?_
        refine d_callT 2 k35_33 (by omega) (Nat.le_of_ble_eq_true rfl) rfl (Nat.le_of_ble_eq_true rfl) (Nat.le_of_ble_eq_true rfl) (recv_ok rfl (by first | assumption | exact Nat.le_of_ble_eq_true rfl | omega)) rfl (c_refuse (c := 5) h) rfl ?_
        refine d_ib k35_36 (by rfl) ?_
        exact ⟨by rw [uF_r, pk_us], (D5.rf.ft (CFt.of (f := 5 + 16 * p) CNx.rf)).wf⟩
    · exact absurd h7 (by decide)
  · refine d_run 1 rfl ?_
    refine d_callT 1 k35_1 (by omega) (Nat.le_of_ble_eq_true rfl) rfl (Nat.le_of_ble_eq_true rfl) (Nat.le_of_ble_eq_true rfl) (recv_ok rfl (by first | assumption | exact Nat.le_of_ble_eq_true rfl | omega)) rfl (c_verb (by omega) h) rfl ?_
    rw [hv]
    refine d_run 3 rfl ?_
    refine d_ic_ne k35_7 (fun h7 => ?_) (fun h7 => ?_)
    · refine d_run 1 rfl ?_
      refine d_gI k35_20 (by first | assumption | exact Nat.le_of_ble_eq_true rfl | omega | exact Nat.lt_of_lt_of_le (m := 6) (by omega) (Nat.le_of_ble_eq_true rfl)) ⟨rfl, rfl, Or.inl rfl⟩ ?_
      rw [hW.1]
      refine d_run 1 rfl ?_
      refine d_ic_lt k35_25 (fun h25 => ?_) (fun h25 => ?_)
      · have h25 := gt_nI (a := 40) (b := wk.1) h25 rfl (by omega) (by omega)
        refine d_run 1 rfl ?_
        refine d_gR k35_38 (by first | assumption | exact Nat.le_of_ble_eq_true rfl | omega) ⟨rfl, rfl, rfl⟩ rfl ?_
        refine d_call 1 k35_41 (by omega) (Nat.le_of_ble_eq_true rfl) rfl (Nat.le_of_ble_eq_true rfl) (Nat.le_of_ble_eq_true rfl) (recv_ok rfl (by first | assumption | exact Nat.le_of_ble_eq_true rfl | omega)) rfl (c_nx (by omega) h) rfl ?_
        rintro F1 G1 ⟨h1, n1⟩
        have d1 : D5 F G F1 G1 := D5.rf.nx n1
        have s1 : F1 9 l 9 = nI (lS A) := by rw [d1.at (k := 9) (by decide)]; exact hS
        have p1 : F1 9 l 10 = nI (lP A) := by rw [d1.at (k := 9) (by decide)]; exact hP
        have g1 : ∀ i, i < lP A → G1 12 l i = w32 (nm.2 i) := fun i hi => by rw [d1.2 12 (by decide)]; exact hN.2 i hi
        refine d_run 6 rfl ?_
        refine d_ic_eq k35_52 (fun h52 => ?_) (fun h52 => ?_)
        · exact absurd h52 (by decide)
        · refine d_run 3 rfl ?_
          refine d_call 3 k35_58 (by omega) (Nat.le_of_ble_eq_true rfl) rfl (Nat.le_of_ble_eq_true rfl) (Nat.le_of_ble_eq_true rfl) (recv_ok rfl (by first | assumption | exact Nat.le_of_ble_eq_true rfl | omega)) rfl (c_numP hl (by omega) h1 p1 hP6 g1 hwN.2) rfl ?_
          rintro F2 G2 q2
          refine d_run 3 rfl ?_
          refine d_ic_ne k35_66 (fun h66 => ?_) (fun h66 => ?_)
          · obtain ⟨a, ea⟩ : ∃ a, numH t (tN t p) (fwP A nm (tW t (tN t p))) = .inr a := by
              cases e : numH t (tN t p) (fwP A nm (tW t (tN t p))) with
              | inl f => rw [show numH t (tN t p) (findN _ (tW t (tN t p)) 0 _) = _ from e] at h66; exact absurd rfl h66
              | inr a => exact ⟨a, rfl⟩
            have q2 := q2
            rw [show numH t (tN t p) (findN _ (tW t (tN t p)) 0 _) = _ from ea] at q2 ⊢
            obtain ⟨rfl, rfl⟩ := q2
            rw [show nmV (.inr a) = nI a from rfl]
            have ha := (findN_lt _ _ (show findN _ _ 0 _ = some a from (numH_r ea).2)).2
            refine d_run 1 rfl ?_
            refine d_gR k35_72 (by first | assumption | exact Nat.le_of_ble_eq_true rfl | omega) ⟨rfl, rfl, rfl⟩ rfl ?_
            refine d_call 1 k35_75 (by omega) (Nat.le_of_ble_eq_true rfl) rfl (Nat.le_of_ble_eq_true rfl) (Nat.le_of_ble_eq_true rfl) (recv_ok rfl (by first | assumption | exact Nat.le_of_ble_eq_true rfl | omega)) rfl (c_nx (by omega) h1) rfl ?_
            rintro F3 G3 ⟨h3, n3⟩
            have d3 := d1.nx n3
            refine d_run 1 rfl ?_
            refine d_if_eq k35_79 (fun h79 => ?_) (fun h79 => ?_)
            · exact absurd h79 (by decide)
            · refine d_run 2 rfl ?_
              refine d_ic_ne k35_84 (fun h84 => ?_) (fun h84 => ?_)
              · exact absurd rfl h84
              · refine d_run 3 rfl ?_
                refine d_if_ne k35_90 (fun h90 => ?_) (fun h90 => ?_)
                · refine d_run 1 rfl ?_
                  have s3 : F3 9 l 9 = nI (lS A) := by rw [d3.at (k := 9) (by decide)]; exact hS
                  have g3 : ∀ i, i < lS A → G3 10 l i = w32 (nm.1 i) := fun i hi => by rw [d3.2 10 (by decide)]; exact hN.1 i hi
                  have p3 : F3 9 l 10 = nI (lP A) := by rw [d3.at (k := 9) (by decide)]; exact hP
                  have g3p : ∀ i, i < lP A → G3 12 l i = w32 (nm.2 i) := fun i hi => by rw [d3.2 12 (by decide)]; exact hN.2 i hi
                  refine d_call 3 k35_98 (by omega) (Nat.le_of_ble_eq_true rfl) rfl (Nat.le_of_ble_eq_true rfl) (Nat.le_of_ble_eq_true rfl) (recv_ok rfl (by first | assumption | exact Nat.le_of_ble_eq_true rfl | omega)) rfl (c_numP hl (by omega) h3 p3 hP6 g3p hwN.2) rfl ?_
                  rintro F4 G4 q4
                  refine d_run 3 rfl ?_
                  refine d_ic_ne k35_106 (fun h106 => ?_) (fun h106 => ?_)
                  · obtain ⟨c, ec⟩ : ∃ a, numH t (tN t (tN t p)) (fwP A nm (tW t (tN t (tN t p)))) = .inr a := by
                      cases e : numH t (tN t (tN t p)) (fwP A nm (tW t (tN t (tN t p)))) with
                      | inl f => rw [show numH t (tN t (tN t p)) (findN _ (tW t (tN t (tN t p))) 0 _) = _ from e] at h106; exact absurd rfl h106
                      | inr a => exact ⟨a, rfl⟩
                    have q4 := q4
                    rw [show numH t (tN t (tN t p)) (findN _ (tW t (tN t (tN t p))) 0 _) = _ from ec] at q4 ⊢
                    obtain ⟨rfl, rfl⟩ := q4
                    rw [show nmV (.inr c) = nI c from rfl]
                    have hc := (findN_lt _ _ (show findN _ _ 0 _ = some c from (numH_r ec).2)).2
                    refine d_run 2 rfl ?_
                    refine d_ic_ne k35_113 (fun h113 => ?_) (fun h113 => ?_)
                    · exact absurd rfl h113
                    · refine d_run 2 rfl ?_
                      refine d_ic_ne k35_120 (fun h120 => ?_) (fun h120 => ?_)
                      · have e120 : ¬ a = c := fun e => h120 (by rw [e])
                        have eW : stW t p A nm wk = .inr (tN t (tN t (tN t p)), addW wk 1 (nI a) (nI c)) := by simp only [stW]; rw [if_neg (by rw [hv]; decide), if_neg (by omega), if_neg (by rw [hv]; decide), ea]; simp only [bnd]; rw [if_neg (by rw [hv]; decide), if_neg (by rw [hv]; decide), ec]; simp only []; rw [if_neg e120]
                        refine d_run 1 rfl ?_
                        refine d_gR k35_133 (by first | assumption | exact Nat.le_of_ble_eq_true rfl | omega) ⟨rfl, rfl, rfl⟩ rfl ?_
                        refine d_call 1 k35_136 (by omega) (Nat.le_of_ble_eq_true rfl) rfl (Nat.le_of_ble_eq_true rfl) (Nat.le_of_ble_eq_true rfl) (recv_ok rfl (by first | assumption | exact Nat.le_of_ble_eq_true rfl | omega)) rfl (c_nx (by omega) h3) rfl ?_
                        rintro F6 G6 ⟨h6, n6⟩
                        have d6 := d3.nx n6
                        exact c_line2 (F0 := F) (G0 := G) hl hd h6 (hW.d5 d6) h25 d6.wf eW
                      · have e120 : a = c := nI_inj h120 (by omega) (by omega)
                        rw [show stW t p A nm wk = .inl (3 + 16 * tN t (tN t p)) by simp only [stW]; rw [if_neg (by rw [hv]; decide), if_neg (by omega), if_neg (by rw [hv]; decide), ea]; simp only [bnd]; rw [if_neg (by rw [hv]; decide), if_neg (by rw [hv]; decide), ec]; simp only []; rw [if_pos e120]]
                        refine d_run 1 rfl ?_
                        refine d_gR k35_124 (by first | assumption | exact Nat.le_of_ble_eq_true rfl | omega) ⟨rfl, rfl, rfl⟩ rfl ?_
                        refine d_run 1 rfl ?_
                        refine d_callT 2 k35_128 (by omega) (Nat.le_of_ble_eq_true rfl) rfl (Nat.le_of_ble_eq_true rfl) (Nat.le_of_ble_eq_true rfl) (recv_ok rfl (by first | assumption | exact Nat.le_of_ble_eq_true rfl | omega)) rfl (c_refuse (c := 3) h3) rfl ?_
                        refine d_ib k35_131 (by rfl) ?_
                        exact ⟨by rw [uF_r, pk_us], (d3.ft (CFt.of (f := 3 + 16 * tN t (tN t p)) CNx.rf)).wf⟩
                  · obtain ⟨f, ef⟩ : ∃ f, numH t (tN t (tN t p)) (fwP A nm (tW t (tN t (tN t p)))) = .inl f := by
                      cases e : numH t (tN t (tN t p)) (fwP A nm (tW t (tN t (tN t p)))) with
                      | inl f => exact ⟨f, rfl⟩
                      | inr i =>
                        rw [show numH t (tN t (tN t p)) (findN _ (tW t (tN t (tN t p))) 0 _) = _ from e] at h106
                        have := (findN_lt _ _ (show findN _ _ 0 _ = some i from (numH_r e).2)).2
                        exact absurd (show nI i < 0 by rw [show nI i = -1 from h106]; decide) (nn_nI (by omega))
                    rw [show numH t (tN t (tN t p)) (findN _ (tW t (tN t (tN t p))) 0 _) = _ from ef] at q4
                    rw [show stW t p A nm wk = .inl f by simp only [stW]; rw [if_neg (by rw [hv]; decide), if_neg (by omega), if_neg (by rw [hv]; decide)]; rw [ea]; simp only [bnd]; rw [if_neg (by rw [hv]; decide), if_neg (by rw [hv]; decide)]; rw [ef]]
                    refine d_run 1 rfl ?_
                    refine d_ib k35_110 (by rfl) ?_
                    exact ⟨q4.1, (d3.ft q4).wf⟩
                · exact absurd h90 (by decide)
          · obtain ⟨f, ef⟩ : ∃ f, numH t (tN t p) (fwP A nm (tW t (tN t p))) = .inl f := by
              cases e : numH t (tN t p) (fwP A nm (tW t (tN t p))) with
              | inl f => exact ⟨f, rfl⟩
              | inr i =>
                rw [show numH t (tN t p) (findN _ (tW t (tN t p)) 0 _) = _ from e] at h66
                have := (findN_lt _ _ (show findN _ _ 0 _ = some i from (numH_r e).2)).2
                exact absurd (show nI i < 0 by rw [show nI i = -1 from h66]; decide) (nn_nI (by omega))
            rw [show numH t (tN t p) (findN _ (tW t (tN t p)) 0 _) = _ from ef] at q2
            rw [show stW t p A nm wk = .inl f by simp only [stW]; rw [if_neg (by rw [hv]; decide), if_neg (by omega), if_neg (by rw [hv]; decide)]; rw [ef]; rfl]
            refine d_run 1 rfl ?_
            refine d_ib k35_70 (by rfl) ?_
            exact ⟨q2.1, (d1.ft q2).wf⟩
      · have h25 := le_nI (a := 40) (b := wk.1) h25 rfl (by omega) (by omega)
        rw [show stW t p A nm wk = .inl (5 + 16 * p) by simp only [stW]; rw [if_neg (by rw [hv]; decide), if_pos h25]]
        refine d_run 1 rfl ?_
        refine d_gR k35_29 (by first | assumption | exact Nat.le_of_ble_eq_true rfl | omega) ⟨rfl, rfl, rfl⟩ rfl ?_
        refine d_run 1 rfl ?_
        refine d_callT 2 k35_33 (by omega) (Nat.le_of_ble_eq_true rfl) rfl (Nat.le_of_ble_eq_true rfl) (Nat.le_of_ble_eq_true rfl) (recv_ok rfl (by first | assumption | exact Nat.le_of_ble_eq_true rfl | omega)) rfl (c_refuse (c := 5) h) rfl ?_
        refine d_ib k35_36 (by rfl) ?_
        exact ⟨by rw [uF_r, pk_us], (D5.rf.ft (CFt.of (f := 5 + 16 * p) CNx.rf)).wf⟩
    · exact absurd h7 (by decide)
  · refine d_run 1 rfl ?_
    refine d_callT 1 k35_1 (by omega) (Nat.le_of_ble_eq_true rfl) rfl (Nat.le_of_ble_eq_true rfl) (Nat.le_of_ble_eq_true rfl) (recv_ok rfl (by first | assumption | exact Nat.le_of_ble_eq_true rfl | omega)) rfl (c_verb (by omega) h) rfl ?_
    rw [hv]
    refine d_run 3 rfl ?_
    refine d_ic_ne k35_7 (fun h7 => ?_) (fun h7 => ?_)
    · refine d_run 1 rfl ?_
      refine d_gI k35_20 (by first | assumption | exact Nat.le_of_ble_eq_true rfl | omega | exact Nat.lt_of_lt_of_le (m := 6) (by omega) (Nat.le_of_ble_eq_true rfl)) ⟨rfl, rfl, Or.inl rfl⟩ ?_
      rw [hW.1]
      refine d_run 1 rfl ?_
      refine d_ic_lt k35_25 (fun h25 => ?_) (fun h25 => ?_)
      · have h25 := gt_nI (a := 40) (b := wk.1) h25 rfl (by omega) (by omega)
        refine d_run 1 rfl ?_
        refine d_gR k35_38 (by first | assumption | exact Nat.le_of_ble_eq_true rfl | omega) ⟨rfl, rfl, rfl⟩ rfl ?_
        refine d_call 1 k35_41 (by omega) (Nat.le_of_ble_eq_true rfl) rfl (Nat.le_of_ble_eq_true rfl) (Nat.le_of_ble_eq_true rfl) (recv_ok rfl (by first | assumption | exact Nat.le_of_ble_eq_true rfl | omega)) rfl (c_nx (by omega) h) rfl ?_
        rintro F1 G1 ⟨h1, n1⟩
        have d1 : D5 F G F1 G1 := D5.rf.nx n1
        have s1 : F1 9 l 9 = nI (lS A) := by rw [d1.at (k := 9) (by decide)]; exact hS
        have p1 : F1 9 l 10 = nI (lP A) := by rw [d1.at (k := 9) (by decide)]; exact hP
        have g1 : ∀ i, i < lP A → G1 12 l i = w32 (nm.2 i) := fun i hi => by rw [d1.2 12 (by decide)]; exact hN.2 i hi
        refine d_run 6 rfl ?_
        refine d_ic_eq k35_52 (fun h52 => ?_) (fun h52 => ?_)
        · exact absurd h52 (by decide)
        · refine d_run 3 rfl ?_
          refine d_call 3 k35_58 (by omega) (Nat.le_of_ble_eq_true rfl) rfl (Nat.le_of_ble_eq_true rfl) (Nat.le_of_ble_eq_true rfl) (recv_ok rfl (by first | assumption | exact Nat.le_of_ble_eq_true rfl | omega)) rfl (c_numP hl (by omega) h1 p1 hP6 g1 hwN.2) rfl ?_
          rintro F2 G2 q2
          refine d_run 3 rfl ?_
          refine d_ic_ne k35_66 (fun h66 => ?_) (fun h66 => ?_)
          · obtain ⟨a, ea⟩ : ∃ a, numH t (tN t p) (fwP A nm (tW t (tN t p))) = .inr a := by
              cases e : numH t (tN t p) (fwP A nm (tW t (tN t p))) with
              | inl f => rw [show numH t (tN t p) (findN _ (tW t (tN t p)) 0 _) = _ from e] at h66; exact absurd rfl h66
              | inr a => exact ⟨a, rfl⟩
            have q2 := q2
            rw [show numH t (tN t p) (findN _ (tW t (tN t p)) 0 _) = _ from ea] at q2 ⊢
            obtain ⟨rfl, rfl⟩ := q2
            rw [show nmV (.inr a) = nI a from rfl]
            have ha := (findN_lt _ _ (show findN _ _ 0 _ = some a from (numH_r ea).2)).2
            refine d_run 1 rfl ?_
            refine d_gR k35_72 (by first | assumption | exact Nat.le_of_ble_eq_true rfl | omega) ⟨rfl, rfl, rfl⟩ rfl ?_
            refine d_call 1 k35_75 (by omega) (Nat.le_of_ble_eq_true rfl) rfl (Nat.le_of_ble_eq_true rfl) (Nat.le_of_ble_eq_true rfl) (recv_ok rfl (by first | assumption | exact Nat.le_of_ble_eq_true rfl | omega)) rfl (c_nx (by omega) h1) rfl ?_
            rintro F3 G3 ⟨h3, n3⟩
            have d3 := d1.nx n3
            refine d_run 1 rfl ?_
            refine d_if_eq k35_79 (fun h79 => ?_) (fun h79 => ?_)
            · exact absurd h79 (by decide)
            · refine d_run 2 rfl ?_
              refine d_ic_ne k35_84 (fun h84 => ?_) (fun h84 => ?_)
              · exact c_line2 (F0 := F) (G0 := G) hl hd h3 (hW.d5 d3) h25 d3.wf (by simp only [stW]; rw [if_neg (by rw [hv]; decide), if_neg (by omega), if_neg (by rw [hv]; decide), ea]; simp only [bnd]; rw [if_pos hv])
              · exact absurd h84 (by decide)
          · obtain ⟨f, ef⟩ : ∃ f, numH t (tN t p) (fwP A nm (tW t (tN t p))) = .inl f := by
              cases e : numH t (tN t p) (fwP A nm (tW t (tN t p))) with
              | inl f => exact ⟨f, rfl⟩
              | inr i =>
                rw [show numH t (tN t p) (findN _ (tW t (tN t p)) 0 _) = _ from e] at h66
                have := (findN_lt _ _ (show findN _ _ 0 _ = some i from (numH_r e).2)).2
                exact absurd (show nI i < 0 by rw [show nI i = -1 from h66]; decide) (nn_nI (by omega))
            rw [show numH t (tN t p) (findN _ (tW t (tN t p)) 0 _) = _ from ef] at q2
            rw [show stW t p A nm wk = .inl f by simp only [stW]; rw [if_neg (by rw [hv]; decide), if_neg (by omega), if_neg (by rw [hv]; decide)]; rw [ef]; rfl]
            refine d_run 1 rfl ?_
            refine d_ib k35_70 (by rfl) ?_
            exact ⟨q2.1, (d1.ft q2).wf⟩
      · have h25 := le_nI (a := 40) (b := wk.1) h25 rfl (by omega) (by omega)
        rw [show stW t p A nm wk = .inl (5 + 16 * p) by simp only [stW]; rw [if_neg (by rw [hv]; decide), if_pos h25]]
        refine d_run 1 rfl ?_
        refine d_gR k35_29 (by first | assumption | exact Nat.le_of_ble_eq_true rfl | omega) ⟨rfl, rfl, rfl⟩ rfl ?_
        refine d_run 1 rfl ?_
        refine d_callT 2 k35_33 (by omega) (Nat.le_of_ble_eq_true rfl) rfl (Nat.le_of_ble_eq_true rfl) (Nat.le_of_ble_eq_true rfl) (recv_ok rfl (by first | assumption | exact Nat.le_of_ble_eq_true rfl | omega)) rfl (c_refuse (c := 5) h) rfl ?_
        refine d_ib k35_36 (by rfl) ?_
        exact ⟨by rw [uF_r, pk_us], (D5.rf.ft (CFt.of (f := 5 + 16 * p) CNx.rf)).wf⟩
    · exact absurd h7 (by decide)
  · refine d_run 1 rfl ?_
    refine d_callT 1 k35_1 (by omega) (Nat.le_of_ble_eq_true rfl) rfl (Nat.le_of_ble_eq_true rfl) (Nat.le_of_ble_eq_true rfl) (recv_ok rfl (by first | assumption | exact Nat.le_of_ble_eq_true rfl | omega)) rfl (c_verb (by omega) h) rfl ?_
    rw [hv]
    refine d_run 3 rfl ?_
    refine d_ic_ne k35_7 (fun h7 => ?_) (fun h7 => ?_)
    · refine d_run 1 rfl ?_
      refine d_gI k35_20 (by first | assumption | exact Nat.le_of_ble_eq_true rfl | omega | exact Nat.lt_of_lt_of_le (m := 6) (by omega) (Nat.le_of_ble_eq_true rfl)) ⟨rfl, rfl, Or.inl rfl⟩ ?_
      rw [hW.1]
      refine d_run 1 rfl ?_
      refine d_ic_lt k35_25 (fun h25 => ?_) (fun h25 => ?_)
      · have h25 := gt_nI (a := 40) (b := wk.1) h25 rfl (by omega) (by omega)
        refine d_run 1 rfl ?_
        refine d_gR k35_38 (by first | assumption | exact Nat.le_of_ble_eq_true rfl | omega) ⟨rfl, rfl, rfl⟩ rfl ?_
        refine d_call 1 k35_41 (by omega) (Nat.le_of_ble_eq_true rfl) rfl (Nat.le_of_ble_eq_true rfl) (Nat.le_of_ble_eq_true rfl) (recv_ok rfl (by first | assumption | exact Nat.le_of_ble_eq_true rfl | omega)) rfl (c_nx (by omega) h) rfl ?_
        rintro F1 G1 ⟨h1, n1⟩
        have d1 : D5 F G F1 G1 := D5.rf.nx n1
        have s1 : F1 9 l 9 = nI (lS A) := by rw [d1.at (k := 9) (by decide)]; exact hS
        have p1 : F1 9 l 10 = nI (lP A) := by rw [d1.at (k := 9) (by decide)]; exact hP
        have g1 : ∀ i, i < lP A → G1 12 l i = w32 (nm.2 i) := fun i hi => by rw [d1.2 12 (by decide)]; exact hN.2 i hi
        refine d_run 6 rfl ?_
        refine d_ic_eq k35_52 (fun h52 => ?_) (fun h52 => ?_)
        · refine d_run 1 rfl ?_
          refine d_if_eq k35_79 (fun h79 => ?_) (fun h79 => ?_)
          · exact absurd h79 (by decide)
          · refine d_run 2 rfl ?_
            refine d_ic_ne k35_84 (fun h84 => ?_) (fun h84 => ?_)
            · exact c_line2 (F0 := F) (G0 := G) hl hd h1 (hW.d5 d1) h25 d1.wf (by simp only [stW]; rw [if_neg (by rw [hv]; decide), if_neg (by omega), if_pos hv])
            · exact absurd h84 (by decide)
        · exact absurd rfl h52
      · have h25 := le_nI (a := 40) (b := wk.1) h25 rfl (by omega) (by omega)
        rw [show stW t p A nm wk = .inl (5 + 16 * p) by simp only [stW]; rw [if_neg (by rw [hv]; decide), if_pos h25]]
        refine d_run 1 rfl ?_
        refine d_gR k35_29 (by first | assumption | exact Nat.le_of_ble_eq_true rfl | omega) ⟨rfl, rfl, rfl⟩ rfl ?_
        refine d_run 1 rfl ?_
        refine d_callT 2 k35_33 (by omega) (Nat.le_of_ble_eq_true rfl) rfl (Nat.le_of_ble_eq_true rfl) (Nat.le_of_ble_eq_true rfl) (recv_ok rfl (by first | assumption | exact Nat.le_of_ble_eq_true rfl | omega)) rfl (c_refuse (c := 5) h) rfl ?_
        refine d_ib k35_36 (by rfl) ?_
        exact ⟨by rw [uF_r, pk_us], (D5.rf.ft (CFt.of (f := 5 + 16 * p) CNx.rf)).wf⟩
    · exact absurd h7 (by decide)
  · refine d_run 1 rfl ?_
    refine d_callT 1 k35_1 (by omega) (Nat.le_of_ble_eq_true rfl) rfl (Nat.le_of_ble_eq_true rfl) (Nat.le_of_ble_eq_true rfl) (recv_ok rfl (by first | assumption | exact Nat.le_of_ble_eq_true rfl | omega)) rfl (c_verb (by omega) h) rfl ?_
    rw [hv]
    refine d_run 3 rfl ?_
    refine d_ic_ne k35_7 (fun h7 => ?_) (fun h7 => ?_)
    · exact absurd rfl h7
    · rw [show stW t p A nm wk = .inl (1 + 16 * p) by simp only [stW]; rw [if_pos hv]]
      refine d_run 1 rfl ?_
      refine d_gR k35_11 (by first | assumption | exact Nat.le_of_ble_eq_true rfl | omega) ⟨rfl, rfl, rfl⟩ rfl ?_
      refine d_run 1 rfl ?_
      refine d_callT 2 k35_15 (by omega) (Nat.le_of_ble_eq_true rfl) rfl (Nat.le_of_ble_eq_true rfl) (Nat.le_of_ble_eq_true rfl) (recv_ok rfl (by first | assumption | exact Nat.le_of_ble_eq_true rfl | omega)) rfl (c_refuse (c := 1) h) rfl ?_
      refine d_ib k35_18 (by rfl) ?_
      exact ⟨by rw [uF_r, pk_us], (D5.rf.ft (CFt.of (f := 1 + 16 * p) CNx.rf)).wf⟩
def CWd (F : FT) (G : GT) (r : Nat ⊕ WK) (F2 : FT) (G2 : GT) : Prop := match r with
  | .inl _ => WFr F G F2 G2
  | .inr w => CW F2 0 w ∧ WFr F G F2 G2
theorem CWd.tr {F F1 F2 : FT} {G G1 G2 : GT} {z : Nat ⊕ WK} (h : WFr F G F1 G1) (h2 : CWd F1 G1 z F2 G2) : CWd F G z F2 G2 := by
  cases z with
  | inl f => exact h.tr h2
  | inr r => exact ⟨h2.1, h.tr h2.2⟩
theorem WFr.at {F F2 : FT} {G G2 : GT} (h : WFr F G F2 G2) {k m : Nat} (hk : k ≠ 5) (h2 : k < 19 ∨ 22 < k ∨ m ≠ 0) : F2 k m = F k m := h.1 k m (by
  simp only [dRw, Bool.or_eq_false_iff, Bool.and_eq_false_iff, decide_eq_false_iff_not]
  omega)
theorem l_rdWeek (hl : l < 2) (hd : 30 ≤ d) (hS5 : lS A ≤ 5) (hP6 : lP A ≤ 6) (hwN : wfN A nm) : ∀ (r i : Nat) (iv : Int32) (p : Nat) (wk : WK) (F : FT) (G : GT), iv = nI i → i + r = 1000 → CRd F G t p → CW F 0 wk → wfK A wk → p ≤ t.1 → F 9 l 9 = nI (lS A) → F 9 l 10 = nI (lP A) → CNm G l A nm → Td E d 34 14 [some (vr 7 0), some (vr 9 l), some (vr 19 0), some (vi iv)] [] x F G b (some (vi (faV (ldW t A nm r p wk)))) (CWd F G (ldW t A nm r p wk)) := by
  intro r
  induction r with
  | zero =>
    intro i iv p wk F G hiv hir h hW hwk hp hS hP hN
    subst hiv
    have hi : i = 1000 := by omega
    refine d_run 2 rfl ?_
    refine d_ic_ge k34_18 (fun h18 => ?_) (fun h18 => ?_)
    · refine d_run 1 rfl ?_
      refine d_ir k34_67 rfl (by rfl) ?_
      exact ⟨hW, WFr.rf⟩
    · exact absurd (lt_nI h18 (b := 1000) rfl (by omega) (by omega)) (by omega)
  | succ r ih =>
    intro i iv p wk F G hiv hir h hW hwk hp hS hP hN
    subst hiv
    have hi : i < 1000 := by omega
    refine d_run 2 rfl ?_
    refine d_ic_ge k34_18 (fun h18 => ?_) (fun h18 => ?_)
    · exact absurd (ge_nI h18 (b := 1000) rfl (by omega) (by omega)) (by omega)
    · refine d_run 1 rfl ?_
      refine d_gR k34_22 (by first | assumption | exact Nat.le_of_ble_eq_true rfl | omega) ⟨rfl, rfl, rfl⟩ rfl ?_
      refine d_gI k34_25 (by first | assumption | exact Nat.le_of_ble_eq_true rfl | omega) ⟨rfl, rfl, Or.inl rfl⟩ ?_
      rw [h.2.2.1]
      have hk4 := tK_4 (t := t) (p := p)
      refine d_if_eq k34_28 (fun h28 => ?_) (fun h28 => ?_)
      · have e28 : tK t p = 0 := nI_inj (b := 0) h28 (by omega) (by omega)
        rw [show ldW t A nm (r + 1) p wk = .inr wk by simp only [ldW]; rw [if_pos e28]]
        refine d_run 1 rfl ?_
        refine d_ir k34_67 rfl (by rfl) ?_
        exact ⟨hW, WFr.rf⟩
      · have e28 : ¬ tK t p = 0 := fun e => h28 (by rw [e]; rfl)
        refine d_run 3 rfl ?_
        refine d_call 3 k34_34 (by omega) (Nat.le_of_ble_eq_true rfl) rfl (Nat.le_of_ble_eq_true rfl) (Nat.le_of_ble_eq_true rfl) (recv_ok rfl (by first | assumption | exact Nat.le_of_ble_eq_true rfl | omega)) rfl (c_stW hl (by omega) h hp hW hS hP hS5 hP6 hN hwN) rfl ?_
        rintro F1 G1 q1
        refine d_if_eq k34_37 (fun h37 => ?_) (fun h37 => ?_)
        · rw [b2i0] at h37
          obtain ⟨f, ef⟩ := okB_f h37
          rw [ef] at q1
          rw [show ldW t A nm (r + 1) p wk = .inl f by simp only [ldW]; rw [if_neg e28]; simp only [oneW]; rw [ef]; rfl]
          refine d_run 1 rfl ?_
          refine d_gR k34_53 (by first | assumption | exact Nat.le_of_ble_eq_true rfl | omega) ⟨rfl, rfl, rfl⟩ rfl ?_
          refine d_gI k34_56 (by first | assumption | exact Nat.le_of_ble_eq_true rfl | omega) ⟨rfl, rfl, Or.inl rfl⟩ ?_
          first | rw [q2.1] | rw [q1.1]
          refine d_ir k34_59 rfl (by rfl) ?_
          first | exact g3.tr (D5.rf.ft q2).wf | exact q1.2
        · rw [b2i0, Bool.not_eq_false] at h37
          obtain ⟨⟨p1, w1⟩, ef⟩ := okB_t h37
          rw [ef] at q1
          obtain ⟨g1, g2, g3⟩ := q1
          have gg := stW_go hp hwk ef
          refine d_run 1 rfl ?_
          refine d_gR k34_41 (by first | assumption | exact Nat.le_of_ble_eq_true rfl | omega) ⟨rfl, rfl, rfl⟩ rfl ?_
          refine d_run 1 rfl ?_
          refine d_call 2 k34_46 (by omega) (Nat.le_of_ble_eq_true rfl) rfl (Nat.le_of_ble_eq_true rfl) (Nat.le_of_ble_eq_true rfl) (recv_ok rfl (by first | assumption | exact Nat.le_of_ble_eq_true rfl | omega)) rfl (c_passS (c := 59) (by decide) (by omega) g1) rfl ?_
          rintro F2 G2 q2
          refine d_if_ne k34_49 (fun h49 => ?_) (fun h49 => ?_)
          · rw [b2i0, Bool.not_eq_false] at h49
            obtain ⟨p3, ef2⟩ := okB_t h49
            rw [ef2] at q2
            obtain ⟨g4, n4⟩ := q2
            have eL : ldW t A nm (r + 1) p wk = ldW t A nm r p3 w1 := by simp only [ldW]; rw [if_neg e28]; simp only [oneW]; rw [ef]; simp only [bnd]; rw [ef2]
            have hp3 : p3 ≤ t.1 := g4.2.2.2.2.2.2.2.2
            have f2 : WFr F G F2 G2 := g3.tr (D5.rf.nx n4).wf
            rw [eL]
            refine d_run 2 rfl ?_
            exact td_mo (ih (i + 1) _ p3 w1 F2 G2 (nI_1 i) (by omega) g4 (g2.d5 (D5.rf.nx n4)) gg.2.2 hp3 (by rw [f2.at (by decide) (by omega)]; exact hS) (by rw [f2.at (by decide) (by omega)]; exact hP) ⟨fun i hi => by rw [f2.2 10 (by decide)]; exact hN.1 i hi, fun i hi => by rw [f2.2 12 (by decide)]; exact hN.2 i hi⟩) (fun F4 G4 e => CWd.tr f2 e)
          · rw [b2i0] at h49
            obtain ⟨f, ef2⟩ := okB_f h49
            rw [ef2] at q2
            rw [show ldW t A nm (r + 1) p wk = .inl f by simp only [ldW]; rw [if_neg e28]; simp only [oneW]; rw [ef]; simp only [bnd]; rw [ef2]]
            refine d_run 1 rfl ?_
            refine d_gR k34_53 (by first | assumption | exact Nat.le_of_ble_eq_true rfl | omega) ⟨rfl, rfl, rfl⟩ rfl ?_
            refine d_gI k34_56 (by first | assumption | exact Nat.le_of_ble_eq_true rfl | omega) ⟨rfl, rfl, Or.inl rfl⟩ ?_
            first | rw [q2.1] | rw [q1.1]
            refine d_ir k34_59 rfl (by rfl) ?_
            first | exact g3.tr (D5.rf.ft q2).wf | exact q1.2
theorem c_rdWeek (hl : l < 2) (hd : 30 ≤ d) (hS5 : lS A ≤ 5) (hP6 : lP A ≤ 6) (hwN : wfN A nm) (hT : CTp F t) (hw : wfTp t) (hS : F 9 l 9 = nI (lS A)) (hP : F 9 l 10 = nI (lP A)) (hN : CNm G l A nm) : Td E d 34 0 [some (vr 7 0), some (vr 9 l), some (vr 19 0), none] [] x F G b (some (vi (faV (ldW t A nm 1000 (tB t 0) w00)))) (CWd F G (ldW t A nm 1000 (tB t 0) w00)) := by
  refine d_run 2 rfl ?_
  refine d_pI k34_2 (by first | assumption | exact Nat.le_of_ble_eq_true rfl | omega | exact Nat.lt_of_lt_of_le (m := 6) (by omega) (Nat.le_of_ble_eq_true rfl)) ⟨rfl, rfl⟩ ?_
  refine d_run 1 rfl ?_
  refine d_gR k34_6 (by first | assumption | exact Nat.le_of_ble_eq_true rfl | omega) ⟨rfl, rfl, rfl⟩ rfl ?_
  have hT2 : CTp (uF F 19 0 3 0) t := by
    obtain ⟨a1, a2, a3⟩ := hT
    refine ⟨?_, a2, ?_⟩
    · rw [uF_k (by decide)]; exact a1
    · rw [uF_k (by decide)]; exact a3
  refine d_call 1 k34_9 (by omega) (Nat.le_of_ble_eq_true rfl) rfl (Nat.le_of_ble_eq_true rfl) (Nat.le_of_ble_eq_true rfl) (recv_ok rfl (by first | assumption | exact Nat.le_of_ble_eq_true rfl | omega)) rfl (c_open hw (by omega) hT2) rfl ?_
  rintro F3 G3 ⟨h3, d3⟩
  have f3 : WFr F G F3 G3 := (show WFr F G (uF F 19 0 3 0) G from ⟨FrD.rf.u rfl, fun _ _ => rfl⟩).tr d3.wf
  have hW3 : CW F3 0 w00 := ⟨by rw [d3.at (k := 19) (by decide), uF_r, pk_us]; rfl, by decide, fun i hi => absurd hi (by show ¬ i < 0; omega), fun i hi => absurd hi (by show ¬ i < 0; omega), fun i hi => absurd hi (by show ¬ i < 0; omega)⟩
  refine d_run 2 rfl ?_
  exact td_mo (l_rdWeek hl hd hS5 hP6 hwN 1000 0 _ (tB t 0) w00 F3 G3 rfl (by omega) h3 hW3 ⟨by decide, fun i hi => absurd hi (by show ¬ i < 0; omega)⟩ (tB_le (Nat.zero_le _)).2 (by rw [f3.at (by decide) (by omega)]; exact hS) (by rw [f3.at (by decide) (by omega)]; exact hP) ⟨fun i hi => by rw [f3.2 10 (by decide)]; exact hN.1 i hi, fun i hi => by rw [f3.2 12 (by decide)]; exact hN.2 i hi⟩) (fun F4 G4 e => CWd.tr f3 e)
end T7
