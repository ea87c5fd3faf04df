/-! PLAN OF THE CLASS -/
abbrev PS : Type := Int32 × ((Nat → Int32) × (Nat → Int32))
def plO (A : LA) (s : ST) (p q : Nat) : Bool := decide (nI q = sAt s p) || cwkA A s p q
def plR (A : LA) (p N : Nat) : Nat → ST → PS → PS
  | 0, s, t => if t.1 < sLf s p then (sLf s p, t.2.1, t.2.1) else t
  | k + 1, s, t => lpN (fun q t => if plO A s p q = true then plR A p N k (hourA A (wlkA s p q)) (t.1, upd t.2.1 (N - (k + 1)) (nI q), t.2.2) else t) 0 (lS A) t
def plF (A : LA) (p N k : Nat) (s : ST) (q : Nat) (t : PS) : PS := if plO A s p q = true then plR A p N k (hourA A (wlkA s p q)) (t.1, upd t.2.1 (N - (k + 1)) (nI q), t.2.2) else t
def g_plan (o : SG) (u v w : Int32) : Bool := isN u (lP (gA o)) && isW2 v 1 4 && isW2 w 0 v
def planR (o : SG) (p N : Nat) : PS := plR (gA o) p N N (gS o) (-1, fun _ => 0, fun _ => 0)
def q_plan (o : SG) (u v w : Int32) : Int32 := if g_plan o u v w = true then (if w = 0 then (planR o (ix u) (ix v)).1 else (planR o (ix u) (ix v)).2.2 (ix w - 1)) else -1
def hrs0 (v : Int32) : Prop := ∃ c, c ≤ 99 ∧ v = nI c
theorem lpN_pr {σ : Type} {f : Nat → σ → σ} {I : σ → Prop} : ∀ (k i : Nat) (s : σ), (∀ j s, i ≤ j → j < i + k → I s → I (f j s)) → I s → I (lpN f i k s)
  | 0, _, _, _, h => h
  | k + 1, i, s, hf, h => lpN_pr k (i + 1) (f i s) (fun j s a c => hf j s (by omega) (by omega)) (hf i s (by omega) (by omega) h)
theorem lpN_ap {σ : Type} {f : Nat → σ → σ} : ∀ (k m i : Nat) (s : σ), lpN f i (k + m) s = lpN f (i + k) m (lpN f i k s)
  | 0, m, i, s => by rw [Nat.zero_add]; rfl
  | k + 1, m, i, s => by
    rw [show k + 1 + m = (k + m) + 1 by omega]
    simp only [lpN]
    rw [lpN_ap k m (i + 1), show i + 1 + k = i + (k + 1) by omega]
theorem wfS_lf {A : LA} {s : ST} {p : Nat} (h : wfS A s) (hp : p < lP A) : hrs0 (sLf s p) := by
  obtain ⟨c, hc, e, _⟩ := h.2.1 p hp
  exact ⟨c, hc, e⟩
theorem plR_ok {A : LA} (hA : wfL A) {p N : Nat} (hp : p < lP A) : ∀ (k : Nat) (s : ST) (t : PS), wfS A s → ((t.1 = -1 ∨ hrs0 t.1) → hrs0 (plR A p N k s t).1) ∧ (hrs0 t.1 → hrs0 (plR A p N k s t).1)
  | 0, s, t, hs => by
    have h0 := wfS_lf hs hp
    have hh : (t.1 = -1 ∨ hrs0 t.1) → hrs0 (plR A p N 0 s t).1 := by
      intro h
      simp only [plR]
      split
      · exact h0
      · rename_i hn
        rcases h with h | h
        · obtain ⟨c, hc, e⟩ := h0
          exfalso
          apply hn
          rw [h, e]
          exact Int32.lt_of_lt_of_le (show (-1 : Int32) < 0 by decide) (nI_pos' (by omega))
        · exact h
    exact ⟨hh, fun h => hh (Or.inr h)⟩
  | k + 1, s, t, hs => by
    have h5 := hA.1
    have st : ∀ q (t : PS), q < lS A → plO A s p q = true → (t.1 = -1 ∨ hrs0 t.1) → hrs0 (plF A p N k s q t).1 := by
      intro q t hq ho h
      simp only [plF]
      rw [if_pos ho]
      exact (plR_ok hA hp k _ _ (wfS_hour hA (wfS_wlk hs hq))).1 h
    have st2 : ∀ q (t : PS), q < lS A → hrs0 t.1 → hrs0 (plF A p N k s q t).1 := by
      intro q t hq h
      by_cases ho : plO A s p q = true
      · exact st q t hq ho (Or.inr h)
      · simp only [plF]
        rw [if_neg ho]
        exact h
    have st3 : ∀ q (t : PS), q < lS A → (t.1 = -1 ∨ hrs0 t.1) → ((plF A p N k s q t).1 = -1 ∨ hrs0 (plF A p N k s q t).1) := by
      intro q t hq h
      by_cases ho : plO A s p q = true
      · exact Or.inr (st q t hq ho h)
      · simp only [plF]
        rw [if_neg ho]
        exact h
    have e0 : plR A p N (k + 1) s t = lpN (plF A p N k s) 0 (lS A) t := rfl
    rw [e0]
    have hh : (t.1 = -1 ∨ hrs0 t.1) → hrs0 (lpN (plF A p N k s) 0 (lS A) t).1 := by
      intro h
      obtain ⟨a, ha, ea⟩ := hs.1 p hp
      rw [show lS A = a + ((lS A - (a + 1)) + 1) by omega, lpN_ap]
      simp only [lpN]
      refine lpN_pr (I := fun t => hrs0 t.1) (lS A - (a + 1)) (0 + a + 1) _ (fun j s2 h1 h2 => st2 j s2 (by omega)) ?_
      refine st _ _ (by omega) (by simp [plO, ea]) ?_
      exact lpN_pr (I := fun t => t.1 = -1 ∨ hrs0 t.1) a 0 _ (fun j s2 h1 h2 => st3 j s2 (by omega)) h
    exact ⟨hh, fun h => hh (Or.inr h)⟩
def CPs (F : FT) (N dd : Nat) (t : PS) : Prop := F 31 0 3 = t.1 ∧ F 31 0 4 = nI N ∧ eqR dd (F 33 0) t.2.1 ∧ (t.1 = -1 ∨ eqR N (F 34 0) t.2.2)
def dPl (dd k m : Nat) : Bool := (decide (25 ≤ k) && decide (k ≤ 28) && decide (22 + dd < m)) || decide (k = 18) || decide (k = 31) || decide (k = 33) || decide (k = 34)
theorem dPl_Q {dd : Nat} {F F2 : FT} (h : FrD (dPl dd) F F2) : FrD dQ F F2 := h.mo (fun k m e => by
  simp only [dQ, Bool.or_eq_false_iff, Bool.and_eq_false_iff, decide_eq_false_iff_not] at e
  simp only [dPl, Bool.or_eq_false_iff, Bool.and_eq_false_iff, decide_eq_false_iff_not]
  omega)
theorem dSt_Pl {dd : Nat} {F F2 : FT} (h : FrD (dSt (22 + (dd + 1))) F F2) : FrD (dPl dd) F F2 := h.mo (fun k m e => by
  simp only [dPl, Bool.or_eq_false_iff, Bool.and_eq_false_iff, decide_eq_false_iff_not] at e
  exact dSt_no (by omega) (by omega))
theorem dPl_s {dd : Nat} {F F2 : FT} (h : FrD (dPl (dd + 1)) F F2) : FrD (dPl dd) F F2 := h.mo (fun k m e => by
  simp only [dPl, Bool.or_eq_false_iff, Bool.and_eq_false_iff, decide_eq_false_iff_not] at e ⊢
  omega)
theorem CPs.fr {F F2 : FT} {N dd : Nat} {t : PS} (h : CPs F N dd t) (h31 : F2 31 0 = F 31 0) (h33 : F2 33 0 = F 33 0) (h34 : F2 34 0 = F 34 0) : CPs F2 N dd t := by
  unfold CPs
  rw [h31, h33, h34]
  exact h
theorem Rs_steps {b : Bool} {j : Nat} : Rs b 32 0 j = some (22 + j) := rfl
theorem CPs.st {F F2 : FT} {N dd n : Nat} {t : PS} (h : CPs F N dd t) (hf : FrD (dSt n) F F2) : CPs F2 N dd t := h.fr (hf 31 0 (dSt_no (by omega) (by omega))) (hf 33 0 (dSt_no (by omega) (by omega))) (hf 34 0 (dSt_no (by omega) (by omega)))
def TryP (E : EV) (x : Nat) (G : GT) (b : Bool) (o : SG) (p N k dd : Nat) : Prop := ∀ (d : Nat) (F : FT) (s : ST) (t : PS), 20 + k ≤ d → CInv F G b o → CS F (22 + dd) (lP (gA o)) s → wfS (gA o) s → CPs F N dd t → Td E d 25 0 [some (vr 31 0), some (vr 9 (lx b)), some (vi (nI p)), some (vi (nI dd)), none, none] [] x F G b none (fun F2 G2 => G2 = G ∧ CPs F2 N dd (plR (gA o) p N k s t) ∧ FrD (dPl dd) F F2)
section P10
variable {E : EV} {d x : Nat} {F : FT} {G : GT} {b : Bool} {o : SG} {u v w : Int32}
theorem l_try (hw : WF o) {p N kk dd : Nat} (hp : p < lP (gA o)) (hN : N ≤ 4) (hdd : dd + (kk + 1) = N) (hd : 20 + (kk + 1) ≤ d) (IH : TryP E x G b o p N kk (dd + 1)) {s : ST} (hws : wfS (gA o) s) : ∀ (r i : Nat) (iv : Int32) (t : PS) (F : FT), iv = nI i → i + r = lS (gA o) → CInv F G b o → CS F (22 + dd) (lP (gA o)) s → CPs F N dd t → Td E d 25 59 [some (vr 31 0), some (vr 9 (lx b)), some (vi (nI p)), some (vi (nI dd)), some (vr 25 (22 + dd)), some (vi iv)] [] x F G b none (fun F2 G2 => G2 = G ∧ CPs F2 N dd (lpN (plF (gA o) p N kk s) i r t) ∧ FrD (dPl dd) F F2) := by
  intro r
  induction r with
  | zero =>
    intro i iv t F hiv hir h hT hC
    subst hiv
    have hi : i = lS (gA o) := by omega
    have hL := h.2.1
    have hA := hw.1
    have hS := h.2.2.2.1.1
    have hwS := hw.2.1.1
    have hP6 := hA.2.1
    have hS5 := hA.1
    have hS5b := hS5
    refine d_run 2 rfl ?_
    refine d_gI k25_62 (by first | assumption | exact lx2 _ | exact Nat.le_of_ble_eq_true rfl | omega | exact Nat.lt_of_lt_of_le (m := 2) (by omega) (Nat.le_of_ble_eq_true rfl)) ⟨rfl, rfl, Or.inl rfl⟩ ?_
    refine d_ic_ge k25_65 (fun h65 => ?_) (fun h65 => ?_)
    · refine d_ret k25_156 ?_
      exact ⟨rfl, hC, FrD.rf⟩
    · exact absurd (lt_nI h65 hL.1 (by omega) (by omega)) (by omega)
  | succ r ih =>
    intro i iv t F hiv hir h hT hC
    subst hiv
    have hi : i < lS (gA o) := by omega
    have hL := h.2.1
    have hA := hw.1
    have hS := h.2.2.2.1.1
    have hwS := hw.2.1.1
    have hP6 := hA.2.1
    have hS5 := hA.1
    have hS5b := hS5
    refine d_run 2 rfl ?_
    refine d_gI k25_62 (by first | assumption | exact lx2 _ | exact Nat.le_of_ble_eq_true rfl | omega | exact Nat.lt_of_lt_of_le (m := 2) (by omega) (Nat.le_of_ble_eq_true rfl)) ⟨rfl, rfl, Or.inl rfl⟩ ?_
    refine d_ic_ge k25_65 (fun h65 => ?_) (fun h65 => ?_)
    · exact absurd (ge_nI h65 hL.1 (by omega) (by omega)) (by omega)
    · refine d_run 2 rfl ?_
      refine d_gR k25_72 (by first | assumption | exact Nat.le_of_ble_eq_true rfl | omega | exact Nat.lt_of_lt_of_le (m := 27) (by omega) (Nat.le_of_ble_eq_true rfl)) ⟨rfl, rfl, rfl⟩ rfl ?_
      refine d_run 1 rfl ?_
      refine d_ia (N := 6) k25_76 (by decide) (by first | assumption | exact Nat.le_of_ble_eq_true rfl | omega | exact Nat.lt_of_lt_of_le (m := 27) (by omega) (Nat.le_of_ble_eq_true rfl)) ⟨⟨rfl, rfl⟩, rfl, rfl⟩ (by first | assumption | omega) rfl ?_
      rw [show F 26 (22 + dd) p = sAt s p from hT.1 p hp]
      refine d_ic_eq k25_77 (fun h77 => ?_) (fun h77 => ?_)
      · have ho : plO (gA o) s p i = true := by simp [plO, h77]
        refine d_run 1 rfl ?_
        refine d_gR k25_93 (by first | assumption | exact Nat.le_of_ble_eq_true rfl | omega) ⟨rfl, rfl, rfl⟩ rfl ?_
        refine d_run 2 rfl ?_
        refine d_is (N := 4) k25_99 (by first | assumption | exact Nat.le_of_ble_eq_true rfl | omega) ⟨rfl, rfl⟩ (show dd < 4 by omega) rfl ?_
        have f1 : FrD (dPl dd) F (uF F 33 0 dd (nI i)) := FrD.rf.u (by simp [dPl])
        have hT1 : CS (uF F 33 0 dd (nI i)) (22 + dd) (lP (gA o)) s := hT.fr (fun k a b => by rw [uF_k (by omega)])
        have h1 := h.fr (dPl_Q f1) (fun _ _ => rfl)
        have hC1 : CPs (uF F 33 0 dd (nI i)) N (dd + 1) (t.1, upd t.2.1 (N - (kk + 1)) (nI i), t.2.2) := by
          obtain ⟨c1, c2, c3, c4⟩ := hC
          refine ⟨by rw [uF_k (by decide)]; exact c1, by rw [uF_k (by decide)]; exact c2, ?_, by rw [uF_k (by decide)]; exact c4⟩
          rw [uF_r, show N - (kk + 1) = dd by omega]
          intro j hj
          by_cases e : j = dd
          · subst e
            rw [pk_us]
            exact pk_us.symm
          · rw [pk_un e]
            show _ = upd t.2.1 dd (nI i) j
            rw [pk_un e]
            exact c3 j (by omega)
        refine d_run 1 rfl ?_
        refine d_gR k25_101 (by first | assumption | exact Nat.le_of_ble_eq_true rfl | omega) ⟨rfl, rfl, rfl⟩ rfl ?_
        refine d_run 3 rfl ?_
        refine d_ra (N := 5) k25_107 (by first | assumption | exact Nat.le_of_ble_eq_true rfl | omega) ⟨⟨rfl, rfl⟩, rfl, rfl, rfl⟩ (show dd + 1 < 5 by omega) (nI_1 dd) Rs_steps ?_
        refine d_run 1 rfl ?_
        refine d_call 2 k25_110 (by omega) (Nat.le_of_ble_eq_true rfl) rfl (Nat.le_of_ble_eq_true rfl) (Nat.le_of_ble_eq_true rfl) (recv_ok rfl (by first | assumption | exact Nat.le_of_ble_eq_true rfl | omega | exact Nat.lt_of_lt_of_le (m := 27) (by omega) (Nat.le_of_ble_eq_true rfl))) rfl (a_copyS (n := 22 + (dd + 1)) (m := 22 + dd) (by omega) (by omega) (by omega) (by omega) hP6 hT1) rfl ?_
        rintro F2 G2 ⟨rfl, k2, f2⟩
        have k3 := a_wlk (A := gA o) (p := p) (q := i) k2
        have hT3 := hT1.st (f2.tr k3.2) (by omega)
        have h3 := (h1.fr (dPl_Q (dSt_Pl (f2.tr k3.2))) (fun _ _ => rfl))
        have hC3 := hC1.st (f2.tr k3.2)
        refine d_run 1 rfl ?_
        refine d_gR k25_114 (by first | assumption | exact Nat.le_of_ble_eq_true rfl | omega) ⟨rfl, rfl, rfl⟩ rfl ?_
        refine d_run 3 rfl ?_
        refine d_ra (N := 5) k25_120 (by first | assumption | exact Nat.le_of_ble_eq_true rfl | omega) ⟨⟨rfl, rfl⟩, rfl, rfl, rfl⟩ (show dd + 1 < 5 by omega) (nI_1 dd) Rs_steps ?_
        refine d_gR k25_121 (by first | assumption | exact Nat.le_of_ble_eq_true rfl | omega | exact Nat.lt_of_lt_of_le (m := 27) (by omega) (Nat.le_of_ble_eq_true rfl)) ⟨rfl, rfl, rfl⟩ rfl ?_
        refine d_run 2 rfl ?_
        refine d_is (N := 6) k25_127 (by first | assumption | exact Nat.le_of_ble_eq_true rfl | omega | exact Nat.lt_of_lt_of_le (m := 27) (by omega) (Nat.le_of_ble_eq_true rfl)) ⟨rfl, rfl⟩ (by first | assumption | omega) rfl ?_
        refine d_run 1 rfl ?_
        refine d_gR k25_129 (by first | assumption | exact Nat.le_of_ble_eq_true rfl | omega) ⟨rfl, rfl, rfl⟩ rfl ?_
        refine d_run 3 rfl ?_
        refine d_ra (N := 5) k25_135 (by first | assumption | exact Nat.le_of_ble_eq_true rfl | omega) ⟨⟨rfl, rfl⟩, rfl, rfl, rfl⟩ (show dd + 1 < 5 by omega) (nI_1 dd) Rs_steps ?_
        refine d_run 1 rfl ?_
        refine d_call 2 k25_137 (by omega) (Nat.le_of_ble_eq_true rfl) rfl (Nat.le_of_ble_eq_true rfl) (Nat.le_of_ble_eq_true rfl) (recv_ok rfl (by first | assumption | exact Nat.le_of_ble_eq_true rfl | omega | exact Nat.lt_of_lt_of_le (m := 27) (by omega) (Nat.le_of_ble_eq_true rfl))) rfl (a_hour (n := 22 + (dd + 1)) (by omega) (lx2 b) h3.2.1 hA k3.1 (by omega)) rfl ?_
        rintro F4 G4 ⟨rfl, k4, f4⟩
        have hT4 := hT3.st f4 (by omega)
        have h4 := h3.fr (dPl_Q (dSt_Pl f4)) (fun _ _ => rfl)
        have hC4 := hC3.st f4
        refine d_run 7 rfl ?_
        rw [show ibop 0 (nI dd) 1 = nI (dd + 1) from nI_1 dd]
        refine d_call 4 k25_147 (by omega) (Nat.le_of_ble_eq_true rfl) rfl (Nat.le_of_ble_eq_true rfl) (Nat.le_of_ble_eq_true rfl) (recv_ok rfl (by first | assumption | exact Nat.le_of_ble_eq_true rfl | omega)) rfl (IH (d - 1) F4 _ _ (by omega) h4 k4 (wfS_hour hA (wfS_wlk hws hi)) hC4) rfl ?_
        rintro F5 G5 ⟨rfl, k5, f5⟩
        have hT5 : CS F5 (22 + dd) (lP (gA o)) s := hT4.fr (fun k a b => f5 k _ (by simp only [dPl, Bool.or_eq_false_iff, Bool.and_eq_false_iff, decide_eq_false_iff_not]; omega))
        have ff : FrD (dPl dd) F F5 := f1.tr ((dSt_Pl (f2.tr k3.2)).tr ((dSt_Pl f4).tr (dPl_s f5)))
        refine d_run 2 rfl ?_
        first
        | (simp only [lpN, plF]
           rw [if_pos ho]
           exact td_mo (ih (i + 1) _ _ F5 (nI_1 i) (by omega) (h.fr (dPl_Q ff) (fun _ _ => rfl)) hT5 ⟨k5.1, k5.2.1, fun j hj => k5.2.2.1 j (by omega), k5.2.2.2⟩) (fun F6 G6 e => ⟨e.1, e.2.1, ff.tr e.2.2⟩))
        | (simp only [lpN, plF]
           rw [if_neg (by simp [ho])]
           exact ih (i + 1) _ _ F (nI_1 i) (by omega) h hT hC)
      · refine d_run 4 rfl ?_
        refine d_callT 4 k25_86 (by omega) (Nat.le_of_ble_eq_true rfl) rfl (Nat.le_of_ble_eq_true rfl) (Nat.le_of_ble_eq_true rfl) (recv_ok rfl (by first | assumption | exact Nat.le_of_ble_eq_true rfl | omega | exact Nat.lt_of_lt_of_le (m := 27) (by omega) (Nat.le_of_ble_eq_true rfl))) rfl (a_canWalk (n := 22 + dd) (by omega) (lx2 b) hL hA hT hws hp (by omega)) rfl ?_
        refine d_if_eq k25_89 (fun h89 => ?_) (fun h89 => ?_)
        · rw [b2i0] at h89
          have ho : plO (gA o) s p i = false := by simp [plO, h77, h89]
          refine d_run 2 rfl ?_
          first
          | (simp only [lpN, plF]
             rw [if_pos ho]
             exact td_mo (ih (i + 1) _ _ F5 (nI_1 i) (by omega) (h.fr (dPl_Q ff) (fun _ _ => rfl)) hT5 ⟨k5.1, k5.2.1, fun j hj => k5.2.2.1 j (by omega), k5.2.2.2⟩) (fun F6 G6 e => ⟨e.1, e.2.1, ff.tr e.2.2⟩))
          | (simp only [lpN, plF]
             rw [if_neg (by simp [ho])]
             exact ih (i + 1) _ _ F (nI_1 i) (by omega) h hT hC)
        · rw [b2i0, Bool.not_eq_false] at h89
          have ho : plO (gA o) s p i = true := by simp [plO, h89]
          refine d_run 1 rfl ?_
          refine d_gR k25_93 (by first | assumption | exact Nat.le_of_ble_eq_true rfl | omega) ⟨rfl, rfl, rfl⟩ rfl ?_
          refine d_run 2 rfl ?_
          refine d_is (N := 4) k25_99 (by first | assumption | exact Nat.le_of_ble_eq_true rfl | omega) ⟨rfl, rfl⟩ (show dd < 4 by omega) rfl ?_
          have f1 : FrD (dPl dd) F (uF F 33 0 dd (nI i)) := FrD.rf.u (by simp [dPl])
          have hT1 : CS (uF F 33 0 dd (nI i)) (22 + dd) (lP (gA o)) s := hT.fr (fun k a b => by rw [uF_k (by omega)])
          have h1 := h.fr (dPl_Q f1) (fun _ _ => rfl)
          have hC1 : CPs (uF F 33 0 dd (nI i)) N (dd + 1) (t.1, upd t.2.1 (N - (kk + 1)) (nI i), t.2.2) := by
            obtain ⟨c1, c2, c3, c4⟩ := hC
            refine ⟨by rw [uF_k (by decide)]; exact c1, by rw [uF_k (by decide)]; exact c2, ?_, by rw [uF_k (by decide)]; exact c4⟩
            rw [uF_r, show N - (kk + 1) = dd by omega]
            intro j hj
            by_cases e : j = dd
            · subst e
              rw [pk_us]
              exact pk_us.symm
            · rw [pk_un e]
              show _ = upd t.2.1 dd (nI i) j
              rw [pk_un e]
              exact c3 j (by omega)
          refine d_run 1 rfl ?_
          refine d_gR k25_101 (by first | assumption | exact Nat.le_of_ble_eq_true rfl | omega) ⟨rfl, rfl, rfl⟩ rfl ?_
          refine d_run 3 rfl ?_
          refine d_ra (N := 5) k25_107 (by first | assumption | exact Nat.le_of_ble_eq_true rfl | omega) ⟨⟨rfl, rfl⟩, rfl, rfl, rfl⟩ (show dd + 1 < 5 by omega) (nI_1 dd) Rs_steps ?_
          refine d_run 1 rfl ?_
          refine d_call 2 k25_110 (by omega) (Nat.le_of_ble_eq_true rfl) rfl (Nat.le_of_ble_eq_true rfl) (Nat.le_of_ble_eq_true rfl) (recv_ok rfl (by first | assumption | exact Nat.le_of_ble_eq_true rfl | omega | exact Nat.lt_of_lt_of_le (m := 27) (by omega) (Nat.le_of_ble_eq_true rfl))) rfl (a_copyS (n := 22 + (dd + 1)) (m := 22 + dd) (by omega) (by omega) (by omega) (by omega) hP6 hT1) rfl ?_
          rintro F2 G2 ⟨rfl, k2, f2⟩
          have k3 := a_wlk (A := gA o) (p := p) (q := i) k2
          have hT3 := hT1.st (f2.tr k3.2) (by omega)
          have h3 := (h1.fr (dPl_Q (dSt_Pl (f2.tr k3.2))) (fun _ _ => rfl))
          have hC3 := hC1.st (f2.tr k3.2)
          refine d_run 1 rfl ?_
          refine d_gR k25_114 (by first | assumption | exact Nat.le_of_ble_eq_true rfl | omega) ⟨rfl, rfl, rfl⟩ rfl ?_
          refine d_run 3 rfl ?_
          refine d_ra (N := 5) k25_120 (by first | assumption | exact Nat.le_of_ble_eq_true rfl | omega) ⟨⟨rfl, rfl⟩, rfl, rfl, rfl⟩ (show dd + 1 < 5 by omega) (nI_1 dd) Rs_steps ?_
          refine d_gR k25_121 (by first | assumption | exact Nat.le_of_ble_eq_true rfl | omega | exact Nat.lt_of_lt_of_le (m := 27) (by omega) (Nat.le_of_ble_eq_true rfl)) ⟨rfl, rfl, rfl⟩ rfl ?_
          refine d_run 2 rfl ?_
          refine d_is (N := 6) k25_127 (by first | assumption | exact Nat.le_of_ble_eq_true rfl | omega | exact Nat.lt_of_lt_of_le (m := 27) (by omega) (Nat.le_of_ble_eq_true rfl)) ⟨rfl, rfl⟩ (by first | assumption | omega) rfl ?_
          refine d_run 1 rfl ?_
          refine d_gR k25_129 (by first | assumption | exact Nat.le_of_ble_eq_true rfl | omega) ⟨rfl, rfl, rfl⟩ rfl ?_
          refine d_run 3 rfl ?_
          refine d_ra (N := 5) k25_135 (by first | assumption | exact Nat.le_of_ble_eq_true rfl | omega) ⟨⟨rfl, rfl⟩, rfl, rfl, rfl⟩ (show dd + 1 < 5 by omega) (nI_1 dd) Rs_steps ?_
          refine d_run 1 rfl ?_
          refine d_call 2 k25_137 (by omega) (Nat.le_of_ble_eq_true rfl) rfl (Nat.le_of_ble_eq_true rfl) (Nat.le_of_ble_eq_true rfl) (recv_ok rfl (by first | assumption | exact Nat.le_of_ble_eq_true rfl | omega | exact Nat.lt_of_lt_of_le (m := 27) (by omega) (Nat.le_of_ble_eq_true rfl))) rfl (a_hour (n := 22 + (dd + 1)) (by omega) (lx2 b) h3.2.1 hA k3.1 (by omega)) rfl ?_
          rintro F4 G4 ⟨rfl, k4, f4⟩
          have hT4 := hT3.st f4 (by omega)
          have h4 := h3.fr (dPl_Q (dSt_Pl f4)) (fun _ _ => rfl)
          have hC4 := hC3.st f4
          refine d_run 7 rfl ?_
          rw [show ibop 0 (nI dd) 1 = nI (dd + 1) from nI_1 dd]
          refine d_call 4 k25_147 (by omega) (Nat.le_of_ble_eq_true rfl) rfl (Nat.le_of_ble_eq_true rfl) (Nat.le_of_ble_eq_true rfl) (recv_ok rfl (by first | assumption | exact Nat.le_of_ble_eq_true rfl | omega)) rfl (IH (d - 1) F4 _ _ (by omega) h4 k4 (wfS_hour hA (wfS_wlk hws hi)) hC4) rfl ?_
          rintro F5 G5 ⟨rfl, k5, f5⟩
          have hT5 : CS F5 (22 + dd) (lP (gA o)) s := hT4.fr (fun k a b => f5 k _ (by simp only [dPl, Bool.or_eq_false_iff, Bool.and_eq_false_iff, decide_eq_false_iff_not]; omega))
          have ff : FrD (dPl dd) F F5 := f1.tr ((dSt_Pl (f2.tr k3.2)).tr ((dSt_Pl f4).tr (dPl_s f5)))
          refine d_run 2 rfl ?_
          first
          | (simp only [lpN, plF]
             rw [if_pos ho]
             exact td_mo (ih (i + 1) _ _ F5 (nI_1 i) (by omega) (h.fr (dPl_Q ff) (fun _ _ => rfl)) hT5 ⟨k5.1, k5.2.1, fun j hj => k5.2.2.1 j (by omega), k5.2.2.2⟩) (fun F6 G6 e => ⟨e.1, e.2.1, ff.tr e.2.2⟩))
          | (simp only [lpN, plF]
             rw [if_neg (by simp [ho])]
             exact ih (i + 1) _ _ F (nI_1 i) (by omega) h hT hC)
theorem a_try (hw : WF o) {p N : Nat} (hp : p < lP (gA o)) (hN : N ≤ 4) : ∀ (k dd : Nat), dd + k = N → TryP E x G b o p N k dd := by
  intro k
  induction k with
  | zero =>
    intro dd hdd d F s t hd h hT hws hC
    have hL := h.2.1
    have hA := hw.1
    have hS := h.2.2.2.1.1
    have hwS := hw.2.1.1
    have hP6 := hA.2.1
    have hS5 := hA.1
    have hdN : dd = N := by omega
    subst hdN
    obtain ⟨c1, c2, c3, c4⟩ := hC
    refine d_run 1 rfl ?_
    refine d_gR k25_1 (by first | assumption | exact Nat.le_of_ble_eq_true rfl | omega) ⟨rfl, rfl, rfl⟩ rfl ?_
    refine d_run 1 rfl ?_
    refine d_ra (N := 5) k25_5 (by first | assumption | exact Nat.le_of_ble_eq_true rfl | omega) ⟨⟨rfl, rfl⟩, rfl, rfl, rfl⟩ (show dd < 5 by omega) rfl Rs_steps ?_
    refine d_run 3 rfl ?_
    refine d_gI k25_10 (by first | assumption | exact Nat.le_of_ble_eq_true rfl | omega) ⟨rfl, rfl, Or.inl rfl⟩ ?_
    rw [c2]
    refine d_ic_lt k25_13 (fun h13 => ?_) (fun h13 => ?_)
    · exact absurd ((nI_ltI (by omega) (by omega)).mp h13) (by omega)
    · refine d_run 1 rfl ?_
      refine d_gR k25_18 (by first | assumption | exact Nat.le_of_ble_eq_true rfl | omega | exact Nat.lt_of_lt_of_le (m := 27) (by omega) (Nat.le_of_ble_eq_true rfl)) ⟨rfl, rfl, rfl⟩ rfl ?_
      refine d_run 1 rfl ?_
      refine d_ia (N := 6) k25_22 (by decide) (by first | assumption | exact Nat.le_of_ble_eq_true rfl | omega | exact Nat.lt_of_lt_of_le (m := 27) (by omega) (Nat.le_of_ble_eq_true rfl)) ⟨⟨rfl, rfl⟩, rfl, rfl⟩ (by first | assumption | omega) rfl ?_
      rw [show F 27 (22 + dd) p = sLf s p from hT.2.2.1 p hp]
      refine d_run 1 rfl ?_
      refine d_gI k25_24 (by first | assumption | exact Nat.le_of_ble_eq_true rfl | omega) ⟨rfl, rfl, Or.inl rfl⟩ ?_
      rw [c1]
      refine d_ic_le k25_27 (fun h27 => ?_) (fun h27 => ?_)
      · have e1 : plR (gA o) p dd 0 s t = t := by simp only [plR]; rw [if_neg (Int32.not_lt.mpr h27)]
        rw [e1]
        refine d_ret k25_55 ?_
        first
        | exact ⟨rfl, ⟨c1, c2, c3, c4⟩, FrD.rf⟩
        | (refine ⟨rfl, ⟨?_, ?_, ?_, Or.inr ?_⟩, (FrD.rf.u (by simp [dPl])).c (by simp [dPl])⟩
           · rw [cF_k (by decide)]; simp [uF]
           · rw [cF_k (by decide)]; simp [uF, c2]
           · rw [cF_k (by decide), uF_k (by decide)]; exact c3
           · intro j hj
             rw [cF_at (show j < 4 by omega), uF_k (by decide)]
             exact c3 j hj)
      · have e1 : plR (gA o) p dd 0 s t = (sLf s p, t.2.1, t.2.1) := by simp only [plR]; rw [if_pos (Int32.not_le.mp h27)]
        rw [e1]
        refine d_run 2 rfl ?_
        refine d_gR k25_33 (by first | assumption | exact Nat.le_of_ble_eq_true rfl | omega | exact Nat.lt_of_lt_of_le (m := 27) (by omega) (Nat.le_of_ble_eq_true rfl)) ⟨rfl, rfl, rfl⟩ rfl ?_
        refine d_run 1 rfl ?_
        refine d_ia (N := 6) k25_37 (by decide) (by first | assumption | exact Nat.le_of_ble_eq_true rfl | omega | exact Nat.lt_of_lt_of_le (m := 27) (by omega) (Nat.le_of_ble_eq_true rfl)) ⟨⟨rfl, rfl⟩, rfl, rfl⟩ (by first | assumption | omega) rfl ?_
        rw [show F 27 (22 + dd) p = sLf s p from hT.2.2.1 p hp]
        refine d_pI k25_38 (by first | assumption | exact Nat.le_of_ble_eq_true rfl | omega) ⟨rfl, rfl⟩ ?_
        refine d_run 1 rfl ?_
        refine d_gR k25_42 (by first | assumption | exact Nat.le_of_ble_eq_true rfl | omega) ⟨rfl, rfl, rfl⟩ rfl ?_
        refine d_run 2 rfl ?_
        refine d_gR k25_47 (by first | assumption | exact Nat.le_of_ble_eq_true rfl | omega) ⟨rfl, rfl, rfl⟩ rfl ?_
        refine d_run 2 rfl ?_
        refine d_cpy (mm := 4) k25_52 (by omega) (Nat.le_of_ble_eq_true rfl) ⟨⟨rfl, rfl⟩, rfl, rfl⟩ (by first | assumption | exact Nat.le_of_ble_eq_true rfl | omega) (by first | assumption | exact Nat.le_of_ble_eq_true rfl | omega) (Nat.le_of_ble_eq_true rfl) (Nat.le_of_ble_eq_true rfl) rfl rfl rfl ?_
        refine d_ret k25_55 ?_
        first
        | exact ⟨rfl, ⟨c1, c2, c3, c4⟩, FrD.rf⟩
        | (refine ⟨rfl, ⟨?_, ?_, ?_, Or.inr ?_⟩, (FrD.rf.u (by simp [dPl])).c (by simp [dPl])⟩
           · rw [cF_k (by decide)]; simp [uF]
           · rw [cF_k (by decide)]; simp [uF, c2]
           · rw [cF_k (by decide), uF_k (by decide)]; exact c3
           · intro j hj
             rw [cF_at (show j < 4 by omega), uF_k (by decide)]
             exact c3 j hj)
  | succ k ihk =>
    intro dd hdd d F s t hd h hT hws hC
    have hL := h.2.1
    have hA := hw.1
    have hS := h.2.2.2.1.1
    have hwS := hw.2.1.1
    have hP6 := hA.2.1
    have hS5 := hA.1
    have IH := ihk (dd + 1) (by omega)
    have c2 := hC.2.1
    refine d_run 1 rfl ?_
    refine d_gR k25_1 (by first | assumption | exact Nat.le_of_ble_eq_true rfl | omega) ⟨rfl, rfl, rfl⟩ rfl ?_
    refine d_run 1 rfl ?_
    refine d_ra (N := 5) k25_5 (by first | assumption | exact Nat.le_of_ble_eq_true rfl | omega) ⟨⟨rfl, rfl⟩, rfl, rfl, rfl⟩ (show dd < 5 by omega) rfl Rs_steps ?_
    refine d_run 3 rfl ?_
    refine d_gI k25_10 (by first | assumption | exact Nat.le_of_ble_eq_true rfl | omega) ⟨rfl, rfl, Or.inl rfl⟩ ?_
    rw [c2]
    refine d_ic_lt k25_13 (fun h13 => ?_) (fun h13 => ?_)
    · refine d_run 2 rfl ?_
      exact l_try hw hp hN hdd hd IH hws (lS (gA o)) 0 _ t F rfl (by omega) h hT hC
    · exact absurd ((nI_ltI (by omega) (by omega)).mpr (by omega)) h13
def dPs (k m : Nat) : Bool := (decide (25 ≤ k) && decide (k ≤ 28) && decide (22 ≤ m)) || decide (k = 18) || decide (k = 31) || decide (k = 33) || decide (k = 34)
theorem dQ_pl {F F2 : FT} (h : FrD dPs F F2) : FrD dQ F F2 := h.mo (fun k m e => by
  simp only [dQ, Bool.or_eq_false_iff, Bool.and_eq_false_iff, decide_eq_false_iff_not] at e
  simp only [dPs, Bool.or_eq_false_iff, Bool.and_eq_false_iff, decide_eq_false_iff_not]
  omega)
theorem dPl_ps {F F2 : FT} (h : FrD (dPl 0) F F2) : FrD dPs F F2 := h.mo (fun k m e => by
  simp only [dPs, Bool.or_eq_false_iff, Bool.and_eq_false_iff, decide_eq_false_iff_not] at e
  simp only [dPl, Bool.or_eq_false_iff, Bool.and_eq_false_iff, decide_eq_false_iff_not]
  omega)
theorem dSt_ps {F F2 : FT} (h : FrD (dSt 22) F F2) : FrD dPs F F2 := h.mo (fun k m e => by
  simp only [dPs, Bool.or_eq_false_iff, Bool.and_eq_false_iff, decide_eq_false_iff_not] at e
  exact dSt_no (by omega) (by omega))
theorem a_plsearch (hw : WF o) (hd : 50 ≤ d) {p N : Nat} (hp : p < lP (gA o)) (hN : N ≤ 4) (h : CInv F G b o) : Td E d 24 0 [some (vr 31 0), some (vr 9 (lx b)), some (vr 25 0), some (vi (nI p)), some (vi (nI N))] [] x F G b none (fun F2 G2 => G2 = G ∧ CPs F2 N 0 (planR o p N) ∧ FrD dPs F F2) := by
  have hL := h.2.1
  have hA := hw.1
  have hS := h.2.2.2.1.1
  have hwS := hw.2.1.1
  have hP6 := hA.2.1
  have hS5 := hA.1
  have hmin : (if nI N < 4 then nI N else (4 : Int32)) = nI N := by
    by_cases e : N = 4
    · subst e; decide
    · exact if_pos ((nI_ltI (b := 4) (by omega) (by omega)).mpr (by omega))
  refine d_run 1 rfl ?_
  refine d_gR k24_1 (by first | assumption | exact Nat.le_of_ble_eq_true rfl | omega) ⟨rfl, rfl, rfl⟩ rfl ?_
  refine d_run 1 rfl ?_
  refine d_ra (N := 5) (j := 0) k24_5 (by first | assumption | exact Nat.le_of_ble_eq_true rfl | omega) ⟨⟨rfl, rfl⟩, rfl, rfl, rfl⟩ (by decide) rfl (Rs_steps (j := 0)) ?_
  refine d_run 1 rfl ?_
  refine d_call 2 k24_7 (by omega) (Nat.le_of_ble_eq_true rfl) rfl (Nat.le_of_ble_eq_true rfl) (Nat.le_of_ble_eq_true rfl) (recv_ok rfl (by first | assumption | exact Nat.le_of_ble_eq_true rfl | omega | exact Nat.lt_of_lt_of_le (m := 27) (by omega) (Nat.le_of_ble_eq_true rfl))) rfl (a_copyS (n := 22 + 0) (m := 0) (by omega) (by omega) (by omega) (by omega) hP6 hS) rfl ?_
  rintro F1 G1 ⟨rfl, k1, f1⟩
  refine d_run 2 rfl ?_
  refine d_pI k24_12 (by first | assumption | exact Nat.le_of_ble_eq_true rfl | omega) ⟨rfl, rfl⟩ ?_
  refine d_run 3 rfl ?_
  refine d_min k24_19 (by omega) (Nat.le_of_ble_eq_true rfl) ?_
  rw [hmin]
  refine d_pI k24_22 (by first | assumption | exact Nat.le_of_ble_eq_true rfl | omega) ⟨rfl, rfl⟩ ?_
  refine d_run 4 rfl ?_
  refine d_call 4 k24_29 (by omega) (Nat.le_of_ble_eq_true rfl) rfl (Nat.le_of_ble_eq_true rfl) (Nat.le_of_ble_eq_true rfl) (recv_ok rfl (by first | assumption | exact Nat.le_of_ble_eq_true rfl | omega)) rfl (a_try hw hp hN N 0 (by omega) (d - 1) (uF (uF F1 31 0 3 (-1)) 31 0 4 (nI N)) (gS o) (-1, fun _ => 0, fun _ => 0) (by omega) ((h.fr (dQ_pl (dSt_ps f1)) (fun _ _ => rfl)).fr (dQ_pl ((FrD.rf.u rfl).u rfl)) (fun _ _ => rfl)) (k1.fr (fun k a b => by rw [uF_k (by omega), uF_k (by omega)])) hwS ⟨by simp [uF], by simp [uF], fun j hj => absurd hj (by omega), Or.inl rfl⟩) rfl ?_
  rintro F3 G3 ⟨rfl, k3, f3⟩
  refine d_ret k24_32 ?_
  exact ⟨rfl, k3, (dSt_ps f1).tr (((FrD.rf.u rfl).u rfl).tr (dPl_ps f3))⟩
theorem a_plan (h : CInv F G b o) (hw : WF o) (hd : 100 ≤ d) : Td E d 101 0 [some (vr 1 0), some (vi u), some (vi v), some (vi w)] [] x F G b (some (vi (q_plan o u v w))) (CPost b (o) F G) := by
  have hL := h.2.1
  have hA := hw.1
  have hS := h.2.2.2.1.1
  have hwS := hw.2.1.1
  have hP6 := hA.2.1
  have hS5 := hA.1
  cases hN1 : isN u (lP (gA o)) with
  | false =>
    rw [show q_plan o u v w = -1 by simp [q_plan, g_plan, hN1]]
    refine d_run 2 rfl ?_
    refine d_callT 2 k101_2 (by omega) (Nat.le_of_ble_eq_true rfl) rfl (Nat.le_of_ble_eq_true rfl) (Nat.le_of_ble_eq_true rfl) (recv_ok rfl (by first | assumption | exact Nat.le_of_ble_eq_true rfl | omega)) rfl (a_isP hL) rfl ?_
    rw [hN1]
    refine d_if_eq k101_5 (fun h5 => ?_) (fun h5 => ?_)
    · refine d_run 1 rfl ?_
      refine d_ir k101_27 rfl (by rfl) ?_
      exact CPost.q h FrD.rf
    · exact absurd h5 (by decide)
  | true =>
    cases hN2 : isW2 v 1 4 with
    | false =>
      rw [show q_plan o u v w = -1 by simp [q_plan, g_plan, hN2]]
      refine d_run 2 rfl ?_
      refine d_callT 2 k101_2 (by omega) (Nat.le_of_ble_eq_true rfl) rfl (Nat.le_of_ble_eq_true rfl) (Nat.le_of_ble_eq_true rfl) (recv_ok rfl (by first | assumption | exact Nat.le_of_ble_eq_true rfl | omega)) rfl (a_isP hL) rfl ?_
      rw [hN1]
      refine d_if_eq k101_5 (fun h5 => ?_) (fun h5 => ?_)
      · exact absurd h5 (by decide)
      · refine d_run 3 rfl ?_
        refine d_callT 3 k101_11 (by omega) (Nat.le_of_ble_eq_true rfl) rfl (Nat.le_of_ble_eq_true rfl) (Nat.le_of_ble_eq_true rfl) recv_st rfl c_within rfl ?_
        rw [hN2]
        refine d_if_eq k101_14 (fun h14 => ?_) (fun h14 => ?_)
        · refine d_run 1 rfl ?_
          refine d_ir k101_27 rfl (by rfl) ?_
          exact CPost.q h FrD.rf
        · exact absurd h14 (by decide)
    | true =>
      cases hN3 : isW2 w 0 v with
      | false =>
        rw [show q_plan o u v w = -1 by simp [q_plan, g_plan, hN3]]
        refine d_run 2 rfl ?_
        refine d_callT 2 k101_2 (by omega) (Nat.le_of_ble_eq_true rfl) rfl (Nat.le_of_ble_eq_true rfl) (Nat.le_of_ble_eq_true rfl) (recv_ok rfl (by first | assumption | exact Nat.le_of_ble_eq_true rfl | omega)) rfl (a_isP hL) rfl ?_
        rw [hN1]
        refine d_if_eq k101_5 (fun h5 => ?_) (fun h5 => ?_)
        · exact absurd h5 (by decide)
        · refine d_run 3 rfl ?_
          refine d_callT 3 k101_11 (by omega) (Nat.le_of_ble_eq_true rfl) rfl (Nat.le_of_ble_eq_true rfl) (Nat.le_of_ble_eq_true rfl) recv_st rfl c_within rfl ?_
          rw [hN2]
          refine d_if_eq k101_14 (fun h14 => ?_) (fun h14 => ?_)
          · exact absurd h14 (by decide)
          · refine d_run 3 rfl ?_
            refine d_callT 3 k101_20 (by omega) (Nat.le_of_ble_eq_true rfl) rfl (Nat.le_of_ble_eq_true rfl) (Nat.le_of_ble_eq_true rfl) recv_st rfl c_within rfl ?_
            rw [hN3]
            refine d_if_ne k101_23 (fun h23 => ?_) (fun h23 => ?_)
            · exact absurd h23 (by decide)
            · refine d_run 1 rfl ?_
              refine d_ir k101_27 rfl (by rfl) ?_
              exact CPost.q h FrD.rf
      | true =>
        rw [show q_plan o u v w = (if w = 0 then (planR o (ix u) (ix v)).1 else (planR o (ix u) (ix v)).2.2 (ix w - 1)) by simp [q_plan, g_plan, hN1, hN2, hN3]]
        obtain ⟨p, hp, rfl⟩ := isN_ex hN1 (by omega)
        obtain ⟨N, hN, rfl⟩ := isW2_ex (H := 4) hN2 ⟨by decide, rfl, by decide⟩
        obtain ⟨m, hm, rfl⟩ := isW2_ex (H := N) hN3 ⟨by decide, rfl, by omega⟩
        rw [ix_nI (show p < 100000 by omega), ix_nI (show N < 100000 by omega), ix_nI (show m < 100000 by omega)]
        have hok := (plR_ok hA (N := N) hp N (gS o) (-1, fun _ => 0, fun _ => 0) hwS).1 (Or.inl rfl)
        have hn1 : ¬ (planR o p N).1 = -1 := by
          obtain ⟨c, hc, e⟩ := hok
          intro e2
          have e3 : nI c = -1 := e.symm.trans e2
          have : (0 : Int32) ≤ -1 := by rw [← e3]; exact nI_pos' (by omega)
          exact absurd this (by decide)
        refine d_run 2 rfl ?_
        refine d_callT 2 k101_2 (by omega) (Nat.le_of_ble_eq_true rfl) rfl (Nat.le_of_ble_eq_true rfl) (Nat.le_of_ble_eq_true rfl) (recv_ok rfl (by first | assumption | exact Nat.le_of_ble_eq_true rfl | omega)) rfl (a_isP hL) rfl ?_
        rw [hN1]
        refine d_if_eq k101_5 (fun h5 => ?_) (fun h5 => ?_)
        · exact absurd h5 (by decide)
        · refine d_run 3 rfl ?_
          refine d_callT 3 k101_11 (by omega) (Nat.le_of_ble_eq_true rfl) rfl (Nat.le_of_ble_eq_true rfl) (Nat.le_of_ble_eq_true rfl) recv_st rfl c_within rfl ?_
          rw [hN2]
          refine d_if_eq k101_14 (fun h14 => ?_) (fun h14 => ?_)
          · exact absurd h14 (by decide)
          · refine d_run 3 rfl ?_
            refine d_callT 3 k101_20 (by omega) (Nat.le_of_ble_eq_true rfl) rfl (Nat.le_of_ble_eq_true rfl) (Nat.le_of_ble_eq_true rfl) recv_st rfl c_within rfl ?_
            rw [hN3]
            refine d_if_ne k101_23 (fun h23 => ?_) (fun h23 => ?_)
            · refine d_run 1 rfl ?_
              refine d_gR k101_29 (by first | assumption | exact Nat.le_of_ble_eq_true rfl | omega) ⟨rfl, rfl, rfl⟩ rfl ?_
              refine d_run 1 rfl ?_
              refine d_gR k101_33 (by first | assumption | exact Nat.le_of_ble_eq_true rfl | omega) ⟨rfl, rfl, rfl⟩ (Rs_land _) ?_
              refine d_run 1 rfl ?_
              refine d_gR k101_37 (by first | assumption | exact Nat.le_of_ble_eq_true rfl | omega) ⟨rfl, rfl, rfl⟩ rfl ?_
              refine d_gR k101_40 (by first | assumption | exact Nat.le_of_ble_eq_true rfl | omega | exact Nat.lt_of_lt_of_le (m := 5) (by omega) (Nat.le_of_ble_eq_true rfl)) ⟨rfl, rfl, rfl⟩ rfl ?_
              refine d_run 2 rfl ?_
              refine d_call 5 k101_45 (by omega) (Nat.le_of_ble_eq_true rfl) rfl (Nat.le_of_ble_eq_true rfl) (Nat.le_of_ble_eq_true rfl) (recv_ok rfl (by first | assumption | exact Nat.le_of_ble_eq_true rfl | omega)) rfl (a_plsearch hw (by omega) hp hN h) rfl ?_
              rintro F1 G1 ⟨rfl, ⟨c1, c2, c3, c4⟩, f1⟩
              have c4 := c4.resolve_left hn1
              refine d_run 1 rfl ?_
              refine d_if_ne k101_49 (fun h49 => ?_) (fun h49 => ?_)
              · have hm0 : ¬ m = 0 := fun e => h49 (by rw [e]; rfl)
                refine d_run 1 rfl ?_
                refine d_gR k101_63 (by first | assumption | exact Nat.le_of_ble_eq_true rfl | omega) ⟨rfl, rfl, rfl⟩ rfl ?_
                refine d_gR k101_66 (by first | assumption | exact Nat.le_of_ble_eq_true rfl | omega) ⟨rfl, rfl, rfl⟩ rfl ?_
                refine d_run 3 rfl ?_
                refine d_ia (N := 4) (j := m - 1) k101_72 (by decide) (by first | assumption | exact Nat.le_of_ble_eq_true rfl | omega) ⟨⟨rfl, rfl⟩, rfl, rfl⟩ (show m - 1 < 4 by omega) (nI_m1 (by omega)) ?_
                rw [c4 (m - 1) (by omega)]
                refine d_ir k101_73 rfl (by simp [h49]) ?_
                exact CPost.q h (dQ_pl f1)
              · refine d_run 1 rfl ?_
                refine d_gR k101_53 (by first | assumption | exact Nat.le_of_ble_eq_true rfl | omega) ⟨rfl, rfl, rfl⟩ rfl ?_
                refine d_gI k101_56 (by first | assumption | exact Nat.le_of_ble_eq_true rfl | omega) ⟨rfl, rfl, Or.inl rfl⟩ ?_
                rw [c1]
                refine d_run 1 rfl ?_
                refine d_ir k101_73 rfl (by simp [h49]) ?_
                exact CPost.q h (dQ_pl f1)
            · exact absurd h23 (by decide)
end P10
