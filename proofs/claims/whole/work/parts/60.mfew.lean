/-! FEWEST OF THE REFERENCE -/
def MU (F0 F : FT) : Prop := (∀ i, i < 50 → F 70 0 i = F0 70 0 i) ∧ (∀ i, i ≠ 50 → F 40 0 i = F0 40 0 i) ∧ FrK dMk F0 F ∧ F 74 = F0 74
theorem MU.rf {F : FT} : MU F F := ⟨fun _ _ => rfl, fun _ _ => rfl, FrK.rf, rfl⟩
theorem MU.tr {F F1 F2 : FT} (h : MU F F1) (h2 : MU F1 F2) : MU F F2 := ⟨fun i hi => (h2.1 i hi).trans (h.1 i hi), fun i hi => (h2.2.1 i hi).trans (h.2.1 i hi), h.2.2.1.tr h2.2.2.1, h2.2.2.2.trans h.2.2.2⟩
theorem MU.post {F0 F : FT} {G : GT} {o : SG} (h : MInv F0 G o) (hw : WF o) (hu : MU F0 F) : MPost o F0 G F G := MPost.q h hw hu.2.2.1 (hu.2.1 1 (by decide)) (hu.2.1 49 (by decide)) hu.2.2.2 hu.1 (fun _ _ => rfl)
theorem MT.mu {F0 F F2 : FT} {P : Nat} {s : ST} (hT : MT F0 F P s) (q1 : ∀ j, j < 50 → F2 70 0 (0 + j) = F 71 0 (0 + j)) (q3 : FrK (fun k => decide (k = 70)) F F2) : MU F0 F2 := by
  refine ⟨fun i hi => ?_, fun i hi => ?_, hT.2.2.2.1.tr (d70_k q3), ?_⟩
  · have := q1 i hi
    rw [Nat.zero_add] at this
    rw [this]; exact hT.2.1 i hi
  · rw [q3 40 rfl]; exact hT.2.2.1 i hi
  · rw [q3 74 rfl]; exact hT.2.2.2.2
/-- how many of the first six bits, as a number -/
def nbN (i : Nat) : Nat := ix (nbt (nI i))
theorem nbN_eq (i : Nat) : nbt (nI i) = nI (nbN i) ∧ nbN i ≤ 6 := by
  obtain ⟨c, hc, e, _⟩ := cnt_nI (f := bit (nI i)) 6
  have e2 : nbt (nI i) = nI c := e
  unfold nbN
  rw [e2, ix_nI (by omega)]
  exact ⟨rfl, hc⟩
theorem nbN_P {P a : Nat} (hP : P ≤ 6) (ha : a < 2 ^ P) : nbN a ≤ P := by
  have key : ∀ P, P < 7 → ∀ a, a < 2 ^ P → nbN a ≤ P := by decide +kernel
  exact key P (by omega) a ha
theorem fewS_none {f : Nat → Int32} {z : Nat} : ∀ (k i : Nat), (∀ j, i ≤ j → j < i + k → ¬ (nbt (nI j) = nI z ∧ ¬ f j = -2)) → fewS f z i k = none
  | 0, _, _ => rfl
  | k + 1, i, h => by
    simp only [fewS]
    rw [if_neg (h i (by omega) (by omega))]
    exact fewS_none k (i + 1) (fun j a c => h j (by omega) (by omega))
theorem fewS_some {f : Nat → Int32} {z a : Nat} : ∀ (k i : Nat), i ≤ a → a < i + k → (nbt (nI a) = nI z ∧ ¬ f a = -2) → (∀ j, i ≤ j → j < a → ¬ (nbt (nI j) = nI z ∧ ¬ f j = -2)) → fewS f z i k = some a
  | 0, _, h1, h2, _, _ => absurd h2 (by omega)
  | k + 1, i, h1, h2, h3, h4 => by
    simp only [fewS]
    by_cases e : i = a
    · subst e
      rw [if_pos h3]
    · rw [if_neg (h4 i (by omega) (by omega))]
      exact fewS_some k (i + 1) (by omega) (by omega) h3 (fun j a c => h4 j (by omega) c)
theorem fewZ_none {f : Nat → Int32} {M : Nat} (h : ∀ j, j < M → f j = -2) : ∀ (k z : Nat), fewZ f M z k = none
  | 0, _ => rfl
  | k + 1, z => by
    simp only [fewZ]
    rw [fewS_none M 0 (fun j _ c e => e.2 (h j (by omega)))]
    exact fewZ_none h k (z + 1)
theorem fewZ_some {f : Nat → Int32} {M a : Nat} (ha : a < M) (hf : ¬ f a = -2) (h : ∀ j, j < M → ¬ f j = -2 → nbN a < nbN j ∨ (nbN a = nbN j ∧ a ≤ j)) : ∀ (k z : Nat), z ≤ nbN a → nbN a < z + k → fewZ f M z k = some a
  | 0, _, h1, h2 => absurd h2 (by omega)
  | k + 1, z, h1, h2 => by
    have h6 := (nbN_eq a).2
    have hz : ∀ j, nbt (nI j) = nI z → nbN j = z := fun j e => by
      rw [(nbN_eq j).1] at e
      have := (nbN_eq j).2
      exact nI_inj e (by omega) (by omega)
    simp only [fewZ]
    by_cases e : z = nbN a
    · have e1 : fewS f z 0 M = some a := fewS_some M 0 (by omega) (by omega) ⟨by rw [e]; exact (nbN_eq a).1, hf⟩ (fun j _ c e2 => by
        have := hz j e2.1
        rcases h j (by omega) e2.2 with h3 | h3 <;> omega)
      rw [e1]
      rfl
    · rw [fewS_none M 0 (fun j _ c e2 => by
        have := hz j e2.1
        rcases h j (by omega) e2.2 with h3 | h3 <;> omega)]
      exact fewZ_some ha hf h k (z + 1) (by omega) (by omega)
def savM (f : Nat → Bool) : Nat → Nat → Int32
  | _, 0 => -1
  | i, k + 1 => if f i = true then nI i else savM f (i + 1) k
theorem savM_N {f : Nat → Bool} : ∀ (k i : Nat), i + k ≤ 100 → (savM f i k = -1 ∧ savN f i k = -2) ∨ (∃ q, q < i + k ∧ savM f i k = nI q ∧ savN f i k = nI q)
  | 0, _, _ => Or.inl ⟨rfl, rfl⟩
  | k + 1, i, h => by
    simp only [savM, savN]
    by_cases e : f i = true
    · rw [if_pos e, if_pos e]
      exact Or.inr ⟨i, by omega, rfl, rfl⟩
    · rw [if_neg e, if_neg e]
      rcases savM_N (f := f) k (i + 1) (by omega) with h1 | ⟨q, h1, h2⟩
      · exact Or.inl h1
      · exact Or.inr ⟨q, by omega, h2⟩
theorem nI_ne_m2 {q : Nat} (h : q ≤ 100000) : ¬ nI q = -2 := fun e => nn_nI h (by rw [e]; decide)
section M13
variable {E : EV} {d x : Nat} {F : FT} {G : GT} {b : Bool} {o : SG} {u v w : Int32} {A : LA} {s : ST}
theorem l_mmove {F0 : FT} (h : MInv F0 G o) (hw : WF o) (hd : 50 ≤ d) {q n : Nat} {R : Option PV} {QQ : FT → GT → Prop} (hq : ∀ p, p < lP (gA o) → bit u p = true → q < lS (gA o)) : ∀ (r i : Nat) (iv : Int32) (s : ST) (F : FT), iv = nI i → i + r = lP (gA o) → MT F0 F (lP (gA o)) s → wfS (gA o) s → (∀ F2, MT F0 F2 (lP (gA o)) (lpN (moveA u q) i r s) → wfS (gA o) (lpN (moveA u q) i r s) → Td E d 210 53 [some (vr 40 0), some (vi u), some (vi (nI q)), some (vi (nI n)), none] [] x F2 G b R (QQ)) → Td E d 210 16 [some (vr 40 0), some (vi u), some (vi (nI q)), some (vi (nI n)), some (vi iv)] [] x F G b R (QQ) := by
  intro r
  induction r with
  | zero =>
    intro i iv s F hiv hir hT hwT kk
    subst hiv
    have hi : i = lP (gA o) := by omega
    have hL := hT.ml h.2.1
    have hA := hw.1
    have hP6 := hA.2.1
    have hS5 := hA.1
    refine d_run 2 rfl ?_
    refine d_gR k210_19 (by first | assumption | exact Nat.le_of_ble_eq_true rfl | omega) ⟨rfl, rfl, rfl⟩ rfl ?_
    refine d_run 1 rfl ?_
    refine d_ia (N := 8) (j := 1) k210_23 (by decide) (by first | assumption | exact Nat.le_of_ble_eq_true rfl | omega) ⟨⟨rfl, rfl⟩, rfl, rfl⟩ (by decide) rfl ?_
    refine d_ic_ge k210_24 (fun h24 => ?_) (fun h24 => ?_)
    · refine d_dr11110 ?_
      exact kk F hT hwT
    · exact absurd (lt_nI h24 hL.2.1 (by omega) (by omega)) (by omega)
  | succ r ih =>
    intro i iv s F hiv hir hT hwT kk
    subst hiv
    have hi : i < lP (gA o) := by omega
    have hL := hT.ml h.2.1
    have hA := hw.1
    have hP6 := hA.2.1
    have hS5 := hA.1
    refine d_run 2 rfl ?_
    refine d_gR k210_19 (by first | assumption | exact Nat.le_of_ble_eq_true rfl | omega) ⟨rfl, rfl, rfl⟩ rfl ?_
    refine d_run 1 rfl ?_
    refine d_ia (N := 8) (j := 1) k210_23 (by decide) (by first | assumption | exact Nat.le_of_ble_eq_true rfl | omega) ⟨⟨rfl, rfl⟩, rfl, rfl⟩ (by decide) rfl ?_
    refine d_ic_ge k210_24 (fun h24 => ?_) (fun h24 => ?_)
    · exact absurd (ge_nI h24 hL.2.1 (by omega) (by omega)) (by omega)
    · refine d_run 6 rfl ?_
      refine d_ic_ne k210_34 (fun h34 => ?_) (fun h34 => ?_)
      · rw [show (ibop 3 (ibop 7 u (nI i)) 1 = 1) = (bit u i = true) from bit1 _ _] at h34
        have eM : moveA u q i s = s := by simp only [moveA]; rw [if_neg h34]
        refine d_run 2 rfl ?_
        simp only [lpN] at kk
        rw [eM] at kk
        first
        | exact ih (i + 1) _ s F (nI_1 i) (by omega) hT hwT kk
        | exact ih (i + 1) _ (wlkA s i q) _ (nI_1 i) (by omega) (hT.st (b_wlk hA hT.1 hi)) (wfS_wlk hwT (hq i hi h34)) kk
      · rw [show (ibop 3 (ibop 7 u (nI i)) 1 = 1) = (bit u i = true) from bit1 _ _] at h34
        have eM : moveA u q i s = wlkA s i q := by simp only [moveA]; rw [if_pos h34]
        refine d_run 1 rfl ?_
        refine d_gR k210_38 (by first | assumption | exact Nat.le_of_ble_eq_true rfl | omega) ⟨rfl, rfl, rfl⟩ rfl ?_
        refine d_run 4 rfl ?_
        refine d_is (N := 50) (j := 2 + i) k210_46 (by first | assumption | exact Nat.le_of_ble_eq_true rfl | omega) ⟨rfl, rfl⟩ (show 2 + i < 50 by omega) (nI_add 2 _) ?_
        refine d_run 2 rfl ?_
        simp only [lpN] at kk
        rw [eM] at kk
        first
        | exact ih (i + 1) _ s F (nI_1 i) (by omega) hT hwT kk
        | exact ih (i + 1) _ (wlkA s i q) _ (nI_1 i) (by omega) (hT.st (b_wlk hA hT.1 hi)) (wfS_wlk hwT (hq i hi h34)) kk
theorem l_mnob {F0 : FT} (h : MInv F0 G o) (hw : WF o) (hd : 50 ≤ d) {q n : Nat} (hn : n ≤ 99) : ∀ (r i : Nat) (iv : Int32) (s : ST) (F : FT), iv = nI i → i + r = n → MT F0 F (lP (gA o)) s → wfS (gA o) s → Td E d 210 56 [some (vr 40 0), some (vi u), some (vi (nI q)), some (vi (nI n)), some (vi iv)] [] x F G b (some (vi (b2i (decide (bset (sitA (lpN (fun _ s => hourA (gA o) s) i r s)) (lP (gA o)) = 0))))) (fun F2 G2 => G2 = G ∧ MU F0 F2) := by
  intro r
  induction r with
  | zero =>
    intro i iv s F hiv hir hT hwT
    subst hiv
    have hi : i = n := by omega
    have hL := hT.ml h.2.1
    have hA := hw.1
    have hP6 := hA.2.1
    have hS5 := hA.1
    refine d_run 2 rfl ?_
    refine d_ic_ge k210_59 (fun h59 => ?_) (fun h59 => ?_)
    · refine d_run 1 rfl ?_
      refine d_callT 1 k210_74 (by omega) (Nat.le_of_ble_eq_true rfl) rfl (Nat.le_of_ble_eq_true rfl) (Nat.le_of_ble_eq_true rfl) (recv_ok rfl (by first | assumption | exact Nat.le_of_ble_eq_true rfl | omega)) rfl (b_sitting hL hA hT.1 (by omega)) rfl ?_
      refine d_if_ne k210_77 (fun h77 => ?_) (fun h77 => ?_)
      · refine d_run 3 rfl ?_
        refine d_gR k210_88 (by first | assumption | exact Nat.le_of_ble_eq_true rfl | omega) ⟨rfl, rfl, rfl⟩ rfl ?_
        refine d_run 2 rfl ?_
        refine d_gR k210_93 (by first | assumption | exact Nat.le_of_ble_eq_true rfl | omega) ⟨rfl, rfl, rfl⟩ rfl ?_
        refine d_run 1 rfl ?_
        refine d_call 4 k210_97 (by omega) (Nat.le_of_ble_eq_true rfl) rfl (Nat.le_of_ble_eq_true rfl) (Nat.le_of_ble_eq_true rfl) recv_st rfl (b_cp71_70 (a := 0) (c := 0) (by omega) (by omega)) rfl ?_
        rintro F2 G2 ⟨rfl, q1, q2, q3⟩
        refine d_run 1 rfl ?_
        refine d_ib k210_102 (by simp [lpN, h77, b2i]) ?_
        exact ⟨rfl, hT.mu q1 q3⟩
      · refine d_run 4 rfl ?_
        refine d_gR k210_88 (by first | assumption | exact Nat.le_of_ble_eq_true rfl | omega) ⟨rfl, rfl, rfl⟩ rfl ?_
        refine d_run 2 rfl ?_
        refine d_gR k210_93 (by first | assumption | exact Nat.le_of_ble_eq_true rfl | omega) ⟨rfl, rfl, rfl⟩ rfl ?_
        refine d_run 1 rfl ?_
        refine d_call 4 k210_97 (by omega) (Nat.le_of_ble_eq_true rfl) rfl (Nat.le_of_ble_eq_true rfl) (Nat.le_of_ble_eq_true rfl) recv_st rfl (b_cp71_70 (a := 0) (c := 0) (by omega) (by omega)) rfl ?_
        rintro F2 G2 ⟨rfl, q1, q2, q3⟩
        refine d_run 1 rfl ?_
        refine d_ib k210_102 (by simp [lpN, h77, b2i]) ?_
        exact ⟨rfl, hT.mu q1 q3⟩
    · exact absurd (lt_nI h59 rfl (by omega) (by omega)) (by omega)
  | succ r ih =>
    intro i iv s F hiv hir hT hwT
    subst hiv
    have hi : i < n := by omega
    have hL := hT.ml h.2.1
    have hA := hw.1
    have hP6 := hA.2.1
    have hS5 := hA.1
    refine d_run 2 rfl ?_
    refine d_ic_ge k210_59 (fun h59 => ?_) (fun h59 => ?_)
    · exact absurd (ge_nI h59 rfl (by omega) (by omega)) (by omega)
    · refine d_run 1 rfl ?_
      refine d_call 1 k210_63 (by omega) (Nat.le_of_ble_eq_true rfl) rfl (Nat.le_of_ble_eq_true rfl) (Nat.le_of_ble_eq_true rfl) (recv_ok rfl (by first | assumption | exact Nat.le_of_ble_eq_true rfl | omega)) rfl (b_passes hL hA hT.1 hwT (by omega)) rfl ?_
      rintro F1 G1 ⟨rfl, m1⟩
      refine d_run 3 rfl ?_
      exact ih (i + 1) _ (hourA (gA o) s) F1 (nI_1 i) (by omega) (hT.st m1) (wfS_hour hA hwT)
theorem b_nobody (h : MInv F G o) (hw : WF o) (hd : 50 ≤ d) {q n : Nat} (hn : n ≤ 99) (hq : ∀ p, p < lP (gA o) → bit u p = true → q < lS (gA o)) : Td E d 210 0 [some (vr 40 0), some (vi u), some (vi (nI q)), some (vi (nI n)), none] [] x F G b (some (vi (b2i (endsA (gA o) n (lpN (moveA u q) 0 (lP (gA o)) (gS o)))))) (fun F2 G2 => G2 = G ∧ MU F F2) := by
  have hS := h.2.2.2.1.1
  refine d_run 1 rfl ?_
  refine d_gR k210_1 (by first | assumption | exact Nat.le_of_ble_eq_true rfl | omega) ⟨rfl, rfl, rfl⟩ rfl ?_
  refine d_run 2 rfl ?_
  refine d_gR k210_6 (by first | assumption | exact Nat.le_of_ble_eq_true rfl | omega) ⟨rfl, rfl, rfl⟩ rfl ?_
  refine d_run 1 rfl ?_
  refine d_call 4 k210_10 (by omega) (Nat.le_of_ble_eq_true rfl) rfl (Nat.le_of_ble_eq_true rfl) (Nat.le_of_ble_eq_true rfl) recv_st rfl (b_cp70_71 (a := 0) (c := 0) (by omega) (by omega)) rfl ?_
  rintro F1 G1 ⟨rfl, q1, q2, q3⟩
  have hT := MT.beg hS q1 q3
  refine d_run 2 rfl ?_
  refine l_mmove h hw hd hq (lP (gA o)) 0 _ (gS o) F1 rfl (by omega) hT hw.2.1.1 ?_
  intro F2 hT2 hwT2
  refine d_run 2 rfl ?_
  exact l_mnob h hw hd hn n 0 _ _ F2 rfl (by omega) hT2 hwT2
theorem l_mallW (h : MInv F G o) (hw : WF o) (hd : 50 ≤ d) {q : Nat} : ∀ (r i : Nat) (iv : Int32) , iv = nI i → i + r = lP (gA o) → Td E d 211 2 [some (vr 40 0), some (vi u), some (vi (nI q)), some (vi iv)] [] x F G b (some (vi (b2i (allB (fun p => !bit u p || cwkA (gA o) (gS o) p q) i r)))) (fun F2 G2 => G2 = G ∧ F2 = F) := by
  intro r
  induction r with
  | zero =>
    intro i iv  hiv hir 
    subst hiv
    have hi : i = lP (gA o) := by omega
    have hL := h.2.1
    have hA := hw.1
    have hS := h.2.2.2.1.1
    have hwS := hw.2.1.1
    have hP6 := hA.2.1
    have hS5 := hA.1
    refine d_run 2 rfl ?_
    refine d_gR k211_4 (by first | assumption | exact Nat.le_of_ble_eq_true rfl | omega) ⟨rfl, rfl, rfl⟩ rfl ?_
    refine d_run 1 rfl ?_
    refine d_ia (N := 8) (j := 1) k211_8 (by decide) (by first | assumption | exact Nat.le_of_ble_eq_true rfl | omega) ⟨⟨rfl, rfl⟩, rfl, rfl⟩ (by decide) rfl ?_
    refine d_ic_ge k211_9 (fun h9 => ?_) (fun h9 => ?_)
    · refine d_run 1 rfl ?_
      refine d_ib k211_39 (by rfl) ?_
      exact ⟨rfl, rfl⟩
    · exact absurd (lt_nI h9 hL.2.1 (by omega) (by omega)) (by omega)
  | succ r ih =>
    intro i iv  hiv hir 
    subst hiv
    have hi : i < lP (gA o) := by omega
    have hL := h.2.1
    have hA := hw.1
    have hS := h.2.2.2.1.1
    have hwS := hw.2.1.1
    have hP6 := hA.2.1
    have hS5 := hA.1
    refine d_run 2 rfl ?_
    refine d_gR k211_4 (by first | assumption | exact Nat.le_of_ble_eq_true rfl | omega) ⟨rfl, rfl, rfl⟩ rfl ?_
    refine d_run 1 rfl ?_
    refine d_ia (N := 8) (j := 1) k211_8 (by decide) (by first | assumption | exact Nat.le_of_ble_eq_true rfl | omega) ⟨⟨rfl, rfl⟩, rfl, rfl⟩ (by decide) rfl ?_
    refine d_ic_ge k211_9 (fun h9 => ?_) (fun h9 => ?_)
    · exact absurd (ge_nI h9 hL.2.1 (by omega) (by omega)) (by omega)
    · refine d_run 6 rfl ?_
      refine d_ic_ne k211_18 (fun h18 => ?_) (fun h18 => ?_)
      · rw [show (ibop 3 (ibop 7 u (nI i)) 1 = 1) = (bit u i = true) from bit1 _ _] at h18
        rw [Bool.not_eq_true] at h18
        rw [show allB (fun p => !bit u p || cwkA (gA o) (gS o) p q) i (r + 1) = allB (fun p => !bit u p || cwkA (gA o) (gS o) p q) (i + 1) r by simp [allB, h18]]
        refine d_run 2 rfl ?_
        exact ih (i + 1) _ (nI_1 i) (by omega)
      · rw [show (ibop 3 (ibop 7 u (nI i)) 1 = 1) = (bit u i = true) from bit1 _ _] at h18
        refine d_run 3 rfl ?_
        refine d_callT 3 k211_24 (by omega) (Nat.le_of_ble_eq_true rfl) rfl (Nat.le_of_ble_eq_true rfl) (Nat.le_of_ble_eq_true rfl) (recv_ok rfl (by first | assumption | exact Nat.le_of_ble_eq_true rfl | omega)) rfl (b_canWalk hL hA hS hwS hi (by omega)) rfl ?_
        refine d_if_ne k211_27 (fun h27 => ?_) (fun h27 => ?_)
        · rw [b2i0, Bool.not_eq_false] at h27
          rw [show allB (fun p => !bit u p || cwkA (gA o) (gS o) p q) i (r + 1) = allB (fun p => !bit u p || cwkA (gA o) (gS o) p q) (i + 1) r by simp [allB, h27]]
          refine d_run 2 rfl ?_
          exact ih (i + 1) _ (nI_1 i) (by omega)
        · rw [b2i0] at h27
          refine d_run 1 rfl ?_
          refine d_ib k211_31 (by simp [allB, h18, h27, b2i]) ?_
          exact ⟨rfl, rfl⟩
theorem b_allW (h : MInv F G o) (hw : WF o) (hd : 50 ≤ d) {q : Nat} : Td E d 211 0 [some (vr 40 0), some (vi u), some (vi (nI q)), none] [] x F G b (some (vi (b2i (allW (gA o) (gS o) u q)))) (fun F2 G2 => G2 = G ∧ F2 = F) := by
  refine d_run 2 rfl ?_
  exact l_mallW h hw hd (lP (gA o)) 0 _ rfl (by omega)
theorem l_mwhere (hw : WF o) (hd : 60 ≤ d) {n : Nat} (hn : n ≤ 99) : ∀ (r i : Nat) (iv : Int32) (F : FT), iv = nI i → i + r = lS (gA o) → MInv F G o → Td E d 212 2 [some (vr 40 0), some (vi u), some (vi (nI n)), some (vi iv)] [] x F G b (some (vi (savM (savT (gA o) (gS o) u n) i r))) (fun F2 G2 => G2 = G ∧ MU F F2) := by
  intro r
  induction r with
  | zero =>
    intro i iv F hiv hir h
    subst hiv
    have hi : i = lS (gA o) := by omega
    have hL := h.2.1
    have hA := hw.1
    have hS := h.2.2.2.1.1
    have hwS := hw.2.1.1
    have hP6 := hA.2.1
    have hS5 := hA.1
    refine d_run 2 rfl ?_
    refine d_gR k212_4 (by first | assumption | exact Nat.le_of_ble_eq_true rfl | omega) ⟨rfl, rfl, rfl⟩ rfl ?_
    refine d_run 1 rfl ?_
    refine d_ia (N := 8) (j := 0) k212_8 (by decide) (by first | assumption | exact Nat.le_of_ble_eq_true rfl | omega) ⟨⟨rfl, rfl⟩, rfl, rfl⟩ (by decide) rfl ?_
    refine d_ic_ge k212_9 (fun h9 => ?_) (fun h9 => ?_)
    · refine d_run 1 rfl ?_
      refine d_ir k212_40 rfl (by rfl) ?_
      exact ⟨rfl, MU.rf⟩
    · exact absurd (lt_nI h9 hL.1 (by omega) (by omega)) (by omega)
  | succ r ih =>
    intro i iv F hiv hir h
    subst hiv
    have hi : i < lS (gA o) := by omega
    have hL := h.2.1
    have hA := hw.1
    have hS := h.2.2.2.1.1
    have hwS := hw.2.1.1
    have hP6 := hA.2.1
    have hS5 := hA.1
    refine d_run 2 rfl ?_
    refine d_gR k212_4 (by first | assumption | exact Nat.le_of_ble_eq_true rfl | omega) ⟨rfl, rfl, rfl⟩ rfl ?_
    refine d_run 1 rfl ?_
    refine d_ia (N := 8) (j := 0) k212_8 (by decide) (by first | assumption | exact Nat.le_of_ble_eq_true rfl | omega) ⟨⟨rfl, rfl⟩, rfl, rfl⟩ (by decide) rfl ?_
    refine d_ic_ge k212_9 (fun h9 => ?_) (fun h9 => ?_)
    · exact absurd (ge_nI h9 hL.1 (by omega) (by omega)) (by omega)
    · refine d_run 3 rfl ?_
      refine d_call 3 k212_15 (by omega) (Nat.le_of_ble_eq_true rfl) rfl (Nat.le_of_ble_eq_true rfl) (Nat.le_of_ble_eq_true rfl) (recv_ok rfl (by first | assumption | exact Nat.le_of_ble_eq_true rfl | omega)) rfl (b_allW h hw (by omega)) rfl ?_
      rintro F1 G1 ⟨rfl, rfl⟩
      refine d_if_eq k212_18 (fun h18 => ?_) (fun h18 => ?_)
      · rw [b2i0] at h18
        rw [show savM (savT (gA o) (gS o) u n) i (r + 1) = savM (savT (gA o) (gS o) u n) (i + 1) r by simp [savM, savT, h18]]
        refine d_run 2 rfl ?_
        first
        | exact td_mo (ih (i + 1) _ F2 (nI_1 i) (by omega) (mu.post h hw).1) (fun F3 G3 e => ⟨e.1, mu.tr e.2⟩)
        | exact ih (i + 1) _ _ (nI_1 i) (by omega) h
      · rw [b2i0, Bool.not_eq_false] at h18
        refine d_run 4 rfl ?_
        refine d_call 4 k212_25 (by omega) (Nat.le_of_ble_eq_true rfl) rfl (Nat.le_of_ble_eq_true rfl) (Nat.le_of_ble_eq_true rfl) (recv_ok rfl (by first | assumption | exact Nat.le_of_ble_eq_true rfl | omega)) rfl (b_nobody (q := i) h hw (by omega) hn (fun _ _ _ => hi)) rfl ?_
        rintro F2 G2 ⟨rfl, mu⟩
        refine d_if_eq k212_28 (fun h28 => ?_) (fun h28 => ?_)
        · rw [b2i0] at h28
          rw [show savM (savT (gA o) (gS o) u n) i (r + 1) = savM (savT (gA o) (gS o) u n) (i + 1) r by simp [savM, savT, h28]]
          refine d_run 2 rfl ?_
          first
          | exact td_mo (ih (i + 1) _ F2 (nI_1 i) (by omega) (mu.post h hw).1) (fun F3 G3 e => ⟨e.1, mu.tr e.2⟩)
          | exact ih (i + 1) _ _ (nI_1 i) (by omega) h
        · rw [b2i0, Bool.not_eq_false] at h28
          refine d_run 1 rfl ?_
          refine d_ir k212_32 rfl (by simp [savM, savT, h18, h28]) ?_
          exact ⟨rfl, mu⟩
theorem b_where (h : MInv F G o) (hw : WF o) (hd : 60 ≤ d) {n : Nat} (hn : n ≤ 99) : Td E d 212 0 [some (vr 40 0), some (vi u), some (vi (nI n)), none] [] x F G b (some (vi (savM (savT (gA o) (gS o) u n) 0 (lS (gA o))))) (fun F2 G2 => G2 = G ∧ MU F F2) := by
  refine d_run 2 rfl ?_
  exact l_mwhere hw hd hn (lS (gA o)) 0 _ F rfl (by omega) h
theorem l_mbits : ∀ (r i : Nat) (acc : Int32), i + r = 6 → acc = isum (fun k => b2i (bit u k)) i → Tm E d 132 4 [some (vi u), some (vi acc), some (vi (nI i))] [] (cC x) F G (Rs b) (some (vi (nbt u))) (cC x, F, G, Rs b) := by
  intro r
  induction r with
  | zero =>
    intro i acc hir ha
    refine t_run 2 rfl ?_
    refine t_ic_ge k132_7 (fun h7 => ?_) (fun h7 => ?_)
    · refine t_run 1 rfl ?_
      exact t_ir k132_25 rfl (by rw [ha, show i = 6 by omega]; rfl)
    · exact absurd (lt_nI h7 (b := 6) rfl (by omega) (by omega)) (by omega)
  | succ r ih =>
    intro i acc hir ha
    refine t_run 2 rfl ?_
    refine t_ic_ge k132_7 (fun h7 => ?_) (fun h7 => ?_)
    · exact absurd (ge_nI h7 (b := 6) rfl (by omega) (by omega)) (by omega)
    · refine t_run 10 rfl ?_
      rw [show nI i + 1 = nI (i + 1) from nI_1 i]
      exact ih (i + 1) _ (by omega) (by rw [ha, b2i_bit]; rfl)
theorem b_bits : Tm E d 132 0 [some (vi u), none, none] [] (cC x) F G (Rs b) (some (vi (nbt u))) (cC x, F, G, Rs b) := by
  refine t_run 4 rfl ?_
  exact l_mbits 6 0 _ (by omega) rfl
def fewB (f : Nat → Int32) (i : Nat) (best whr : Int32) : Prop := (best = 0 ∧ ∀ j, 1 ≤ j → j < i → f j = -2) ∨ (∃ a, 1 ≤ a ∧ a < i ∧ best = nI a ∧ whr = f a ∧ ¬ f a = -2 ∧ ∀ j, 1 ≤ j → j < i → ¬ f j = -2 → nbN a < nbN j ∨ (nbN a = nbN j ∧ a ≤ j))
theorem fewB.skip {f : Nat → Int32} {i : Nat} {best whr : Int32} (h : fewB f i best whr) (hf : f i = -2) : fewB f (i + 1) best whr := by
  rcases h with ⟨e, h⟩ | ⟨a, h1, h2, h3, h4, h5, h6⟩
  · refine Or.inl ⟨e, fun j a c => ?_⟩
    by_cases ej : j = i
    · rw [ej]; exact hf
    · exact h j a (by omega)
  · refine Or.inr ⟨a, h1, by omega, h3, h4, h5, fun j a c e => ?_⟩
    by_cases ej : j = i
    · rw [ej] at e; exact absurd hf e
    · exact h6 j a (by omega) e
theorem fewB.more {f : Nat → Int32} {i : Nat} {best whr : Int32} (h : fewB f i best whr) (hi : i ≤ 64) (hb : ¬ best ≤ 0) (hn : ¬ nbt (nI i) < nbt best) : fewB f (i + 1) best whr := by
  rcases h with ⟨e, h⟩ | ⟨a, h1, h2, h3, h4, h5, h6⟩
  · exact absurd (by rw [e]; decide) hb
  · refine Or.inr ⟨a, h1, by omega, h3, h4, h5, fun j a2 c e => ?_⟩
    by_cases ej : j = i
    · subst ej
      rw [h3, (nbN_eq a).1] at hn
      have m1 := (nbN_eq a).2
      have m2 := (nbN_eq j).2
      have := le_nI (b := nbN j) hn (nbN_eq j).1 (by omega) (by omega)
      omega
    · exact h6 j a2 (by omega) e
theorem fewB.take {f : Nat → Int32} {i : Nat} {best whr : Int32} (h : fewB f i best whr) (h0 : 1 ≤ i) (hi : i ≤ 64) (hf : ¬ f i = -2) (hn : best ≤ 0 ∨ nbt (nI i) < nbt best) : fewB f (i + 1) (nI i) (f i) := by
  refine Or.inr ⟨i, h0, by omega, rfl, rfl, hf, fun j a2 c e => ?_⟩
  by_cases ej : j = i
  · exact Or.inr ⟨by rw [ej], by omega⟩
  · rcases h with ⟨e2, h⟩ | ⟨a, h1, h2, h3, h4, h5, h6⟩
    · exact absurd (h j a2 (by omega)) e
    · rcases hn with hn | hn
      · rw [h3] at hn
        exact absurd (ge_nI (a := 0) (b := a) hn rfl (by omega) (by omega)) (by omega)
      · rw [h3, (nbN_eq a).1] at hn
        have m1 := (nbN_eq a).2
        have m2 := (nbN_eq i).2
        have := gt_nI (b := nbN i) hn (nbN_eq i).1 (by omega) (by omega)
        rcases h6 j a2 (by omega) e with h7 | h7 <;> omega
theorem fewF_pos {n i : Nat} (hi : 1 ≤ i) (hi2 : i ≤ 64) : fewF o n i = savN (savT (gA o) (gS o) (nI i) n) 0 (lS (gA o)) := by
  have h : ¬ nI i = 0 := fun e => absurd (nI_inj (b := 0) e (by omega) (by omega)) (by omega)
  simp only [fewF, savA]
  rw [if_neg h]
theorem l_mfew (hw : WF o) (hd : 70 ≤ d) {n : Nat} (hn : n ≤ 99) (hf0 : fewF o n 0 = -2) : ∀ (r i : Nat) (iv : Int32) (best whr : Int32) (F : FT), iv = nI i → i + r = 2 ^ lP (gA o) → 1 ≤ i → fewB (fewF o n) i best whr → MInv F G o → Td E d 213 55 [some (vr 40 0), some (vi (nI n)), some (vi v), some (vi best), some (vi whr), some (vi iv), none] [] x F G b (some (vi (fewR (fewF o n) v (fewZ (fewF o n) (2 ^ lP (gA o)) 0 (lP (gA o) + 1))))) (fun F2 G2 => G2 = G ∧ MU F F2) := by
  intro r
  induction r with
  | zero =>
    intro i iv best whr F hiv hir hi1 hB h
    subst hiv
    have hi : i = 2 ^ lP (gA o) := by omega
    have hL := h.2.1
    have hA := hw.1
    have hS := h.2.2.2.1.1
    have hwS := hw.2.1.1
    have hP6 := hA.2.1
    have hS5 := hA.1
    have h64 := pow6 hP6
    refine d_run 3 rfl ?_
    refine d_gR k213_59 (by first | assumption | exact Nat.le_of_ble_eq_true rfl | omega) ⟨rfl, rfl, rfl⟩ rfl ?_
    refine d_run 1 rfl ?_
    refine d_ia (N := 8) (j := 1) k213_63 (by decide) (by first | assumption | exact Nat.le_of_ble_eq_true rfl | omega) ⟨⟨rfl, rfl⟩, rfl, rfl⟩ (by decide) rfl ?_
    refine d_run 1 rfl ?_
    rw [hL.2.1, sh_pow _ hP6]
    refine d_ic_ge k213_65 (fun h65 => ?_) (fun h65 => ?_)
    · refine d_run 1 rfl ?_
      refine d_if_ne k213_118 (fun h118 => ?_) (fun h118 => ?_)
      · obtain ⟨a, h1, h2, h3, h4, h5, h6⟩ : ∃ a, 1 ≤ a ∧ a < i ∧ best = nI a ∧ whr = fewF o n a ∧ ¬ fewF o n a = -2 ∧ ∀ j, 1 ≤ j → j < i → ¬ fewF o n j = -2 → nbN a < nbN j ∨ (nbN a = nbN j ∧ a ≤ j) := by
          rcases hB with ⟨e, _⟩ | h9
          · exact absurd e h118
          · exact h9
        have hZ : fewZ (fewF o n) (2 ^ lP (gA o)) 0 (lP (gA o) + 1) = some a := by
          refine fewZ_some (by omega) h5 (fun j c e => ?_) _ _ (by omega) (by have := nbN_P hP6 (show a < 2 ^ lP (gA o) by omega); omega)
          by_cases ej : j = 0
          · rw [ej] at e; exact absurd hf0 e
          · exact h6 j (by omega) (by omega) e
        rw [hZ]
        refine d_run 1 rfl ?_
        refine d_if_ne k213_127 (fun h127 => ?_) (fun h127 => ?_)
        · refine d_run 1 rfl ?_
          refine d_ir k213_136 rfl (by first | rfl | (simp only [fewR]; rw [if_pos h127]; exact h3) | (simp only [fewR]; rw [if_neg h127]; exact h4)) ?_
          exact ⟨rfl, MU.rf⟩
        · refine d_run 2 rfl ?_
          refine d_ir k213_136 rfl (by first | rfl | (simp only [fewR]; rw [if_pos h127]; exact h3) | (simp only [fewR]; rw [if_neg h127]; exact h4)) ?_
          exact ⟨rfl, MU.rf⟩
      · have hZ : fewZ (fewF o n) (2 ^ lP (gA o)) 0 (lP (gA o) + 1) = none := by
          refine fewZ_none (fun j c => ?_) _ _
          by_cases ej : j = 0
          · rw [ej]; exact hf0
          · rcases hB with ⟨_, h9⟩ | ⟨a, h1, h2, h3, _⟩
            · exact h9 j (by omega) (by omega)
            · rw [h3] at h118
              exact absurd (nI_inj (b := 0) h118 (by omega) (by omega)) (by omega)
        rw [hZ]
        refine d_run 2 rfl ?_
        refine d_ir k213_136 rfl (by first | rfl | (simp only [fewR]; rw [if_pos h127]; exact h3) | (simp only [fewR]; rw [if_neg h127]; exact h4)) ?_
        exact ⟨rfl, MU.rf⟩
    · exact absurd (lt_nI h65 rfl (by omega) (by omega)) (by omega)
  | succ r ih =>
    intro i iv best whr F hiv hir hi1 hB h
    subst hiv
    have hi : i < 2 ^ lP (gA o) := by omega
    have hL := h.2.1
    have hA := hw.1
    have hS := h.2.2.2.1.1
    have hwS := hw.2.1.1
    have hP6 := hA.2.1
    have hS5 := hA.1
    have h64 := pow6 hP6
    refine d_run 3 rfl ?_
    refine d_gR k213_59 (by first | assumption | exact Nat.le_of_ble_eq_true rfl | omega) ⟨rfl, rfl, rfl⟩ rfl ?_
    refine d_run 1 rfl ?_
    refine d_ia (N := 8) (j := 1) k213_63 (by decide) (by first | assumption | exact Nat.le_of_ble_eq_true rfl | omega) ⟨⟨rfl, rfl⟩, rfl, rfl⟩ (by decide) rfl ?_
    refine d_run 1 rfl ?_
    rw [hL.2.1, sh_pow _ hP6]
    refine d_ic_ge k213_65 (fun h65 => ?_) (fun h65 => ?_)
    · exact absurd (ge_nI h65 rfl (by omega) (by omega)) (by omega)
    · refine d_run 1 rfl ?_
      refine d_if_le k213_69 (fun h69 => ?_) (fun h69 => ?_)
      · have hor : best ≤ 0 ∨ nbt (nI i) < nbt best := Or.inl h69
        refine d_run 3 rfl ?_
        refine d_call 3 k213_91 (by omega) (Nat.le_of_ble_eq_true rfl) rfl (Nat.le_of_ble_eq_true rfl) (Nat.le_of_ble_eq_true rfl) (recv_ok rfl (by first | assumption | exact Nat.le_of_ble_eq_true rfl | omega)) rfl (b_where h hw (by omega) hn) rfl ?_
        rintro F1 G1 ⟨rfl, mu⟩
        have hsv := savM_N (f := savT (gA o) (gS o) (nI i) n) (lS (gA o)) 0 (by omega)
        have hfp := fewF_pos (o := o) (n := n) hi1 (by omega)
        refine d_run 2 rfl ?_
        refine d_if_ge k213_98 (fun h98 => ?_) (fun h98 => ?_)
        · have hq : fewF o n i = savM (savT (gA o) (gS o) (nI i) n) 0 (lS (gA o)) ∧ ¬ fewF o n i = -2 := by
            rcases hsv with ⟨e1, e2⟩ | ⟨q, hq, e1, e2⟩
            · rw [e1] at h98; exact absurd h98 (by decide)
            · rw [hfp, e2, e1]; exact ⟨rfl, nI_ne_m2 (by omega)⟩
          refine d_run 4 rfl ?_
          refine d_run 2 rfl ?_
          refine d_dr1111110 ?_
          first
          | exact ih (i + 1) _ best whr _ (nI_1 i) (by omega) (by omega) (hB.more (by omega) h69 h81) h
          | exact td_mo (ih (i + 1) _ best whr F1 (nI_1 i) (by omega) (by omega) (hB.skip hq) (mu.post h hw).1) (fun F3 G3 e => ⟨e.1, mu.tr e.2⟩)
          | (rw [← hq.1]
             exact td_mo (ih (i + 1) _ (nI i) (fewF o n i) F1 (nI_1 i) (by omega) (by omega) (hB.take hi1 (by omega) hq.2 hor) (mu.post h hw).1) (fun F3 G3 e => ⟨e.1, mu.tr e.2⟩))
        · have hq : fewF o n i = -2 := by
            rcases hsv with ⟨e1, e2⟩ | ⟨q, hq, e1, e2⟩
            · rw [hfp, e2]
            · rw [e1] at h98; exact absurd (Int32.not_lt.mp (nn_nI (by omega))) h98
          refine d_run 1 rfl ?_
          refine d_run 2 rfl ?_
          refine d_dr1111110 ?_
          first
          | exact ih (i + 1) _ best whr _ (nI_1 i) (by omega) (by omega) (hB.more (by omega) h69 h81) h
          | exact td_mo (ih (i + 1) _ best whr F1 (nI_1 i) (by omega) (by omega) (hB.skip hq) (mu.post h hw).1) (fun F3 G3 e => ⟨e.1, mu.tr e.2⟩)
          | (rw [← hq.1]
             exact td_mo (ih (i + 1) _ (nI i) (fewF o n i) F1 (nI_1 i) (by omega) (by omega) (hB.take hi1 (by omega) hq.2 hor) (mu.post h hw).1) (fun F3 G3 e => ⟨e.1, mu.tr e.2⟩))
      · refine d_run 1 rfl ?_
        refine d_callT 1 k213_74 (by omega) (Nat.le_of_ble_eq_true rfl) rfl (Nat.le_of_ble_eq_true rfl) (Nat.le_of_ble_eq_true rfl) recv_st rfl b_bits rfl ?_
        refine d_run 1 rfl ?_
        refine d_callT 1 k213_78 (by omega) (Nat.le_of_ble_eq_true rfl) rfl (Nat.le_of_ble_eq_true rfl) (Nat.le_of_ble_eq_true rfl) recv_st rfl b_bits rfl ?_
        refine d_ic_lt k213_81 (fun h81 => ?_) (fun h81 => ?_)
        · have hor : best ≤ 0 ∨ nbt (nI i) < nbt best := Or.inr h81
          refine d_run 3 rfl ?_
          refine d_call 3 k213_91 (by omega) (Nat.le_of_ble_eq_true rfl) rfl (Nat.le_of_ble_eq_true rfl) (Nat.le_of_ble_eq_true rfl) (recv_ok rfl (by first | assumption | exact Nat.le_of_ble_eq_true rfl | omega)) rfl (b_where h hw (by omega) hn) rfl ?_
          rintro F1 G1 ⟨rfl, mu⟩
          have hsv := savM_N (f := savT (gA o) (gS o) (nI i) n) (lS (gA o)) 0 (by omega)
          have hfp := fewF_pos (o := o) (n := n) hi1 (by omega)
          refine d_run 2 rfl ?_
          refine d_if_ge k213_98 (fun h98 => ?_) (fun h98 => ?_)
          · have hq : fewF o n i = savM (savT (gA o) (gS o) (nI i) n) 0 (lS (gA o)) ∧ ¬ fewF o n i = -2 := by
              rcases hsv with ⟨e1, e2⟩ | ⟨q, hq, e1, e2⟩
              · rw [e1] at h98; exact absurd h98 (by decide)
              · rw [hfp, e2, e1]; exact ⟨rfl, nI_ne_m2 (by omega)⟩
            refine d_run 4 rfl ?_
            refine d_run 2 rfl ?_
            refine d_dr1111110 ?_
            first
            | exact ih (i + 1) _ best whr _ (nI_1 i) (by omega) (by omega) (hB.more (by omega) h69 h81) h
            | exact td_mo (ih (i + 1) _ best whr F1 (nI_1 i) (by omega) (by omega) (hB.skip hq) (mu.post h hw).1) (fun F3 G3 e => ⟨e.1, mu.tr e.2⟩)
            | (rw [← hq.1]
               exact td_mo (ih (i + 1) _ (nI i) (fewF o n i) F1 (nI_1 i) (by omega) (by omega) (hB.take hi1 (by omega) hq.2 hor) (mu.post h hw).1) (fun F3 G3 e => ⟨e.1, mu.tr e.2⟩))
          · have hq : fewF o n i = -2 := by
              rcases hsv with ⟨e1, e2⟩ | ⟨q, hq, e1, e2⟩
              · rw [hfp, e2]
              · rw [e1] at h98; exact absurd (Int32.not_lt.mp (nn_nI (by omega))) h98
            refine d_run 1 rfl ?_
            refine d_run 2 rfl ?_
            refine d_dr1111110 ?_
            first
            | exact ih (i + 1) _ best whr _ (nI_1 i) (by omega) (by omega) (hB.more (by omega) h69 h81) h
            | exact td_mo (ih (i + 1) _ best whr F1 (nI_1 i) (by omega) (by omega) (hB.skip hq) (mu.post h hw).1) (fun F3 G3 e => ⟨e.1, mu.tr e.2⟩)
            | (rw [← hq.1]
               exact td_mo (ih (i + 1) _ (nI i) (fewF o n i) F1 (nI_1 i) (by omega) (by omega) (hB.take hi1 (by omega) hq.2 hor) (mu.post h hw).1) (fun F3 G3 e => ⟨e.1, mu.tr e.2⟩))
        · refine d_run 1 rfl ?_
          refine d_run 2 rfl ?_
          refine d_dr1111110 ?_
          first
          | exact ih (i + 1) _ best whr _ (nI_1 i) (by omega) (by omega) (hB.more (by omega) h69 h81) h
          | exact td_mo (ih (i + 1) _ best whr F1 (nI_1 i) (by omega) (by omega) (hB.skip hq) (mu.post h hw).1) (fun F3 G3 e => ⟨e.1, mu.tr e.2⟩)
          | (rw [← hq.1]
             exact td_mo (ih (i + 1) _ (nI i) (fewF o n i) F1 (nI_1 i) (by omega) (by omega) (hB.take hi1 (by omega) hq.2 hor) (mu.post h hw).1) (fun F3 G3 e => ⟨e.1, mu.tr e.2⟩))
theorem e_fewest0 (h : MInv F G o) (hw : WF o) (hd : 90 ≤ d) : Td E d 213 5 [some (vr 40 0), some (vi u), some (vi v), none, none, none, none] [] x F G b (some (vi (q_fewest o u v))) (MPost (o) F G) := by
  have hL := h.2.1
  have hA := hw.1
  have hS := h.2.2.2.1.1
  have hwS := hw.2.1.1
  have hP6 := hA.2.1
  have hS5 := hA.1
  cases hN : isW2 u 1 24 with
  | false =>
    rw [show q_fewest o u v = -2 by simp [q_fewest, hN]]
    refine d_run 3 rfl ?_
    refine d_callT 3 k213_9 (by omega) (Nat.le_of_ble_eq_true rfl) rfl (Nat.le_of_ble_eq_true rfl) (Nat.le_of_ble_eq_true rfl) recv_st rfl e_within rfl ?_
    rw [hN]
    refine d_if_eq k213_12 (fun h12 => ?_) (fun h12 => ?_)
    · refine d_run 1 rfl ?_
      refine d_ir k213_26 rfl (by rfl) ?_
      exact MPost.q0 h
    · exact absurd h12 (by decide)
  | true =>
    cases hM : isW2 v 0 1 with
    | false =>
      rw [show q_fewest o u v = -2 by simp [q_fewest, hM]]
      refine d_run 3 rfl ?_
      refine d_callT 3 k213_9 (by omega) (Nat.le_of_ble_eq_true rfl) rfl (Nat.le_of_ble_eq_true rfl) (Nat.le_of_ble_eq_true rfl) recv_st rfl e_within rfl ?_
      rw [hN]
      refine d_if_eq k213_12 (fun h12 => ?_) (fun h12 => ?_)
      · exact absurd h12 (by decide)
      · refine d_run 3 rfl ?_
        refine d_callT 3 k213_18 (by omega) (Nat.le_of_ble_eq_true rfl) rfl (Nat.le_of_ble_eq_true rfl) (Nat.le_of_ble_eq_true rfl) recv_st rfl e_within rfl ?_
        rw [hM]
        refine d_if_ne k213_21 (fun h21 => ?_) (fun h21 => ?_)
        · exact absurd rfl h21
        · refine d_run 1 rfl ?_
          refine d_ir k213_26 rfl (by rfl) ?_
          exact MPost.q0 h
    | true =>
      obtain ⟨n, hn, rfl⟩ := isW2_ex (H := 24) hN ⟨by decide, rfl, by decide⟩
      rw [show q_fewest o (nI n) v = fewR (fewF o n) v (fewZ (fewF o n) (2 ^ lP (gA o)) 0 (lP (gA o) + 1)) by simp [q_fewest, hN, hM, ix_nI (show n < 100000 by omega)]]
      have h64 := pow6 hP6
      have hp1 : 0 < 2 ^ lP (gA o) := Nat.pow_pos (by decide)
      have hf0 : fewF o n 0 = if endsA (gA o) n (gS o) = true then -1 else -2 := rfl
      have hmv : ∀ k i, lpN (moveA 0 0) i k (gS o) = gS o ∨ 6 < i + k := by
        intro k
        induction k with
        | zero => intro i; exact Or.inl rfl
        | succ k ih =>
          intro i
          by_cases hi : 6 < i + (k + 1)
          · exact Or.inr hi
          · have e : moveA 0 0 i (gS o) = gS o := by simp only [moveA]; rw [bit_0 i (by omega)]; rfl
            simp only [lpN]
            rw [e]
            rcases ih (i + 1) with h1 | h1
            · exact Or.inl h1
            · exact Or.inr (by omega)
      have hmv0 : lpN (moveA 0 0) 0 (lP (gA o)) (gS o) = gS o := by
        rcases hmv (lP (gA o)) 0 with h1 | h1
        · exact h1
        · omega
      refine d_run 3 rfl ?_
      refine d_callT 3 k213_9 (by omega) (Nat.le_of_ble_eq_true rfl) rfl (Nat.le_of_ble_eq_true rfl) (Nat.le_of_ble_eq_true rfl) recv_st rfl e_within rfl ?_
      rw [hN]
      refine d_if_eq k213_12 (fun h12 => ?_) (fun h12 => ?_)
      · exact absurd h12 (by decide)
      · refine d_run 3 rfl ?_
        refine d_callT 3 k213_18 (by omega) (Nat.le_of_ble_eq_true rfl) rfl (Nat.le_of_ble_eq_true rfl) (Nat.le_of_ble_eq_true rfl) recv_st rfl e_within rfl ?_
        rw [hM]
        refine d_if_ne k213_21 (fun h21 => ?_) (fun h21 => ?_)
        · refine d_run 4 rfl ?_
          refine d_call 4 k213_31 (by omega) (Nat.le_of_ble_eq_true rfl) rfl (Nat.le_of_ble_eq_true rfl) (Nat.le_of_ble_eq_true rfl) (recv_ok rfl (by first | assumption | exact Nat.le_of_ble_eq_true rfl | omega)) rfl (b_nobody (u := 0) (q := 0) h hw (by omega) (show n ≤ 99 by omega) (fun p hp e => by rw [bit_0 p (by omega)] at e; cases e)) rfl ?_
          rintro F1 G1 ⟨rfl, mu⟩
          rw [hmv0]
          refine d_if_eq k213_34 (fun h34 => ?_) (fun h34 => ?_)
          · rw [b2i0] at h34
            rw [if_neg (by rw [h34]; decide)] at hf0
            refine d_run 6 rfl ?_
            refine td_mo (l_mfew hw (by omega) (show n ≤ 99 by omega) hf0 (2 ^ lP (gA o) - 1) 1 _ 0 (-1) F1 rfl (by omega) (by omega) (Or.inl ⟨rfl, fun j a c => absurd c (by omega)⟩) (mu.post h hw).1) ?_
            rintro F3 G3 ⟨rfl, mu2⟩
            exact (mu.tr mu2).post h hw
          · rw [b2i0, Bool.not_eq_false] at h34
            rw [if_pos h34] at hf0
            have hZ : fewZ (fewF o n) (2 ^ lP (gA o)) 0 (lP (gA o) + 1) = some 0 := by
              have e0 : nbN 0 = 0 := by decide
              exact fewZ_some hp1 (by rw [hf0]; decide) (fun j c e => by omega) _ _ (by omega) (by omega)
            rw [hZ]
            refine d_run 1 rfl ?_
            refine d_if_ne k213_38 (fun h38 => ?_) (fun h38 => ?_)
            · refine d_run 1 rfl ?_
              refine d_ir k213_46 rfl (by first | (simp only [fewR]; rw [if_pos h38]; rfl) | (simp only [fewR]; rw [if_neg h38]; exact hf0.symm)) ?_
              exact mu.post h hw
            · refine d_run 2 rfl ?_
              refine d_ir k213_46 rfl (by first | (simp only [fewR]; rw [if_pos h38]; rfl) | (simp only [fewR]; rw [if_neg h38]; exact hf0.symm)) ?_
              exact mu.post h hw
        · exact absurd h21 (by decide)
theorem e_fewest (h : MInv F G o) (hw : WF o) (hd : 90 ≤ d) : Td E d 213 0 [some (vr 40 0), some (vi u), some (vi v), none, none, none, none] [] x F G b (some (vi (q_fewest o u v))) (MPost (o) F G) := by
  refine d_run 2 rfl ?_
  refine d_pI k213_2 (by first | assumption | exact Nat.le_of_ble_eq_true rfl | omega) ⟨rfl, rfl⟩ ?_
  exact MPost.th h hw (fun h => e_fewest0 h hw hd)
end M13
