/-! PAIRS OF THE CLASS -/
def prO (A : LA) (s : ST) (p q : Nat) (row : Nat → Int32) : Bool := decide (row q = nI q) && decide (sAt s q = sAt s p) && stgA A s p q
def prR (A : LA) (s : ST) : Nat → Nat → Int32 → PS → PS
  | 0, _, f, t => if t.1 < f then (f, t.2.1, t.2.1) else t
  | k + 1, p, f, t => if (prR A s k (p + 1) f t).2.1 p = nI p then lpN (fun q t => if prO A s p q t.2.1 = true then ((prR A s k (p + 1) (f + 1) (t.1, upd (upd t.2.1 p (nI q)) q (nI p), t.2.2)).1, upd (upd (prR A s k (p + 1) (f + 1) (t.1, upd (upd t.2.1 p (nI q)) q (nI p), t.2.2)).2.1 p (nI p)) q (nI q), (prR A s k (p + 1) (f + 1) (t.1, upd (upd t.2.1 p (nI q)) q (nI p), t.2.2)).2.2) else t) (p + 1) (lP A - (p + 1)) (prR A s k (p + 1) f t) else prR A s k (p + 1) f t
def prF (A : LA) (s : ST) (k p : Nat) (f : Int32) (q : Nat) (t : PS) : PS := if prO A s p q t.2.1 = true then ((prR A s k (p + 1) (f + 1) (t.1, upd (upd t.2.1 p (nI q)) q (nI p), t.2.2)).1, upd (upd (prR A s k (p + 1) (f + 1) (t.1, upd (upd t.2.1 p (nI q)) q (nI p), t.2.2)).2.1 p (nI p)) q (nI q), (prR A s k (p + 1) (f + 1) (t.1, upd (upd t.2.1 p (nI q)) q (nI p), t.2.2)).2.2) else t
theorem prR_s (A : LA) (s : ST) (k p : Nat) (f : Int32) (t : PS) : prR A s (k + 1) p f t = if (prR A s k (p + 1) f t).2.1 p = nI p then lpN (prF A s k p f) (p + 1) (lP A - (p + 1)) (prR A s k (p + 1) f t) else prR A s k (p + 1) f t := rfl
def pairR (o : SG) : PS := prR (gA o) (gS o) (lP (gA o)) 0 0 (-1, nI, fun _ => 0)
def q_pairs (o : SG) (u : Int32) : Int32 := if u = -1 then (pairR o).1 else if isN u (lP (gA o)) = true then (pairR o).2.2 (ix u) else -2
/-- the most never falls, and reaches what is found -/
theorem prR_mo {A : LA} {s : ST} : ∀ (k p : Nat) (f : Int32) (t : PS), t.1 ≤ (prR A s k p f t).1 ∧ f ≤ (prR A s k p f t).1
  | 0, p, f, t => by
    simp only [prR]
    split
    · rename_i h
      exact ⟨Int32.le_of_lt h, Int32.le_refl _⟩
    · rename_i h
      exact ⟨Int32.le_refl _, Int32.not_lt.mp h⟩
  | k + 1, p, f, t => by
    have h1 := prR_mo (A := A) (s := s) k (p + 1) f t
    rw [prR_s]
    split
    · have := lpN_pr (f := prF A s k p f) (I := fun t2 => (prR A s k (p + 1) f t).1 ≤ t2.1) (lP A - (p + 1)) (p + 1) (prR A s k (p + 1) f t) (fun j t2 _ _ h => by
        simp only [prF]
        split
        · exact Int32.le_trans h (prR_mo (A := A) (s := s) k (p + 1) (f + 1) _).1
        · exact h) (Int32.le_refl _)
      exact ⟨Int32.le_trans h1.1 this, Int32.le_trans h1.2 this⟩
    · exact h1
def CMa (F : FT) (t : PS) : Prop := F 37 0 2 = t.1 ∧ eqR 6 (F 38 0) t.2.1 ∧ (t.1 = -1 ∨ eqR 6 (F 39 0) t.2.2)
def dMa (k _m : Nat) : Bool := decide (k = 37) || decide (k = 38) || decide (k = 39)
theorem dMa_Q {F F2 : FT} (h : FrD dMa F F2) : FrD dQ F F2 := h.mo (fun k m e => by
  simp only [dQ, Bool.or_eq_false_iff, Bool.and_eq_false_iff, decide_eq_false_iff_not] at e
  simp only [dMa, Bool.or_eq_false_iff, decide_eq_false_iff_not]
  omega)
theorem CMa.row {F : FT} {t : PS} (h : CMa F t) (i : Nat) (v : Int32) : CMa (uF F 38 0 i v) (t.1, upd t.2.1 i v, t.2.2) := by
  obtain ⟨c1, c2, c3⟩ := h
  refine ⟨by rw [uF_k (by decide)]; exact c1, ?_, by rw [uF_k (by decide)]; exact c3⟩
  rw [uF_r]
  exact eqR_u c2
def MatP (E : EV) (x : Nat) (G : GT) (b : Bool) (o : SG) (k p : Nat) : Prop := ∀ (d : Nat) (F : FT) (f : Int32) (t : PS), 20 + k ≤ d → CInv F G b o → CMa F t → Td E d 18 0 [some (vr 37 0), some (vr 9 (lx b)), some (vr 25 0), some (vi (nI p)), some (vi f), none] [] x F G b none (fun F2 G2 => G2 = G ∧ CMa F2 (prR (gA o) (gS o) k p f t) ∧ FrD dMa F F2)
section P11
variable {E : EV} {d x : Nat} {F : FT} {G : GT} {b : Bool} {o : SG} {u v w : Int32}
theorem l_mat (hw : WF o) {p kk : Nat} {f : Int32} (hp : p + (kk + 1) = lP (gA o)) (hd : 20 + (kk + 1) ≤ d) (IH : MatP E x G b o kk (p + 1)) : ∀ (r i : Nat) (iv : Int32) (t : PS) (F : FT), iv = nI i → i + r = lP (gA o) → CInv F G b o → CMa F t → p < i → Td E d 18 66 [some (vr 37 0), some (vr 9 (lx b)), some (vr 25 0), some (vi (nI p)), some (vi f), some (vi iv)] [] x F G b none (fun F2 G2 => G2 = G ∧ CMa F2 (lpN (prF (gA o) (gS o) kk p f) i r t) ∧ FrD dMa F F2) := by
  intro r
  induction r with
  | zero =>
    intro i iv t F hiv hir h hC hpi
    subst hiv
    have hi : i = lP (gA o) := by omega
    have hL := h.2.1
    have hA := hw.1
    have hS := h.2.2.2.1.1
    have hwS := hw.2.1.1
    have hP6 := hA.2.1
    have hS5 := hA.1
    refine d_run 2 rfl ?_
    refine d_gI k18_69 (by first | assumption | exact lx2 _ | exact Nat.le_of_ble_eq_true rfl | omega | exact Nat.lt_of_lt_of_le (m := 2) (by omega) (Nat.le_of_ble_eq_true rfl)) ⟨rfl, rfl, Or.inl rfl⟩ ?_
    refine d_ic_ge k18_72 (fun h72 => ?_) (fun h72 => ?_)
    · refine d_ret k18_165 ?_
      exact ⟨rfl, hC, FrD.rf⟩
    · exact absurd (lt_nI h72 hL.2.1 (by omega) (by omega)) (by omega)
  | succ r ih =>
    intro i iv t F hiv hir h hC hpi
    subst hiv
    have hi : i < lP (gA o) := by omega
    have hL := h.2.1
    have hA := hw.1
    have hS := h.2.2.2.1.1
    have hwS := hw.2.1.1
    have hP6 := hA.2.1
    have hS5 := hA.1
    refine d_run 2 rfl ?_
    refine d_gI k18_69 (by first | assumption | exact lx2 _ | exact Nat.le_of_ble_eq_true rfl | omega | exact Nat.lt_of_lt_of_le (m := 2) (by omega) (Nat.le_of_ble_eq_true rfl)) ⟨rfl, rfl, Or.inl rfl⟩ ?_
    refine d_ic_ge k18_72 (fun h72 => ?_) (fun h72 => ?_)
    · exact absurd (ge_nI h72 hL.2.1 (by omega) (by omega)) (by omega)
    · refine d_run 1 rfl ?_
      refine d_gR k18_76 (by first | assumption | exact Nat.le_of_ble_eq_true rfl | omega) ⟨rfl, rfl, rfl⟩ rfl ?_
      refine d_run 1 rfl ?_
      refine d_ia (N := 6) k18_81 (by decide) (by first | assumption | exact Nat.le_of_ble_eq_true rfl | omega) ⟨⟨rfl, rfl⟩, rfl, rfl⟩ (by first | assumption | omega) rfl ?_
      rw [hC.2.1 i (by omega)]
      refine d_run 1 rfl ?_
      refine d_ic_ne k18_84 (fun h84 => ?_) (fun h84 => ?_)
      · refine d_run 2 rfl ?_
        first
        | (have e1 : prF (gA o) (gS o) kk p f i t = t := by simp only [prF]; rw [if_neg (by simp [prO, *])]
           simp only [lpN]
           rw [e1]
           exact ih (i + 1) _ _ F (nI_1 i) (by omega) h hC (by omega))
        | (simp only [lpN, prF]
           rw [if_pos ho]
           exact td_mo (ih (i + 1) _ _ _ (nI_1 i) (by omega) (h.fr (dMa_Q f4) (fun _ _ => rfl)) hC4 (by omega)) (fun F6 G6 e => ⟨e.1, e.2.1, f4.tr e.2.2⟩))
      · refine d_run 1 rfl ?_
        refine d_gR k18_88 (by first | assumption | exact Nat.le_of_ble_eq_true rfl | omega | exact Nat.lt_of_lt_of_le (m := 27) (by omega) (Nat.le_of_ble_eq_true rfl)) ⟨rfl, rfl, rfl⟩ rfl ?_
        refine d_run 1 rfl ?_
        refine d_ia (N := 6) k18_93 (by decide) (by first | assumption | exact Nat.le_of_ble_eq_true rfl | omega | exact Nat.lt_of_lt_of_le (m := 27) (by omega) (Nat.le_of_ble_eq_true rfl)) ⟨⟨rfl, rfl⟩, rfl, rfl⟩ (by first | assumption | omega) rfl ?_
        rw [show F 26 0 i = sAt (gS o) i from hS.1 i hi]
        refine d_run 1 rfl ?_
        refine d_gR k18_95 (by first | assumption | exact Nat.le_of_ble_eq_true rfl | omega | exact Nat.lt_of_lt_of_le (m := 27) (by omega) (Nat.le_of_ble_eq_true rfl)) ⟨rfl, rfl, rfl⟩ rfl ?_
        refine d_run 1 rfl ?_
        refine d_ia (N := 6) k18_99 (by decide) (by first | assumption | exact Nat.le_of_ble_eq_true rfl | omega | exact Nat.lt_of_lt_of_le (m := 27) (by omega) (Nat.le_of_ble_eq_true rfl)) ⟨⟨rfl, rfl⟩, rfl, rfl⟩ (by first | assumption | omega) rfl ?_
        rw [show F 26 0 p = sAt (gS o) p from hS.1 p (by omega)]
        refine d_ic_ne k18_100 (fun h100 => ?_) (fun h100 => ?_)
        · refine d_run 2 rfl ?_
          first
          | (have e1 : prF (gA o) (gS o) kk p f i t = t := by simp only [prF]; rw [if_neg (by simp [prO, *])]
             simp only [lpN]
             rw [e1]
             exact ih (i + 1) _ _ F (nI_1 i) (by omega) h hC (by omega))
          | (simp only [lpN, prF]
             rw [if_pos ho]
             exact td_mo (ih (i + 1) _ _ _ (nI_1 i) (by omega) (h.fr (dMa_Q f4) (fun _ _ => rfl)) hC4 (by omega)) (fun F6 G6 e => ⟨e.1, e.2.1, f4.tr e.2.2⟩))
        · refine d_run 4 rfl ?_
          refine d_callT 4 k18_108 (by omega) (Nat.le_of_ble_eq_true rfl) rfl (Nat.le_of_ble_eq_true rfl) (Nat.le_of_ble_eq_true rfl) (recv_ok rfl (by first | assumption | exact Nat.le_of_ble_eq_true rfl | omega | exact Nat.lt_of_lt_of_le (m := 27) (by omega) (Nat.le_of_ble_eq_true rfl))) rfl (a_stg (n := 0) (by omega) (lx2 b) hL hA hS (by omega) hi (by omega)) rfl ?_
          refine d_if_eq k18_111 (fun h111 => ?_) (fun h111 => ?_)
          · rw [b2i0] at h111
            refine d_run 2 rfl ?_
            first
            | (have e1 : prF (gA o) (gS o) kk p f i t = t := by simp only [prF]; rw [if_neg (by simp [prO, *])]
               simp only [lpN]
               rw [e1]
               exact ih (i + 1) _ _ F (nI_1 i) (by omega) h hC (by omega))
            | (simp only [lpN, prF]
               rw [if_pos ho]
               exact td_mo (ih (i + 1) _ _ _ (nI_1 i) (by omega) (h.fr (dMa_Q f4) (fun _ _ => rfl)) hC4 (by omega)) (fun F6 G6 e => ⟨e.1, e.2.1, f4.tr e.2.2⟩))
          · rw [b2i0, Bool.not_eq_false] at h111
            have ho : prO (gA o) (gS o) p i t.2.1 = true := by simp [prO, h84, h100, h111]
            have hC1 := (hC.row p (nI i)).row i (nI p)
            have f1 : FrD dMa F (uF (uF F 38 0 p (nI i)) 38 0 i (nI p)) := (FrD.rf.u rfl).u rfl
            have h1 := h.fr (dMa_Q f1) (fun _ _ => rfl)
            refine d_run 1 rfl ?_
            refine d_gR k18_115 (by first | assumption | exact Nat.le_of_ble_eq_true rfl | omega) ⟨rfl, rfl, rfl⟩ rfl ?_
            refine d_run 2 rfl ?_
            refine d_is (N := 6) k18_121 (by first | assumption | exact Nat.le_of_ble_eq_true rfl | omega) ⟨rfl, rfl⟩ (show p < 6 by omega) rfl ?_
            refine d_run 1 rfl ?_
            refine d_gR k18_123 (by first | assumption | exact Nat.le_of_ble_eq_true rfl | omega) ⟨rfl, rfl, rfl⟩ rfl ?_
            refine d_run 2 rfl ?_
            refine d_is (N := 6) k18_129 (by first | assumption | exact Nat.le_of_ble_eq_true rfl | omega) ⟨rfl, rfl⟩ (by first | assumption | omega) rfl ?_
            refine d_run 9 rfl ?_
            rw [show ibop 0 (nI p) 1 = nI (p + 1) from nI_1 p]
            refine d_call 5 k18_140 (by omega) (Nat.le_of_ble_eq_true rfl) rfl (Nat.le_of_ble_eq_true rfl) (Nat.le_of_ble_eq_true rfl) (recv_ok rfl (by first | assumption | exact Nat.le_of_ble_eq_true rfl | omega)) rfl (IH (d - 1) _ _ _ (by omega) h1 hC1) rfl ?_
            rintro F3 G3 ⟨rfl, k3, f3⟩
            have hC4 := (k3.row p (nI p)).row i (nI i)
            have f4 : FrD dMa F (uF (uF F3 38 0 p (nI p)) 38 0 i (nI i)) := f1.tr (f3.tr ((FrD.rf.u rfl).u rfl))
            refine d_run 1 rfl ?_
            refine d_gR k18_144 (by first | assumption | exact Nat.le_of_ble_eq_true rfl | omega) ⟨rfl, rfl, rfl⟩ rfl ?_
            refine d_run 2 rfl ?_
            refine d_is (N := 6) k18_149 (by first | assumption | exact Nat.le_of_ble_eq_true rfl | omega) ⟨rfl, rfl⟩ (show p < 6 by omega) rfl ?_
            refine d_run 1 rfl ?_
            refine d_gR k18_151 (by first | assumption | exact Nat.le_of_ble_eq_true rfl | omega) ⟨rfl, rfl, rfl⟩ rfl ?_
            refine d_run 2 rfl ?_
            refine d_is (N := 6) k18_158 (by first | assumption | exact Nat.le_of_ble_eq_true rfl | omega) ⟨rfl, rfl⟩ (by first | assumption | omega) rfl ?_
            refine d_run 2 rfl ?_
            first
            | (have e1 : prF (gA o) (gS o) kk p f i t = t := by simp only [prF]; rw [if_neg (by simp [prO, *])]
               simp only [lpN]
               rw [e1]
               exact ih (i + 1) _ _ F (nI_1 i) (by omega) h hC (by omega))
            | (simp only [lpN, prF]
               rw [if_pos ho]
               exact td_mo (ih (i + 1) _ _ _ (nI_1 i) (by omega) (h.fr (dMa_Q f4) (fun _ _ => rfl)) hC4 (by omega)) (fun F6 G6 e => ⟨e.1, e.2.1, f4.tr e.2.2⟩))
theorem a_mat (hw : WF o) : ∀ (k p : Nat), p + k = lP (gA o) → MatP E x G b o k p := by
  intro k
  induction k with
  | zero =>
    intro p hpk d F f t hd h hC
    have hL := h.2.1
    have hA := hw.1
    have hS := h.2.2.2.1.1
    have hwS := hw.2.1.1
    have hP6 := hA.2.1
    have hS5 := hA.1
    obtain ⟨c1, c2, c3⟩ := hC
    refine d_run 2 rfl ?_
    refine d_gI k18_2 (by first | assumption | exact lx2 _ | exact Nat.le_of_ble_eq_true rfl | omega | exact Nat.lt_of_lt_of_le (m := 2) (by omega) (Nat.le_of_ble_eq_true rfl)) ⟨rfl, rfl, Or.inl rfl⟩ ?_
    rw [hL.2.1]
    refine d_ic_lt k18_5 (fun h5 => ?_) (fun h5 => ?_)
    · exact absurd ((nI_ltI (by omega) (by omega)).mp h5) (by omega)
    · refine d_run 2 rfl ?_
      refine d_gI k18_11 (by first | assumption | exact Nat.le_of_ble_eq_true rfl | omega) ⟨rfl, rfl, Or.inl rfl⟩ ?_
      rw [c1]
      refine d_ic_le k18_14 (fun h14 => ?_) (fun h14 => ?_)
      · have e1 : prR (gA o) (gS o) 0 p f t = t := by simp only [prR]; rw [if_neg (Int32.not_lt.mpr h14)]
        rw [e1]
        refine d_ret k18_38 ?_
        first
        | exact ⟨rfl, ⟨c1, c2, c3⟩, FrD.rf⟩
        | (refine ⟨rfl, ⟨?_, ?_, Or.inr ?_⟩, (FrD.rf.u rfl).c rfl⟩
           · rw [cF_k (by decide)]; simp [uF]
           · rw [cF_k (by decide), uF_k (by decide)]; exact c2
           · intro j hj
             rw [cF_at hj, uF_k (by decide)]
             exact c2 j hj)
      · have e1 : prR (gA o) (gS o) 0 p f t = (f, t.2.1, t.2.1) := by simp only [prR]; rw [if_pos (Int32.not_le.mp h14)]
        rw [e1]
        refine d_run 2 rfl ?_
        refine d_pI k18_20 (by first | assumption | exact Nat.le_of_ble_eq_true rfl | omega) ⟨rfl, rfl⟩ ?_
        refine d_run 1 rfl ?_
        refine d_gR k18_24 (by first | assumption | exact Nat.le_of_ble_eq_true rfl | omega) ⟨rfl, rfl, rfl⟩ rfl ?_
        refine d_run 2 rfl ?_
        refine d_gR k18_29 (by first | assumption | exact Nat.le_of_ble_eq_true rfl | omega) ⟨rfl, rfl, rfl⟩ rfl ?_
        refine d_run 2 rfl ?_
        refine d_cpy (mm := 6) k18_35 (by omega) (Nat.le_of_ble_eq_true rfl) ⟨⟨rfl, rfl⟩, rfl, rfl⟩ (by first | assumption | exact Nat.le_of_ble_eq_true rfl | omega) (by first | assumption | exact Nat.le_of_ble_eq_true rfl | omega) (Nat.le_of_ble_eq_true rfl) (Nat.le_of_ble_eq_true rfl) rfl rfl rfl ?_
        refine d_ret k18_38 ?_
        first
        | exact ⟨rfl, ⟨c1, c2, c3⟩, FrD.rf⟩
        | (refine ⟨rfl, ⟨?_, ?_, Or.inr ?_⟩, (FrD.rf.u rfl).c rfl⟩
           · rw [cF_k (by decide)]; simp [uF]
           · rw [cF_k (by decide), uF_k (by decide)]; exact c2
           · intro j hj
             rw [cF_at hj, uF_k (by decide)]
             exact c2 j hj)
  | succ k ihk =>
    intro p hpk d F f t hd h hC
    have hL := h.2.1
    have hA := hw.1
    have hS := h.2.2.2.1.1
    have hwS := hw.2.1.1
    have hP6 := hA.2.1
    have hS5 := hA.1
    have IH := ihk (p + 1) (by omega)
    rw [prR_s]
    refine d_run 2 rfl ?_
    refine d_gI k18_2 (by first | assumption | exact lx2 _ | exact Nat.le_of_ble_eq_true rfl | omega | exact Nat.lt_of_lt_of_le (m := 2) (by omega) (Nat.le_of_ble_eq_true rfl)) ⟨rfl, rfl, Or.inl rfl⟩ ?_
    rw [hL.2.1]
    refine d_ic_lt k18_5 (fun h5 => ?_) (fun h5 => ?_)
    · refine d_run 7 rfl ?_
      rw [show ibop 0 (nI p) 1 = nI (p + 1) from nI_1 p]
      refine d_call 5 k18_47 (by omega) (Nat.le_of_ble_eq_true rfl) rfl (Nat.le_of_ble_eq_true rfl) (Nat.le_of_ble_eq_true rfl) (recv_ok rfl (by first | assumption | exact Nat.le_of_ble_eq_true rfl | omega)) rfl (IH (d - 1) F f t (by omega) h hC) rfl ?_
      rintro F1 G1 ⟨rfl, k1, f1⟩
      have h1 := h.fr (dMa_Q f1) (fun _ _ => rfl)
      refine d_run 1 rfl ?_
      refine d_gR k18_51 (by first | assumption | exact Nat.le_of_ble_eq_true rfl | omega) ⟨rfl, rfl, rfl⟩ rfl ?_
      refine d_run 1 rfl ?_
      refine d_ia (N := 6) k18_55 (by decide) (by first | assumption | exact Nat.le_of_ble_eq_true rfl | omega) ⟨⟨rfl, rfl⟩, rfl, rfl⟩ (show p < 6 by omega) rfl ?_
      rw [k1.2.1 p (by omega)]
      refine d_run 1 rfl ?_
      refine d_ic_eq k18_57 (fun h57 => ?_) (fun h57 => ?_)
      · rw [if_pos h57]
        refine d_run 4 rfl ?_
        exact td_mo (l_mat hw hpk hd IH (lP (gA o) - (p + 1)) (p + 1) _ _ F1 (nI_1 p) (by omega) h1 k1 (by omega)) (fun F2 G2 e => ⟨e.1, e.2.1, f1.tr e.2.2⟩)
      · rw [if_neg h57]
        refine d_ret k18_60 ?_
        exact ⟨rfl, k1, f1⟩
    · exact absurd ((nI_ltI (by omega) (by omega)).mpr (by omega)) h5
theorem l_msearch {l : Nat} {Q : FT → GT → Prop} : ∀ (r i : Nat) (iv : Int32) (F : FT), iv = nI i → i + r = 6 → F 37 0 2 = -1 → eqR i (F 38 0) nI → (∀ F2, F2 37 0 2 = -1 → eqR 6 (F2 38 0) nI → FrD dMa F F2 → Td E d 17 26 [some (vr 37 0), some (vr 9 l), some (vr 25 0), none] [] x F2 G b none Q) → Td E d 17 7 [some (vr 37 0), some (vr 9 l), some (vr 25 0), some (vi iv)] [] x F G b none Q := by
  intro r
  induction r with
  | zero =>
    intro i iv F hiv hir h0 h1 kk
    subst hiv
    refine d_run 2 rfl ?_
    refine d_ic_ge k17_10 (fun h10 => ?_) (fun h10 => ?_)
    · have hi : i = 6 := by omega
      subst hi
      refine d_dr1110 ?_
      exact kk F h0 h1 FrD.rf
    · exact absurd (lt_nI h10 (b := 6) rfl (by omega) (by omega)) (by omega)
  | succ r ih =>
    intro i iv F hiv hir h0 h1 kk
    subst hiv
    refine d_run 2 rfl ?_
    refine d_ic_ge k17_10 (fun h10 => ?_) (fun h10 => ?_)
    · exact absurd (ge_nI h10 (b := 6) rfl (by omega) (by omega)) (by omega)
    · refine d_run 1 rfl ?_
      refine d_gR k17_14 (by first | assumption | exact Nat.le_of_ble_eq_true rfl | omega) ⟨rfl, rfl, rfl⟩ rfl ?_
      refine d_run 2 rfl ?_
      refine d_is (N := 6) k17_19 (by first | assumption | exact Nat.le_of_ble_eq_true rfl | omega) ⟨rfl, rfl⟩ (show i < 6 by omega) rfl ?_
      refine d_run 2 rfl ?_
      refine ih (i + 1) _ _ (nI_1 i) (by omega) (by rw [uF_k (by decide)]; exact h0) ?_ (fun F2 a b c => kk F2 a b ((FrD.rf.u rfl).tr c))
      rw [uF_r]
      intro j hj
      by_cases e : j = i
      · subst e
        exact pk_us
      · rw [pk_un e]
        exact h1 j (by omega)
theorem a_msearch (hw : WF o) (hd : 50 ≤ d) (h : CInv F G b o) : Td E d 17 0 [some (vr 37 0), some (vr 9 (lx b)), some (vr 25 0), none] [] x F G b none (fun F2 G2 => G2 = G ∧ CMa F2 (pairR o) ∧ FrD dMa F F2) := by
  have hL := h.2.1
  have hA := hw.1
  have hS := h.2.2.2.1.1
  have hwS := hw.2.1.1
  have hP6 := hA.2.1
  have hS5 := hA.1
  refine d_run 2 rfl ?_
  refine d_pI k17_2 (by first | assumption | exact Nat.le_of_ble_eq_true rfl | omega) ⟨rfl, rfl⟩ ?_
  refine d_run 2 rfl ?_
  refine l_msearch 6 0 _ _ rfl (by omega) (by simp [uF]) (fun j hj => absurd hj (by omega)) ?_
  intro F2 q1 q2 f2
  have f2 : FrD dMa F F2 := FrD.tr (FrD.rf.u rfl) f2
  refine d_run 5 rfl ?_
  refine d_call 5 k17_31 (by omega) (Nat.le_of_ble_eq_true rfl) rfl (Nat.le_of_ble_eq_true rfl) (Nat.le_of_ble_eq_true rfl) (recv_ok rfl (by first | assumption | exact Nat.le_of_ble_eq_true rfl | omega)) rfl (a_mat hw (lP (gA o)) 0 (by omega) (d - 1) F2 0 (-1, nI, fun _ => 0) (by omega) (h.fr (dMa_Q f2) (fun _ _ => rfl)) ⟨q1, q2, Or.inl rfl⟩) rfl ?_
  rintro F3 G3 ⟨rfl, k3, f3⟩
  refine d_ret k17_34 ?_
  exact ⟨rfl, k3, f2.tr f3⟩
theorem a_pairs (h : CInv F G b o) (hw : WF o) (hd : 100 ≤ d) : Td E d 109 0 [some (vr 1 0), some (vi u)] [] x F G b (some (vi (q_pairs o u))) (CPost b (o) F G) := by
  have hL := h.2.1
  have hA := hw.1
  have hS := h.2.2.2.1.1
  have hwS := hw.2.1.1
  have hP6 := hA.2.1
  have hS5 := hA.1
  have hmo := (prR_mo (A := gA o) (s := gS o) (lP (gA o)) 0 0 (-1, nI, fun _ => 0)).2
  have hn1 : ¬ (pairR o).1 = -1 := by
    intro e
    have e2 : (prR (gA o) (gS o) (lP (gA o)) 0 0 (-1, nI, fun _ => 0)).1 = -1 := e
    rw [e2] at hmo
    exact absurd hmo (by decide)
  by_cases hu : u = -1
  · subst hu
    rw [show q_pairs o (-1) = (pairR o).1 by simp [q_pairs]]
    refine d_run 2 rfl ?_
    refine d_ic_eq k109_2 (fun h2 => ?_) (fun h2 => ?_)
    · refine d_run 1 rfl ?_
      refine d_gR k109_17 (by first | assumption | exact Nat.le_of_ble_eq_true rfl | omega) ⟨rfl, rfl, rfl⟩ rfl ?_
      refine d_run 1 rfl ?_
      refine d_gR k109_21 (by first | assumption | exact Nat.le_of_ble_eq_true rfl | omega) ⟨rfl, rfl, rfl⟩ (Rs_land _) ?_
      refine d_run 1 rfl ?_
      refine d_gR k109_25 (by first | assumption | exact Nat.le_of_ble_eq_true rfl | omega) ⟨rfl, rfl, rfl⟩ rfl ?_
      refine d_gR k109_28 (by first | assumption | exact Nat.le_of_ble_eq_true rfl | omega | exact Nat.lt_of_lt_of_le (m := 5) (by omega) (Nat.le_of_ble_eq_true rfl)) ⟨rfl, rfl, rfl⟩ rfl ?_
      refine d_call 3 k109_31 (by omega) (Nat.le_of_ble_eq_true rfl) rfl (Nat.le_of_ble_eq_true rfl) (Nat.le_of_ble_eq_true rfl) (recv_ok rfl (by first | assumption | exact Nat.le_of_ble_eq_true rfl | omega)) rfl (a_msearch hw (by omega) h) rfl ?_
      rintro F1 G1 ⟨rfl, ⟨c1, c2, c3⟩, f1⟩
      have c3 := c3.resolve_left hn1
      refine d_run 2 rfl ?_
      refine d_ic_ne k109_36 (fun h36 => ?_) (fun h36 => ?_)
      · exact absurd rfl h36
      · refine d_run 1 rfl ?_
        refine d_gR k109_40 (by first | assumption | exact Nat.le_of_ble_eq_true rfl | omega) ⟨rfl, rfl, rfl⟩ rfl ?_
        refine d_gI k109_43 (by first | assumption | exact Nat.le_of_ble_eq_true rfl | omega) ⟨rfl, rfl, Or.inl rfl⟩ ?_
        rw [c1]
        refine d_run 1 rfl ?_
        refine d_ir k109_58 rfl (by rfl) ?_
        exact CPost.q h (dMa_Q f1)
    · exact absurd rfl h2
  · cases hN : isN u (lP (gA o)) with
    | false =>
      rw [show q_pairs o u = -2 by simp [q_pairs, hu, hN]]
      refine d_run 2 rfl ?_
      refine d_ic_eq k109_2 (fun h2 => ?_) (fun h2 => ?_)
      · exact absurd h2 hu
      · refine d_run 2 rfl ?_
        refine d_callT 2 k109_7 (by omega) (Nat.le_of_ble_eq_true rfl) rfl (Nat.le_of_ble_eq_true rfl) (Nat.le_of_ble_eq_true rfl) (recv_ok rfl (by first | assumption | exact Nat.le_of_ble_eq_true rfl | omega)) rfl (a_isP hL) rfl ?_
        rw [hN]
        refine d_if_ne k109_10 (fun h10 => ?_) (fun h10 => ?_)
        · exact absurd h10 (by decide)
        · refine d_run 1 rfl ?_
          refine d_ir k109_15 rfl (by rfl) ?_
          exact CPost.q h FrD.rf
    | true =>
      obtain ⟨p, hp, rfl⟩ := isN_ex hN (by omega)
      rw [show q_pairs o (nI p) = (pairR o).2.2 p by simp [q_pairs, hu, hN, ix_nI (show p < 100000 by omega)]]
      refine d_run 2 rfl ?_
      refine d_ic_eq k109_2 (fun h2 => ?_) (fun h2 => ?_)
      · exact absurd h2 hu
      · refine d_run 2 rfl ?_
        refine d_callT 2 k109_7 (by omega) (Nat.le_of_ble_eq_true rfl) rfl (Nat.le_of_ble_eq_true rfl) (Nat.le_of_ble_eq_true rfl) (recv_ok rfl (by first | assumption | exact Nat.le_of_ble_eq_true rfl | omega)) rfl (a_isP hL) rfl ?_
        rw [hN]
        refine d_if_ne k109_10 (fun h10 => ?_) (fun h10 => ?_)
        · refine d_run 1 rfl ?_
          refine d_gR k109_17 (by first | assumption | exact Nat.le_of_ble_eq_true rfl | omega) ⟨rfl, rfl, rfl⟩ rfl ?_
          refine d_run 1 rfl ?_
          refine d_gR k109_21 (by first | assumption | exact Nat.le_of_ble_eq_true rfl | omega) ⟨rfl, rfl, rfl⟩ (Rs_land _) ?_
          refine d_run 1 rfl ?_
          refine d_gR k109_25 (by first | assumption | exact Nat.le_of_ble_eq_true rfl | omega) ⟨rfl, rfl, rfl⟩ rfl ?_
          refine d_gR k109_28 (by first | assumption | exact Nat.le_of_ble_eq_true rfl | omega | exact Nat.lt_of_lt_of_le (m := 5) (by omega) (Nat.le_of_ble_eq_true rfl)) ⟨rfl, rfl, rfl⟩ rfl ?_
          refine d_call 3 k109_31 (by omega) (Nat.le_of_ble_eq_true rfl) rfl (Nat.le_of_ble_eq_true rfl) (Nat.le_of_ble_eq_true rfl) (recv_ok rfl (by first | assumption | exact Nat.le_of_ble_eq_true rfl | omega)) rfl (a_msearch hw (by omega) h) rfl ?_
          rintro F1 G1 ⟨rfl, ⟨c1, c2, c3⟩, f1⟩
          have c3 := c3.resolve_left hn1
          refine d_run 2 rfl ?_
          refine d_ic_ne k109_36 (fun h36 => ?_) (fun h36 => ?_)
          · refine d_run 1 rfl ?_
            refine d_gR k109_50 (by first | assumption | exact Nat.le_of_ble_eq_true rfl | omega) ⟨rfl, rfl, rfl⟩ rfl ?_
            refine d_gR k109_53 (by first | assumption | exact Nat.le_of_ble_eq_true rfl | omega) ⟨rfl, rfl, rfl⟩ rfl ?_
            refine d_run 1 rfl ?_
            refine d_ia (N := 6) k109_57 (by decide) (by first | assumption | exact Nat.le_of_ble_eq_true rfl | omega) ⟨⟨rfl, rfl⟩, rfl, rfl⟩ (show p < 6 by omega) rfl ?_
            rw [c3 p (by omega)]
            refine d_ir k109_58 rfl (by rfl) ?_
            exact CPost.q h (dMa_Q f1)
          · exact absurd h36 hu
        · exact absurd h10 (by decide)
end P11
