/-! ENGAGED, STAND, COUNT, MARK OF THE CLASS -/
def lpN {σ : Type} (f : Nat → σ → σ) : Nat → Nat → σ → σ
  | _, 0, s => s
  | i, k + 1, s => lpN f (i + 1) k (f i s)
theorem gt_nI {a b : Nat} {y : Int32} (h : y < nI a) (hy : y = nI b) (ha : a ≤ 100000) (hb : b ≤ 100000) : b < a := by
  subst hy
  apply Decidable.byContradiction
  intro h2
  exact Int32.not_le.mpr h ((nI_leI (by omega) (by omega)).mpr (by omega))
theorem le_nI {a b : Nat} {y : Int32} (h : ¬ y < nI a) (hy : y = nI b) (ha : a ≤ 100000) (hb : b ≤ 100000) : a ≤ b := by
  subst hy
  exact (nI_leI (by omega) (by omega)).mp (Int32.not_lt.mp h)
theorem CPost.q2 {b : Bool} {o : SG} {F F1 F2 : FT} {G G2 : GT} (hf : FrD dQ F F1) (k : CPost b o F1 G F2 G2) : CPost b o F G F2 G2 := ⟨k.1, (dQ_Cl hf).tr k.2.1, k.2.2⟩
def engC (wd : Nat → Int32) (a c : Nat) : Bool := decide (2 ≤ wd (6 * a + c)) && decide (2 ≤ wd (6 * c + a))
def engF (wd : Nat → Int32) (a c : Nat) (acc : Int32) : Int32 := if engC wd a c = true then acc + 1 else acc
def q_engaged (o : SG) : Int32 := lpN (fun a acc => lpN (engF (sWd (gS o)) a) (a + 1) (lP (gA o) - (a + 1)) acc) 0 (lP (gA o)) 0
def stF (A : LA) (s : ST) (p q : Nat) (bm : Int32 × Int32) : Int32 × Int32 := if (decide (nI q = sAt s p) || cwkA A s p q) = true then (if bm.2 < cnt (offA A s p (nI q)) (lP A) then (nI q, cnt (offA A s p (nI q)) (lP A)) else bm) else bm
def q_stand (o : SG) (u : Int32) : Int32 := if (isN u (lP (gA o)) && !sitA (gS o) (ix u)) = true then (lpN (stF (gA o) (gS o) (ix u)) 0 (lS (gA o)) (-1, -1)).1 else -1
def q_count (o : SG) (w : Int32) : Int32 := if w = 0 then nI (lS (gA o)) else if w = 1 then nI (lP (gA o)) else if w = 2 then lSo (gA o) else if w = 3 then lSp (gA o) else if w = 4 then sHr (gS o) else if w = 5 then bset (sitA (gS o)) (lP (gA o)) else if w = 6 then sSn (gS o) else if w = 7 then isum (sLf (gS o)) (lP (gA o)) else if w = 8 then sWi (gS o) else if w = 9 then nI (gW o).1 else if w = 10 then tcn (gTl o) 6 else if w = 11 then nI (gP o).length else if w = 12 then nI (gT o).1 else -1
def updM (f : Nat → Bool × SC) (i : Nat) (v : Bool × SC) : Nat → Bool × SC := fun j => if j = i then v else f j
def g_mark (o : SG) (u v : Int32) : Bool := isW2 u 0 3 && (decide (v = 0) || (gM o (ix u)).1)
def n_mark (o : SG) (u v : Int32) : SG := if g_mark o u v = true then (if v = 0 then (gT o, gN o, gA o, gC o, updM (gM o) (ix u) (true, gC o), gP o) else (gT o, gN o, gA o, (gM o (ix u)).2, gM o, [])) else o

theorem d_dr10 {E : EV} {d m pc x : Nat} {st : List PV} {F : FT} {G : GT} {b : Bool} {r : Option PV} {Q : FT → GT → Prop} {a0 a1 : Option PV} (kk : Td E d m pc [a0, none] st x F G b r Q) : Td E d m pc [a0, a1] st x F G b r Q := d_le (by simp [leL]) kk
theorem d_dr110 {E : EV} {d m pc x : Nat} {st : List PV} {F : FT} {G : GT} {b : Bool} {r : Option PV} {Q : FT → GT → Prop} {a0 a1 a2 : Option PV} (kk : Td E d m pc [a0, a1, none] st x F G b r Q) : Td E d m pc [a0, a1, a2] st x F G b r Q := d_le (by simp [leL]) kk
theorem d_dr1110 {E : EV} {d m pc x : Nat} {st : List PV} {F : FT} {G : GT} {b : Bool} {r : Option PV} {Q : FT → GT → Prop} {a0 a1 a2 a3 : Option PV} (kk : Td E d m pc [a0, a1, a2, none] st x F G b r Q) : Td E d m pc [a0, a1, a2, a3] st x F G b r Q := d_le (by simp [leL]) kk
theorem d_dr11110 {E : EV} {d m pc x : Nat} {st : List PV} {F : FT} {G : GT} {b : Bool} {r : Option PV} {Q : FT → GT → Prop} {a0 a1 a2 a3 a4 : Option PV} (kk : Td E d m pc [a0, a1, a2, a3, none] st x F G b r Q) : Td E d m pc [a0, a1, a2, a3, a4] st x F G b r Q := d_le (by simp [leL]) kk
theorem d_dr111110 {E : EV} {d m pc x : Nat} {st : List PV} {F : FT} {G : GT} {b : Bool} {r : Option PV} {Q : FT → GT → Prop} {a0 a1 a2 a3 a4 a5 : Option PV} (kk : Td E d m pc [a0, a1, a2, a3, a4, none] st x F G b r Q) : Td E d m pc [a0, a1, a2, a3, a4, a5] st x F G b r Q := d_le (by simp [leL]) kk
theorem d_dr1111110 {E : EV} {d m pc x : Nat} {st : List PV} {F : FT} {G : GT} {b : Bool} {r : Option PV} {Q : FT → GT → Prop} {a0 a1 a2 a3 a4 a5 a6 : Option PV} (kk : Td E d m pc [a0, a1, a2, a3, a4, a5, none] st x F G b r Q) : Td E d m pc [a0, a1, a2, a3, a4, a5, a6] st x F G b r Q := d_le (by simp [leL]) kk
theorem d_dr11111110 {E : EV} {d m pc x : Nat} {st : List PV} {F : FT} {G : GT} {b : Bool} {r : Option PV} {Q : FT → GT → Prop} {a0 a1 a2 a3 a4 a5 a6 a7 : Option PV} (kk : Td E d m pc [a0, a1, a2, a3, a4, a5, a6, none] st x F G b r Q) : Td E d m pc [a0, a1, a2, a3, a4, a5, a6, a7] st x F G b r Q := d_le (by simp [leL]) kk
theorem d_dr111111110 {E : EV} {d m pc x : Nat} {st : List PV} {F : FT} {G : GT} {b : Bool} {r : Option PV} {Q : FT → GT → Prop} {a0 a1 a2 a3 a4 a5 a6 a7 a8 : Option PV} (kk : Td E d m pc [a0, a1, a2, a3, a4, a5, a6, a7, none] st x F G b r Q) : Td E d m pc [a0, a1, a2, a3, a4, a5, a6, a7, a8] st x F G b r Q := d_le (by simp [leL]) kk
theorem d_dr100 {E : EV} {d m pc x : Nat} {st : List PV} {F : FT} {G : GT} {b : Bool} {r : Option PV} {Q : FT → GT → Prop} {a0 a1 a2 : Option PV} (kk : Td E d m pc [a0, none, none] st x F G b r Q) : Td E d m pc [a0, a1, a2] st x F G b r Q := d_le (by simp [leL]) kk
theorem d_dr1100 {E : EV} {d m pc x : Nat} {st : List PV} {F : FT} {G : GT} {b : Bool} {r : Option PV} {Q : FT → GT → Prop} {a0 a1 a2 a3 : Option PV} (kk : Td E d m pc [a0, a1, none, none] st x F G b r Q) : Td E d m pc [a0, a1, a2, a3] st x F G b r Q := d_le (by simp [leL]) kk
theorem d_dr11100 {E : EV} {d m pc x : Nat} {st : List PV} {F : FT} {G : GT} {b : Bool} {r : Option PV} {Q : FT → GT → Prop} {a0 a1 a2 a3 a4 : Option PV} (kk : Td E d m pc [a0, a1, a2, none, none] st x F G b r Q) : Td E d m pc [a0, a1, a2, a3, a4] st x F G b r Q := d_le (by simp [leL]) kk
theorem d_dr111100 {E : EV} {d m pc x : Nat} {st : List PV} {F : FT} {G : GT} {b : Bool} {r : Option PV} {Q : FT → GT → Prop} {a0 a1 a2 a3 a4 a5 : Option PV} (kk : Td E d m pc [a0, a1, a2, a3, none, none] st x F G b r Q) : Td E d m pc [a0, a1, a2, a3, a4, a5] st x F G b r Q := d_le (by simp [leL]) kk
theorem d_dr1111100 {E : EV} {d m pc x : Nat} {st : List PV} {F : FT} {G : GT} {b : Bool} {r : Option PV} {Q : FT → GT → Prop} {a0 a1 a2 a3 a4 a5 a6 : Option PV} (kk : Td E d m pc [a0, a1, a2, a3, a4, none, none] st x F G b r Q) : Td E d m pc [a0, a1, a2, a3, a4, a5, a6] st x F G b r Q := d_le (by simp [leL]) kk
section P4
variable {E : EV} {d x : Nat} {F : FT} {G : GT} {b : Bool} {o : SG} {u v w : Int32}
theorem l_eng2 (h : CInv F G b o) (hw : WF o) (hd : 100 ≤ d) {a : Nat} {R : Option PV} (ha : a < lP (gA o)) : ∀ (r i : Nat) (iv : Int32) (acc : Int32), iv = nI i → i + r = lP (gA o) → a < i → (∀ u2, u2 = lpN (engF (sWd (gS o)) a) i r acc → Td E d 108 81 [some (vr 1 0), some (vi u2), some (vi (nI a)), none] [] x F G b R (CPost b o F G)) → Td E d 108 19 [some (vr 1 0), some (vi acc), some (vi (nI a)), some (vi iv)] [] x F G b R (CPost b o F G) := by
  intro r
  induction r with
  | zero =>
    intro i iv acc hiv hir hai kk
    subst hiv
    have hi : i = lP (gA o) := by omega
    have hL := h.2.1
    have hA := hw.1
    have hS := h.2.2.2.1.1
    have hwS := hw.2.1.1
    have hP6 := hA.2.1
    have hS5 := hA.1
    refine d_run 2 rfl ?_
    refine d_gR k108_21 (by first | assumption | exact Nat.le_of_ble_eq_true rfl | omega) ⟨rfl, rfl, rfl⟩ (Rs_land _) ?_
    refine d_gI k108_24 (by first | assumption | exact lx2 _ | exact Nat.le_of_ble_eq_true rfl | omega | exact Nat.lt_of_lt_of_le (m := 2) (by omega) (Nat.le_of_ble_eq_true rfl)) ⟨rfl, rfl, Or.inl rfl⟩ ?_
    refine d_ic_ge k108_27 (fun h27 => ?_) (fun h27 => ?_)
    · refine d_le (L1 := [some (vr 1 0), some (vi acc), some (vi (nI a)), none]) (by simp [leL]) ?_
      exact kk _ rfl
    · exact absurd (lt_nI h27 hL.2.1 (by omega) (by omega)) (by omega)
  | succ r ih =>
    intro i iv acc hiv hir hai kk
    subst hiv
    have hi : i < lP (gA o) := by omega
    have hL := h.2.1
    have hA := hw.1
    have hS := h.2.2.2.1.1
    have hwS := hw.2.1.1
    have hP6 := hA.2.1
    have hS5 := hA.1
    refine d_run 2 rfl ?_
    refine d_gR k108_21 (by first | assumption | exact Nat.le_of_ble_eq_true rfl | omega) ⟨rfl, rfl, rfl⟩ (Rs_land _) ?_
    refine d_gI k108_24 (by first | assumption | exact lx2 _ | exact Nat.le_of_ble_eq_true rfl | omega | exact Nat.lt_of_lt_of_le (m := 2) (by omega) (Nat.le_of_ble_eq_true rfl)) ⟨rfl, rfl, Or.inl rfl⟩ ?_
    refine d_ic_ge k108_27 (fun h27 => ?_) (fun h27 => ?_)
    · exact absurd (ge_nI h27 hL.2.1 (by omega) (by omega)) (by omega)
    · refine d_run 1 rfl ?_
      refine d_gR k108_31 (by first | assumption | exact Nat.le_of_ble_eq_true rfl | omega) ⟨rfl, rfl, rfl⟩ rfl ?_
      refine d_gR k108_34 (by first | assumption | exact Nat.le_of_ble_eq_true rfl | omega | exact Nat.lt_of_lt_of_le (m := 5) (by omega) (Nat.le_of_ble_eq_true rfl)) ⟨rfl, rfl, rfl⟩ rfl ?_
      refine d_gR k108_37 (by first | assumption | exact Nat.le_of_ble_eq_true rfl | omega | exact Nat.lt_of_lt_of_le (m := 27) (by omega) (Nat.le_of_ble_eq_true rfl)) ⟨rfl, rfl, rfl⟩ rfl ?_
      refine d_run 5 rfl ?_
      refine d_ia (N := 36) k108_46 (by decide) (by first | assumption | exact Nat.le_of_ble_eq_true rfl | omega | exact Nat.lt_of_lt_of_le (m := 27) (by omega) (Nat.le_of_ble_eq_true rfl)) ⟨⟨rfl, rfl⟩, rfl, rfl⟩ (show 6 * a + i < 36 by omega) (ix6 a i) ?_
      rw [show F 28 0 (6 * a + i) = sWd (gS o) (6 * a + i) from hS.2.2.2.1 _ (by omega)]
      refine d_run 1 rfl ?_
      refine d_ic_lt k108_48 (fun h48 => ?_) (fun h48 => ?_)
      · have e48 : decide (2 ≤ sWd (gS o) (6 * a + i)) = false := decide_eq_false (Int32.not_le.mpr h48)
        refine d_run 2 rfl ?_
        refine ih (i + 1) _ _ (nI_1 i) (by omega) (by omega) ?_
        intro u2 hu
        refine kk u2 ?_
        rw [hu]
        simp only [lpN]
        congr 1
        simp only [engF, engC]
        simp only [*, Bool.false_and, Bool.true_and, if_true, Bool.false_eq_true, if_false]
        try rfl
      · have e48 : decide (2 ≤ sWd (gS o) (6 * a + i)) = true := decide_eq_true (Int32.not_lt.mp h48)
        refine d_run 1 rfl ?_
        refine d_gR k108_52 (by first | assumption | exact Nat.le_of_ble_eq_true rfl | omega) ⟨rfl, rfl, rfl⟩ rfl ?_
        refine d_gR k108_55 (by first | assumption | exact Nat.le_of_ble_eq_true rfl | omega | exact Nat.lt_of_lt_of_le (m := 5) (by omega) (Nat.le_of_ble_eq_true rfl)) ⟨rfl, rfl, rfl⟩ rfl ?_
        refine d_gR k108_58 (by first | assumption | exact Nat.le_of_ble_eq_true rfl | omega | exact Nat.lt_of_lt_of_le (m := 27) (by omega) (Nat.le_of_ble_eq_true rfl)) ⟨rfl, rfl, rfl⟩ rfl ?_
        refine d_run 5 rfl ?_
        refine d_ia (N := 36) k108_67 (by decide) (by first | assumption | exact Nat.le_of_ble_eq_true rfl | omega | exact Nat.lt_of_lt_of_le (m := 27) (by omega) (Nat.le_of_ble_eq_true rfl)) ⟨⟨rfl, rfl⟩, rfl, rfl⟩ (show 6 * i + a < 36 by omega) (ix6 i a) ?_
        rw [show F 28 0 (6 * i + a) = sWd (gS o) (6 * i + a) from hS.2.2.2.1 _ (by omega)]
        refine d_run 1 rfl ?_
        refine d_ic_lt k108_69 (fun h69 => ?_) (fun h69 => ?_)
        · have e69 : decide (2 ≤ sWd (gS o) (6 * i + a)) = false := decide_eq_false (Int32.not_le.mpr h69)
          refine d_run 2 rfl ?_
          refine ih (i + 1) _ _ (nI_1 i) (by omega) (by omega) ?_
          intro u2 hu
          refine kk u2 ?_
          rw [hu]
          simp only [lpN]
          congr 1
          simp only [engF, engC]
          simp only [*, Bool.false_and, Bool.true_and, if_true, Bool.false_eq_true, if_false]
          try rfl
        · have e69 : decide (2 ≤ sWd (gS o) (6 * i + a)) = true := decide_eq_true (Int32.not_lt.mp h69)
          refine d_run 3 rfl ?_
          refine ih (i + 1) _ _ (nI_1 i) (by omega) (by omega) ?_
          intro u2 hu
          refine kk u2 ?_
          rw [hu]
          simp only [lpN]
          congr 1
          simp only [engF, engC]
          simp only [*, Bool.false_and, Bool.true_and, if_true, Bool.false_eq_true, if_false]
          try rfl
theorem l_eng1 (h : CInv F G b o) (hw : WF o) (hd : 100 ≤ d) : ∀ (r i : Nat) (iv : Int32) (acc : Int32), iv = nI i → i + r = lP (gA o) → Td E d 108 4 [some (vr 1 0), some (vi acc), some (vi iv), none] [] x F G b (some (vi (lpN (fun a acc => lpN (engF (sWd (gS o)) a) (a + 1) (lP (gA o) - (a + 1)) acc) i r acc))) (CPost b o F G) := by
  intro r
  induction r with
  | zero =>
    intro i iv acc hiv hir 
    subst hiv
    have hi : i = lP (gA o) := by omega
    have hL := h.2.1
    have hA := hw.1
    have hS := h.2.2.2.1.1
    have hwS := hw.2.1.1
    have hP6 := hA.2.1
    have hS5 := hA.1
    refine d_run 2 rfl ?_
    refine d_gR k108_6 (by first | assumption | exact Nat.le_of_ble_eq_true rfl | omega) ⟨rfl, rfl, rfl⟩ (Rs_land _) ?_
    refine d_gI k108_9 (by first | assumption | exact lx2 _ | exact Nat.le_of_ble_eq_true rfl | omega | exact Nat.lt_of_lt_of_le (m := 2) (by omega) (Nat.le_of_ble_eq_true rfl)) ⟨rfl, rfl, Or.inl rfl⟩ ?_
    refine d_ic_ge k108_12 (fun h12 => ?_) (fun h12 => ?_)
    · refine d_run 1 rfl ?_
      refine d_ir k108_88 rfl (by rfl) ?_
      exact CPost.q h FrD.rf
    · exact absurd (lt_nI h12 hL.2.1 (by omega) (by omega)) (by omega)
  | succ r ih =>
    intro i iv acc hiv hir 
    subst hiv
    have hi : i < lP (gA o) := by omega
    have hL := h.2.1
    have hA := hw.1
    have hS := h.2.2.2.1.1
    have hwS := hw.2.1.1
    have hP6 := hA.2.1
    have hS5 := hA.1
    refine d_run 2 rfl ?_
    refine d_gR k108_6 (by first | assumption | exact Nat.le_of_ble_eq_true rfl | omega) ⟨rfl, rfl, rfl⟩ (Rs_land _) ?_
    refine d_gI k108_9 (by first | assumption | exact lx2 _ | exact Nat.le_of_ble_eq_true rfl | omega | exact Nat.lt_of_lt_of_le (m := 2) (by omega) (Nat.le_of_ble_eq_true rfl)) ⟨rfl, rfl, Or.inl rfl⟩ ?_
    refine d_ic_ge k108_12 (fun h12 => ?_) (fun h12 => ?_)
    · exact absurd (ge_nI h12 hL.2.1 (by omega) (by omega)) (by omega)
    · refine d_run 4 rfl ?_
      refine l_eng2 h hw hd (a := i) (by omega) (lP (gA o) - (i + 1)) (i + 1) _ _ (nI_1 i) (by omega) (by omega) ?_
      intro u2 hu
      subst hu
      refine d_run 2 rfl ?_
      exact ih (i + 1) _ _ (nI_1 i) (by omega)
theorem a_engaged (h : CInv F G b o) (hw : WF o) (hd : 100 ≤ d) : Td E d 108 0 [some (vr 1 0), none, none, none] [] x F G b (some (vi (q_engaged o))) (CPost b (o) F G) := by
  have hL := h.2.1
  have hA := hw.1
  have hS := h.2.2.2.1.1
  have hwS := hw.2.1.1
  have hP6 := hA.2.1
  have hS5 := hA.1
  refine d_run 4 rfl ?_
  exact l_eng1 h hw hd (lP (gA o)) 0 _ _ rfl (by omega)
theorem l_stand (h : CInv F G b o) (hw : WF o) (hd : 100 ≤ d) {p : Nat} (hp : p < lP (gA o)) : ∀ (r i : Nat) (iv : Int32) (bm : Int32 × Int32), iv = nI i → i + r = lS (gA o) → Td E d 102 34 [some (vr 1 0), some (vi (nI p)), some (vr 25 0), some (vi bm.1), some (vi bm.2), some (vi iv), none] [] x F G b (some (vi (lpN (stF (gA o) (gS o) p) i r bm).1)) (CPost b o F G) := by
  intro r
  induction r with
  | zero =>
    intro i iv bm hiv hir
    subst hiv
    have hi : i = lS (gA o) := by omega
    have hL := h.2.1
    have hA := hw.1
    have hS := h.2.2.2.1.1
    have hwS := hw.2.1.1
    have hP6 := hA.2.1
    have hS5 := hA.1
    refine d_run 2 rfl ?_
    refine d_gR k102_37 (by first | assumption | exact Nat.le_of_ble_eq_true rfl | omega) ⟨rfl, rfl, rfl⟩ (Rs_land _) ?_
    refine d_gI k102_40 (by first | assumption | exact lx2 _ | exact Nat.le_of_ble_eq_true rfl | omega | exact Nat.lt_of_lt_of_le (m := 2) (by omega) (Nat.le_of_ble_eq_true rfl)) ⟨rfl, rfl, Or.inl rfl⟩ ?_
    refine d_ic_ge k102_43 (fun h43 => ?_) (fun h43 => ?_)
    · refine d_run 1 rfl ?_
      refine d_ir k102_108 rfl (by rfl) ?_
      exact CPost.q h FrD.rf
    · exact absurd (lt_nI h43 hL.1 (by omega) (by omega)) (by omega)
  | succ r ih =>
    intro i iv bm hiv hir
    subst hiv
    have hi : i < lS (gA o) := by omega
    have hL := h.2.1
    have hA := hw.1
    have hS := h.2.2.2.1.1
    have hwS := hw.2.1.1
    have hP6 := hA.2.1
    have hS5 := hA.1
    simp only [lpN]
    refine d_run 2 rfl ?_
    refine d_gR k102_37 (by first | assumption | exact Nat.le_of_ble_eq_true rfl | omega) ⟨rfl, rfl, rfl⟩ (Rs_land _) ?_
    refine d_gI k102_40 (by first | assumption | exact lx2 _ | exact Nat.le_of_ble_eq_true rfl | omega | exact Nat.lt_of_lt_of_le (m := 2) (by omega) (Nat.le_of_ble_eq_true rfl)) ⟨rfl, rfl, Or.inl rfl⟩ ?_
    refine d_ic_ge k102_43 (fun h43 => ?_) (fun h43 => ?_)
    · exact absurd (ge_nI h43 hL.1 (by omega) (by omega)) (by omega)
    · refine d_run 2 rfl ?_
      refine d_gR k102_49 (by first | assumption | exact Nat.le_of_ble_eq_true rfl | omega | exact Nat.lt_of_lt_of_le (m := 27) (by omega) (Nat.le_of_ble_eq_true rfl)) ⟨rfl, rfl, rfl⟩ rfl ?_
      refine d_run 1 rfl ?_
      refine d_ia (N := 6) k102_53 (by decide) (by first | assumption | exact Nat.le_of_ble_eq_true rfl | omega | exact Nat.lt_of_lt_of_le (m := 27) (by omega) (Nat.le_of_ble_eq_true rfl)) ⟨⟨rfl, rfl⟩, rfl, rfl⟩ (by first | assumption | omega) rfl ?_
      rw [show F 26 0 p = sAt (gS o) p from hS.1 p hp]
      refine d_ic_eq k102_54 (fun h54 => ?_) (fun h54 => ?_)
      · have ho : (decide (nI i = sAt (gS o) p) || cwkA (gA o) (gS o) p i) = true := by simp [h54]
        refine d_run 2 rfl ?_
        refine d_gR k102_73 (by first | assumption | exact Nat.le_of_ble_eq_true rfl | omega) ⟨rfl, rfl, rfl⟩ (Rs_land _) ?_
        refine d_run 2 rfl ?_
        refine d_callT 4 k102_79 (by omega) (Nat.le_of_ble_eq_true rfl) rfl (Nat.le_of_ble_eq_true rfl) (Nat.le_of_ble_eq_true rfl) (recv_ok rfl (by first | assumption | exact Nat.le_of_ble_eq_true rfl | omega | exact Nat.lt_of_lt_of_le (m := 27) (by omega) (Nat.le_of_ble_eq_true rfl))) rfl (a_offer (by omega) (lx2 b) hL hA hS hp (by omega)) rfl ?_
        refine d_callT 1 k102_82 (by omega) (Nat.le_of_ble_eq_true rfl) rfl (Nat.le_of_ble_eq_true rfl) (Nat.le_of_ble_eq_true rfl) recv_st rfl (c_bitsS hP6) rfl ?_
        refine d_run 3 rfl ?_
        refine d_ic_le k102_91 (fun h91 => ?_) (fun h91 => ?_)
        · refine d_run 2 rfl ?_
          refine d_dr1111110 ?_
          first
          | (rw [show stF (gA o) (gS o) p i bm = bm by simp only [stF]; rw [if_neg ho]]
             exact ih (i + 1) _ bm (nI_1 i) (by omega))
          | (rw [show stF (gA o) (gS o) p i bm = bm by simp only [stF]; rw [if_pos ho, if_neg (Int32.not_lt.mpr h91)]]
             exact ih (i + 1) _ bm (nI_1 i) (by omega))
          | (rw [show stF (gA o) (gS o) p i bm = (nI i, cnt (offA (gA o) (gS o) p (nI i)) (lP (gA o))) by simp only [stF]; rw [if_pos ho, if_pos (Int32.not_le.mp h91)]]
             exact ih (i + 1) _ (nI i, cnt (offA (gA o) (gS o) p (nI i)) (lP (gA o))) (nI_1 i) (by omega))
        · refine d_run 4 rfl ?_
          refine d_run 2 rfl ?_
          refine d_dr1111110 ?_
          first
          | (rw [show stF (gA o) (gS o) p i bm = bm by simp only [stF]; rw [if_neg ho]]
             exact ih (i + 1) _ bm (nI_1 i) (by omega))
          | (rw [show stF (gA o) (gS o) p i bm = bm by simp only [stF]; rw [if_pos ho, if_neg (Int32.not_lt.mpr h91)]]
             exact ih (i + 1) _ bm (nI_1 i) (by omega))
          | (rw [show stF (gA o) (gS o) p i bm = (nI i, cnt (offA (gA o) (gS o) p (nI i)) (lP (gA o))) by simp only [stF]; rw [if_pos ho, if_pos (Int32.not_le.mp h91)]]
             exact ih (i + 1) _ (nI i, cnt (offA (gA o) (gS o) p (nI i)) (lP (gA o))) (nI_1 i) (by omega))
      · refine d_run 2 rfl ?_
        refine d_gR k102_59 (by first | assumption | exact Nat.le_of_ble_eq_true rfl | omega) ⟨rfl, rfl, rfl⟩ (Rs_land _) ?_
        refine d_run 2 rfl ?_
        refine d_callT 4 k102_65 (by omega) (Nat.le_of_ble_eq_true rfl) rfl (Nat.le_of_ble_eq_true rfl) (Nat.le_of_ble_eq_true rfl) (recv_ok rfl (by first | assumption | exact Nat.le_of_ble_eq_true rfl | omega | exact Nat.lt_of_lt_of_le (m := 27) (by omega) (Nat.le_of_ble_eq_true rfl))) rfl (a_canWalk (by omega) (lx2 b) hL hA hS hwS hp (by omega)) rfl ?_
        refine d_if_eq k102_68 (fun h68 => ?_) (fun h68 => ?_)
        · rw [b2i0] at h68
          have ho : ¬ (decide (nI i = sAt (gS o) p) || cwkA (gA o) (gS o) p i) = true := by simp [h54, h68]
          refine d_run 2 rfl ?_
          refine d_dr1111110 ?_
          first
          | (rw [show stF (gA o) (gS o) p i bm = bm by simp only [stF]; rw [if_neg ho]]
             exact ih (i + 1) _ bm (nI_1 i) (by omega))
          | (rw [show stF (gA o) (gS o) p i bm = bm by simp only [stF]; rw [if_pos ho, if_neg (Int32.not_lt.mpr h91)]]
             exact ih (i + 1) _ bm (nI_1 i) (by omega))
          | (rw [show stF (gA o) (gS o) p i bm = (nI i, cnt (offA (gA o) (gS o) p (nI i)) (lP (gA o))) by simp only [stF]; rw [if_pos ho, if_pos (Int32.not_le.mp h91)]]
             exact ih (i + 1) _ (nI i, cnt (offA (gA o) (gS o) p (nI i)) (lP (gA o))) (nI_1 i) (by omega))
        · rw [b2i0, Bool.not_eq_false] at h68
          have ho : (decide (nI i = sAt (gS o) p) || cwkA (gA o) (gS o) p i) = true := by simp [h68]
          refine d_run 2 rfl ?_
          refine d_gR k102_73 (by first | assumption | exact Nat.le_of_ble_eq_true rfl | omega) ⟨rfl, rfl, rfl⟩ (Rs_land _) ?_
          refine d_run 2 rfl ?_
          refine d_callT 4 k102_79 (by omega) (Nat.le_of_ble_eq_true rfl) rfl (Nat.le_of_ble_eq_true rfl) (Nat.le_of_ble_eq_true rfl) (recv_ok rfl (by first | assumption | exact Nat.le_of_ble_eq_true rfl | omega | exact Nat.lt_of_lt_of_le (m := 27) (by omega) (Nat.le_of_ble_eq_true rfl))) rfl (a_offer (by omega) (lx2 b) hL hA hS hp (by omega)) rfl ?_
          refine d_callT 1 k102_82 (by omega) (Nat.le_of_ble_eq_true rfl) rfl (Nat.le_of_ble_eq_true rfl) (Nat.le_of_ble_eq_true rfl) recv_st rfl (c_bitsS hP6) rfl ?_
          refine d_run 3 rfl ?_
          refine d_ic_le k102_91 (fun h91 => ?_) (fun h91 => ?_)
          · refine d_run 2 rfl ?_
            refine d_dr1111110 ?_
            first
            | (rw [show stF (gA o) (gS o) p i bm = bm by simp only [stF]; rw [if_neg ho]]
               exact ih (i + 1) _ bm (nI_1 i) (by omega))
            | (rw [show stF (gA o) (gS o) p i bm = bm by simp only [stF]; rw [if_pos ho, if_neg (Int32.not_lt.mpr h91)]]
               exact ih (i + 1) _ bm (nI_1 i) (by omega))
            | (rw [show stF (gA o) (gS o) p i bm = (nI i, cnt (offA (gA o) (gS o) p (nI i)) (lP (gA o))) by simp only [stF]; rw [if_pos ho, if_pos (Int32.not_le.mp h91)]]
               exact ih (i + 1) _ (nI i, cnt (offA (gA o) (gS o) p (nI i)) (lP (gA o))) (nI_1 i) (by omega))
          · refine d_run 4 rfl ?_
            refine d_run 2 rfl ?_
            refine d_dr1111110 ?_
            first
            | (rw [show stF (gA o) (gS o) p i bm = bm by simp only [stF]; rw [if_neg ho]]
               exact ih (i + 1) _ bm (nI_1 i) (by omega))
            | (rw [show stF (gA o) (gS o) p i bm = bm by simp only [stF]; rw [if_pos ho, if_neg (Int32.not_lt.mpr h91)]]
               exact ih (i + 1) _ bm (nI_1 i) (by omega))
            | (rw [show stF (gA o) (gS o) p i bm = (nI i, cnt (offA (gA o) (gS o) p (nI i)) (lP (gA o))) by simp only [stF]; rw [if_pos ho, if_pos (Int32.not_le.mp h91)]]
               exact ih (i + 1) _ (nI i, cnt (offA (gA o) (gS o) p (nI i)) (lP (gA o))) (nI_1 i) (by omega))
theorem a_stand (h : CInv F G b o) (hw : WF o) (hd : 100 ≤ d) : Td E d 102 0 [some (vr 1 0), some (vi u), none, none, none, none, none] [] x F G b (some (vi (q_stand o u))) (CPost b (o) F G) := by
  have hL := h.2.1
  have hA := hw.1
  have hS := h.2.2.2.1.1
  have hwS := hw.2.1.1
  have hP6 := hA.2.1
  have hS5 := hA.1
  by_cases hN : isN u (lP (gA o)) = true
  · obtain ⟨p, hp, rfl⟩ := isN_ex hN (by omega)
    by_cases hc : sitA (gS o) p = true
    · rw [show q_stand o (nI p) = -1 by simp [q_stand, hN, hc, ix_nI (show p < 100000 by omega)]]
      refine d_run 1 rfl ?_
      refine d_gR k102_1 (by first | assumption | exact Nat.le_of_ble_eq_true rfl | omega) ⟨rfl, rfl, rfl⟩ rfl ?_
      refine d_gR k102_4 (by first | assumption | exact Nat.le_of_ble_eq_true rfl | omega | exact Nat.lt_of_lt_of_le (m := 5) (by omega) (Nat.le_of_ble_eq_true rfl)) ⟨rfl, rfl, rfl⟩ rfl ?_
      refine d_run 3 rfl ?_
      refine d_callT 2 k102_10 (by omega) (Nat.le_of_ble_eq_true rfl) rfl (Nat.le_of_ble_eq_true rfl) (Nat.le_of_ble_eq_true rfl) (recv_ok rfl (by first | assumption | exact Nat.le_of_ble_eq_true rfl | omega)) rfl (a_isP hL) rfl ?_
      rw [hN]
      refine d_if_eq k102_13 (fun h13 => ?_) (fun h13 => ?_)
      · exact absurd h13 (by decide)
      · refine d_run 2 rfl ?_
        refine d_callT 2 k102_18 (by omega) (Nat.le_of_ble_eq_true rfl) rfl (Nat.le_of_ble_eq_true rfl) (Nat.le_of_ble_eq_true rfl) (recv_ok rfl (by first | assumption | exact Nat.le_of_ble_eq_true rfl | omega | exact Nat.lt_of_lt_of_le (m := 27) (by omega) (Nat.le_of_ble_eq_true rfl))) rfl (a_sits (by omega) hS hp hP6 (by omega)) rfl ?_
        rw [hc]
        refine d_if_eq k102_21 (fun h21 => ?_) (fun h21 => ?_)
        · exact absurd h21 (by decide)
        · refine d_run 1 rfl ?_
          refine d_ir k102_25 rfl (by rfl) ?_
          exact CPost.q h FrD.rf
    · have hc : sitA (gS o) p = false := by simpa using hc
      rw [show q_stand o (nI p) = (lpN (stF (gA o) (gS o) p) 0 (lS (gA o)) (-1, -1)).1 by simp [q_stand, hN, hc, ix_nI (show p < 100000 by omega)]]
      refine d_run 1 rfl ?_
      refine d_gR k102_1 (by first | assumption | exact Nat.le_of_ble_eq_true rfl | omega) ⟨rfl, rfl, rfl⟩ rfl ?_
      refine d_gR k102_4 (by first | assumption | exact Nat.le_of_ble_eq_true rfl | omega | exact Nat.lt_of_lt_of_le (m := 5) (by omega) (Nat.le_of_ble_eq_true rfl)) ⟨rfl, rfl, rfl⟩ rfl ?_
      refine d_run 3 rfl ?_
      refine d_callT 2 k102_10 (by omega) (Nat.le_of_ble_eq_true rfl) rfl (Nat.le_of_ble_eq_true rfl) (Nat.le_of_ble_eq_true rfl) (recv_ok rfl (by first | assumption | exact Nat.le_of_ble_eq_true rfl | omega)) rfl (a_isP hL) rfl ?_
      rw [hN]
      refine d_if_eq k102_13 (fun h13 => ?_) (fun h13 => ?_)
      · exact absurd h13 (by decide)
      · refine d_run 2 rfl ?_
        refine d_callT 2 k102_18 (by omega) (Nat.le_of_ble_eq_true rfl) rfl (Nat.le_of_ble_eq_true rfl) (Nat.le_of_ble_eq_true rfl) (recv_ok rfl (by first | assumption | exact Nat.le_of_ble_eq_true rfl | omega | exact Nat.lt_of_lt_of_le (m := 27) (by omega) (Nat.le_of_ble_eq_true rfl))) rfl (a_sits (by omega) hS hp hP6 (by omega)) rfl ?_
        rw [hc]
        refine d_if_eq k102_21 (fun h21 => ?_) (fun h21 => ?_)
        · refine d_run 6 rfl ?_
          exact l_stand h hw hd hp (lS (gA o)) 0 _ (-1, -1) rfl (by omega)
        · exact absurd h21 (by decide)
  · have hN : isN u (lP (gA o)) = false := by simpa using hN
    rw [show q_stand o u = -1 by simp [q_stand, hN]]
    refine d_run 1 rfl ?_
    refine d_gR k102_1 (by first | assumption | exact Nat.le_of_ble_eq_true rfl | omega) ⟨rfl, rfl, rfl⟩ rfl ?_
    refine d_gR k102_4 (by first | assumption | exact Nat.le_of_ble_eq_true rfl | omega | exact Nat.lt_of_lt_of_le (m := 5) (by omega) (Nat.le_of_ble_eq_true rfl)) ⟨rfl, rfl, rfl⟩ rfl ?_
    refine d_run 3 rfl ?_
    refine d_callT 2 k102_10 (by omega) (Nat.le_of_ble_eq_true rfl) rfl (Nat.le_of_ble_eq_true rfl) (Nat.le_of_ble_eq_true rfl) (recv_ok rfl (by first | assumption | exact Nat.le_of_ble_eq_true rfl | omega)) rfl (a_isP hL) rfl ?_
    rw [hN]
    refine d_if_eq k102_13 (fun h13 => ?_) (fun h13 => ?_)
    · refine d_run 1 rfl ?_
      refine d_ir k102_25 rfl (by rfl) ?_
      exact CPost.q h FrD.rf
    · exact absurd h13 (by decide)
theorem a_count (h : CInv F G b o) (hw : WF o) (hd : 100 ≤ d) : Td E d 113 0 [some (vr 1 0), some (vi w), none] [] x F G b (some (vi (q_count o w))) (CPost b (o) F G) := by
  have hL := h.2.1
  have hA := hw.1
  have hS := h.2.2.2.1.1
  have hwS := hw.2.1.1
  have hP6 := hA.2.1
  have hS5 := hA.1
  obtain ⟨nw, q1, q2, q3, q4, q5⟩ := h.2.2.2.2.2
  refine d_run 1 rfl ?_
  refine d_gR k113_1 (by first | assumption | exact Nat.le_of_ble_eq_true rfl | omega) ⟨rfl, rfl, rfl⟩ rfl ?_
  refine d_gR k113_4 (by first | assumption | exact Nat.le_of_ble_eq_true rfl | omega | exact Nat.lt_of_lt_of_le (m := 5) (by omega) (Nat.le_of_ble_eq_true rfl)) ⟨rfl, rfl, rfl⟩ rfl ?_
  refine d_run 2 rfl ?_
  by_cases s9_0 : w = 0
  · subst s9_0
    refine d_sw k113_9 rfl (q1 := 76) (by decide) ?_
    refine d_run 1 rfl ?_
    refine d_gR k113_77 (by first | assumption | exact Nat.le_of_ble_eq_true rfl | omega) ⟨rfl, rfl, rfl⟩ (Rs_land _) ?_
    refine d_gI k113_80 (by first | assumption | exact lx2 _ | exact Nat.le_of_ble_eq_true rfl | omega | exact Nat.lt_of_lt_of_le (m := 2) (by omega) (Nat.le_of_ble_eq_true rfl)) ⟨rfl, rfl, Or.inl rfl⟩ ?_
    refine d_ir k113_83 rfl (by simp [q_count]; exact hL.1) ?_
    exact CPost.q h FrD.rf
  by_cases s9_1 : w = 1
  · subst s9_1
    refine d_sw k113_9 rfl (q1 := 84) (by decide) ?_
    refine d_run 1 rfl ?_
    refine d_gR k113_85 (by first | assumption | exact Nat.le_of_ble_eq_true rfl | omega) ⟨rfl, rfl, rfl⟩ (Rs_land _) ?_
    refine d_gI k113_88 (by first | assumption | exact lx2 _ | exact Nat.le_of_ble_eq_true rfl | omega | exact Nat.lt_of_lt_of_le (m := 2) (by omega) (Nat.le_of_ble_eq_true rfl)) ⟨rfl, rfl, Or.inl rfl⟩ ?_
    refine d_ir k113_91 rfl (by simp [q_count]; exact hL.2.1) ?_
    exact CPost.q h FrD.rf
  by_cases s9_2 : w = 2
  · subst s9_2
    refine d_sw k113_9 rfl (q1 := 92) (by decide) ?_
    refine d_run 1 rfl ?_
    refine d_gR k113_93 (by first | assumption | exact Nat.le_of_ble_eq_true rfl | omega) ⟨rfl, rfl, rfl⟩ (Rs_land _) ?_
    refine d_gI k113_96 (by first | assumption | exact lx2 _ | exact Nat.le_of_ble_eq_true rfl | omega | exact Nat.lt_of_lt_of_le (m := 2) (by omega) (Nat.le_of_ble_eq_true rfl)) ⟨rfl, rfl, Or.inl rfl⟩ ?_
    refine d_ir k113_99 rfl (by simp [q_count]; exact hL.so) ?_
    exact CPost.q h FrD.rf
  by_cases s9_3 : w = 3
  · subst s9_3
    refine d_sw k113_9 rfl (q1 := 100) (by decide) ?_
    refine d_run 1 rfl ?_
    refine d_gR k113_101 (by first | assumption | exact Nat.le_of_ble_eq_true rfl | omega) ⟨rfl, rfl, rfl⟩ (Rs_land _) ?_
    refine d_gI k113_104 (by first | assumption | exact lx2 _ | exact Nat.le_of_ble_eq_true rfl | omega | exact Nat.lt_of_lt_of_le (m := 2) (by omega) (Nat.le_of_ble_eq_true rfl)) ⟨rfl, rfl, Or.inl rfl⟩ ?_
    refine d_ir k113_107 rfl (by simp [q_count]; exact hL.sp) ?_
    exact CPost.q h FrD.rf
  by_cases s9_4 : w = 4
  · subst s9_4
    refine d_sw k113_9 rfl (q1 := 108) (by decide) ?_
    refine d_run 1 rfl ?_
    refine d_gI k113_109 (by first | assumption | exact Nat.le_of_ble_eq_true rfl | omega | exact Nat.lt_of_lt_of_le (m := 27) (by omega) (Nat.le_of_ble_eq_true rfl)) ⟨rfl, rfl, Or.inl rfl⟩ ?_
    refine d_ir k113_112 rfl (by simp [q_count]; exact hS.2.1) ?_
    exact CPost.q h FrD.rf
  by_cases s9_5 : w = 5
  · subst s9_5
    refine d_sw k113_9 rfl (q1 := 113) (by decide) ?_
    refine d_run 2 rfl ?_
    refine d_gR k113_115 (by first | assumption | exact Nat.le_of_ble_eq_true rfl | omega) ⟨rfl, rfl, rfl⟩ (Rs_land _) ?_
    refine d_callT 2 k113_118 (by omega) (Nat.le_of_ble_eq_true rfl) rfl (Nat.le_of_ble_eq_true rfl) (Nat.le_of_ble_eq_true rfl) (recv_ok rfl (by first | assumption | exact Nat.le_of_ble_eq_true rfl | omega | exact Nat.lt_of_lt_of_le (m := 27) (by omega) (Nat.le_of_ble_eq_true rfl))) rfl (a_sitters (by omega) (lx2 b) hL hA hS (by omega)) rfl ?_
    refine d_ir k113_121 rfl (by simp [q_count]) ?_
    exact CPost.q h FrD.rf
  by_cases s9_6 : w = 6
  · subst s9_6
    refine d_sw k113_9 rfl (q1 := 122) (by decide) ?_
    refine d_run 1 rfl ?_
    refine d_gI k113_123 (by first | assumption | exact Nat.le_of_ble_eq_true rfl | omega | exact Nat.lt_of_lt_of_le (m := 27) (by omega) (Nat.le_of_ble_eq_true rfl)) ⟨rfl, rfl, Or.inl rfl⟩ ?_
    refine d_ir k113_126 rfl (by simp [q_count]; exact hS.sn) ?_
    exact CPost.q h FrD.rf
  by_cases s9_7 : w = 7
  · subst s9_7
    refine d_sw k113_9 rfl (q1 := 127) (by decide) ?_
    refine d_run 2 rfl ?_
    refine d_gR k113_129 (by first | assumption | exact Nat.le_of_ble_eq_true rfl | omega) ⟨rfl, rfl, rfl⟩ (Rs_land _) ?_
    refine d_callT 2 k113_132 (by omega) (Nat.le_of_ble_eq_true rfl) rfl (Nat.le_of_ble_eq_true rfl) (Nat.le_of_ble_eq_true rfl) (recv_ok rfl (by first | assumption | exact Nat.le_of_ble_eq_true rfl | omega | exact Nat.lt_of_lt_of_le (m := 27) (by omega) (Nat.le_of_ble_eq_true rfl))) rfl (a_leftAll (by omega) (lx2 b) hL hA hS) rfl ?_
    refine d_ir k113_135 rfl (by simp [q_count]) ?_
    exact CPost.q h FrD.rf
  by_cases s9_8 : w = 8
  · subst s9_8
    refine d_sw k113_9 rfl (q1 := 136) (by decide) ?_
    refine d_run 1 rfl ?_
    refine d_gI k113_137 (by first | assumption | exact Nat.le_of_ble_eq_true rfl | omega | exact Nat.lt_of_lt_of_le (m := 27) (by omega) (Nat.le_of_ble_eq_true rfl)) ⟨rfl, rfl, Or.inl rfl⟩ ?_
    refine d_ir k113_140 rfl (by simp [q_count]; exact hS.2.2.2.2.2.1.trans rfl) ?_
    exact CPost.q h FrD.rf
  by_cases s9_9 : w = 9
  · subst s9_9
    refine d_sw k113_9 rfl (q1 := 141) (by decide) ?_
    refine d_run 1 rfl ?_
    refine d_gR k113_142 (by first | assumption | exact Nat.le_of_ble_eq_true rfl | omega) ⟨rfl, rfl, rfl⟩ rfl ?_
    refine d_gR k113_145 (by first | assumption | exact Nat.le_of_ble_eq_true rfl | omega | exact Nat.lt_of_lt_of_le (m := 5) (by omega) (Nat.le_of_ble_eq_true rfl)) ⟨rfl, rfl, rfl⟩ rfl ?_
    refine d_gI k113_148 (by first | assumption | exact Nat.le_of_ble_eq_true rfl | omega | exact Nat.lt_of_lt_of_le (m := 6) (by omega) (Nat.le_of_ble_eq_true rfl)) ⟨rfl, rfl, Or.inl rfl⟩ ?_
    refine d_ir k113_151 rfl (by simp [q_count]; exact h.2.2.2.1.2.1.1) ?_
    exact CPost.q h FrD.rf
  by_cases s9_10 : w = 10
  · subst s9_10
    refine d_sw k113_9 rfl (q1 := 152) (by decide) ?_
    refine d_run 1 rfl ?_
    refine d_gR k113_153 (by first | assumption | exact Nat.le_of_ble_eq_true rfl | omega) ⟨rfl, rfl, rfl⟩ rfl ?_
    refine d_callT 1 k113_156 (by omega) (Nat.le_of_ble_eq_true rfl) rfl (Nat.le_of_ble_eq_true rfl) (Nat.le_of_ble_eq_true rfl) (recv_ok rfl (by first | assumption | exact Nat.le_of_ble_eq_true rfl | omega | exact Nat.lt_of_lt_of_le (m := 5) (by omega) (Nat.le_of_ble_eq_true rfl))) rfl (a_talesTold (by omega) h.2.2.2.1.2.2) rfl ?_
    refine d_ir k113_159 rfl (by simp [q_count]) ?_
    exact CPost.q h FrD.rf
  by_cases s9_11 : w = 11
  · subst s9_11
    refine d_sw k113_9 rfl (q1 := 160) (by decide) ?_
    refine d_run 1 rfl ?_
    refine d_gR k113_161 (by first | assumption | exact Nat.le_of_ble_eq_true rfl | omega) ⟨rfl, rfl, rfl⟩ rfl ?_
    refine d_gI k113_164 (by first | assumption | exact Nat.le_of_ble_eq_true rfl | omega) ⟨rfl, rfl, Or.inl rfl⟩ ?_
    refine d_ir k113_167 rfl (by simp [q_count]; exact q3) ?_
    exact CPost.q h FrD.rf
  by_cases s9_12 : w = 12
  · subst s9_12
    refine d_sw k113_9 rfl (q1 := 168) (by decide) ?_
    refine d_run 1 rfl ?_
    refine d_gR k113_169 (by first | assumption | exact Nat.le_of_ble_eq_true rfl | omega) ⟨rfl, rfl, rfl⟩ rfl ?_
    refine d_gI k113_172 (by first | assumption | exact Nat.le_of_ble_eq_true rfl | omega) ⟨rfl, rfl, Or.inl rfl⟩ ?_
    refine d_ir k113_175 rfl (by simp [q_count]; exact h.1.1) ?_
    exact CPost.q h FrD.rf
  have e9_0 : (w).toInt ≠ 0 := fun e => s9_0 (i32_of e)
  have e9_1 : (w).toInt ≠ 1 := fun e => s9_1 (i32_of e)
  have e9_2 : (w).toInt ≠ 2 := fun e => s9_2 (i32_of e)
  have e9_3 : (w).toInt ≠ 3 := fun e => s9_3 (i32_of e)
  have e9_4 : (w).toInt ≠ 4 := fun e => s9_4 (i32_of e)
  have e9_5 : (w).toInt ≠ 5 := fun e => s9_5 (i32_of e)
  have e9_6 : (w).toInt ≠ 6 := fun e => s9_6 (i32_of e)
  have e9_7 : (w).toInt ≠ 7 := fun e => s9_7 (i32_of e)
  have e9_8 : (w).toInt ≠ 8 := fun e => s9_8 (i32_of e)
  have e9_9 : (w).toInt ≠ 9 := fun e => s9_9 (i32_of e)
  have e9_10 : (w).toInt ≠ 10 := fun e => s9_10 (i32_of e)
  have e9_11 : (w).toInt ≠ 11 := fun e => s9_11 (i32_of e)
  have e9_12 : (w).toInt ≠ 12 := fun e => s9_12 (i32_of e)
  refine d_sw k113_9 rfl (q1 := 176) (sw_out (by simp only [List.length_cons, List.length_nil]; omega)) ?_
  refine d_run 1 rfl ?_
  refine d_ir k113_177 rfl (by simp [q_count, *]) ?_
  exact CPost.q h FrD.rf
end P4
