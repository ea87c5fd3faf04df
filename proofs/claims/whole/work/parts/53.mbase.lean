/-! THE REFERENCE: ITS ROW OF NUMBERS, ITS LAND; what its state methods answer and do -/
def rowS (g : Nat → Int32) (P : Nat) (s : ST) : Prop := g 0 = sHr s ∧ g 1 = sSn s ∧ (∀ p, p < P → g (2 + p) = sAt s p) ∧ (∀ p, p < P → g (8 + p) = sLf s p) ∧ (∀ p, P ≤ p → p < 6 → g (8 + p) = 0) ∧ ∀ i, i < 36 → g (14 + i) = sWd s i
theorem rowS.eq {g g2 : Nat → Int32} {P : Nat} {s : ST} (h : rowS g P s) (hP : P ≤ 6) (e : ∀ i, i < 50 → g2 i = g i) : rowS g2 P s := by
  obtain ⟨h1, h2, h3, h4, h5, h6⟩ := h
  refine ⟨by rw [e 0 (by omega)]; exact h1, by rw [e 1 (by omega)]; exact h2, fun p hp => ?_, fun p hp => ?_, fun p a c => ?_, fun i hi => ?_⟩
  · rw [e _ (by omega)]; exact h3 p hp
  · rw [e _ (by omega)]; exact h4 p hp
  · rw [e _ (by omega)]; exact h5 p a c
  · rw [e _ (by omega)]; exact h6 i hi
def ML (F : FT) (A : LA) : Prop := F 42 0 0 = nI (lS A) ∧ F 42 0 1 = nI (lP A) ∧ F 42 0 2 = lSo A ∧ F 42 0 3 = lSp A ∧ eqR (lS A) (F 45 0) (lLn A) ∧ eqR (lP A) (F 46 0) (lKi A) ∧ eqR (lP A) (F 47 0) (lHm A) ∧ eqR (lP A) (F 48 0) (lLf A) ∧ eqR (lP A) (F 49 0) (lKn A) ∧ WKok F (lW A)
def FrK (D : Nat → Bool) (F F2 : FT) : Prop := ∀ k, D k = false → F2 k = F k
theorem FrK.rf {D : Nat → Bool} {F : FT} : FrK D F F := fun _ _ => rfl
theorem FrK.tr {D : Nat → Bool} {F F2 F3 : FT} (h : FrK D F F2) (h2 : FrK D F2 F3) : FrK D F F3 := fun k e => (h2 k e).trans (h k e)
theorem FrK.mo {D D2 : Nat → Bool} {F F2 : FT} (h : FrK D F F2) (hD : ∀ k, D2 k = false → D k = false) : FrK D2 F F2 := fun k e => h k (hD k e)
theorem FrK.u {D : Nat → Bool} {F F2 : FT} (h : FrK D F F2) {k n i : Nat} {v : Int32} (hD : D k = true) : FrK D F (uF F2 k n i v) := by
  intro k2 e
  rw [← h k2 e]
  refine uF_k ?_
  rintro rfl
  rw [hD] at e
  cases e
theorem WKok.fr {F F2 : FT} {LW : LWT} (h : WKok F LW) (h50 : F2 50 = F 50) (h51 : F2 51 = F 51) (h52 : F2 52 = F 52) : WKok F2 LW := by
  unfold WKok at h ⊢
  rw [h50, h51, h52]
  exact h
theorem ML.fr {F F2 : FT} {A : LA} (h : ML F A) (hf : ∀ k, 42 ≤ k → k ≤ 52 → F2 k = F k) : ML F2 A := by
  obtain ⟨h1, h2, h3, h4, h5, h6, h7, h8, h9, h10⟩ := h
  refine ⟨?_, ?_, ?_, ?_, ?_, ?_, ?_, ?_, ?_, h10.fr (hf 50 (by omega) (by omega)) (hf 51 (by omega) (by omega)) (hf 52 (by omega) (by omega))⟩
  · rw [hf 42 (by omega) (by omega)]; exact h1
  · rw [hf 42 (by omega) (by omega)]; exact h2
  · rw [hf 42 (by omega) (by omega)]; exact h3
  · rw [hf 42 (by omega) (by omega)]; exact h4
  · rw [hf 45 (by omega) (by omega)]; exact h5
  · rw [hf 46 (by omega) (by omega)]; exact h6
  · rw [hf 47 (by omega) (by omega)]; exact h7
  · rw [hf 48 (by omega) (by omega)]; exact h8
  · rw [hf 49 (by omega) (by omega)]; exact h9
/-- the state's row, the scratch rows, the object's own numbers -/
def dMH (k : Nat) : Bool := decide (k = 40) || decide (k = 70) || scr k
theorem ML.mh {F F2 : FT} {A : LA} (h : ML F A) (hf : FrK dMH F F2) : ML F2 A := h.fr (fun k a b => hf k (by simp only [dMH, scr, Bool.or_eq_false_iff, Bool.and_eq_false_iff, decide_eq_false_iff_not]; omega))
def svM (F : FT) (wi : Int32) : SV := (mLf F, mWd F, mSn F, wi, F 40 0 50)
theorem mF_id {F : FT} {wi : Int32} : mF F (svM F wi) F = F := by
  funext k n i
  simp only [mF, svM]
  by_cases h : k = 70
  · subst h
    simp only [if_true]
    by_cases h1 : n = 0 ∧ i = 1
    · obtain ⟨rfl, rfl⟩ := h1
      simp
    · rw [if_neg h1]
      by_cases h2 : n = 0 ∧ 8 ≤ i ∧ i < 14
      · obtain ⟨rfl, a, c⟩ := h2
        rw [if_pos ⟨rfl, a, c⟩]
        show F 70 0 (8 + (i - 8)) = _
        rw [show 8 + (i - 8) = i by omega]
      · rw [if_neg h2]
        by_cases h3 : n = 0 ∧ 14 ≤ i ∧ i < 50
        · obtain ⟨rfl, a, c⟩ := h3
          rw [if_pos ⟨rfl, a, c⟩]
          show F 70 0 (14 + (i - 14)) = _
          rw [show 14 + (i - 14) = i by omega]
        · rw [if_neg h3]
  · rw [if_neg h]
    by_cases h4 : k = 40
    · subst h4
      simp only [if_true]
      by_cases h5 : n = 0 ∧ i = 50
      · obtain ⟨rfl, rfl⟩ := h5
        simp
      · rw [if_neg h5]
    · rw [if_neg h4]
      split <;> rfl
theorem mF_fr {F A : FT} {s : SV} : FrK dMH F (mF F s A) := by
  intro k e
  simp only [dMH, Bool.or_eq_false_iff, decide_eq_false_iff_not] at e
  funext n i
  simp only [mF]
  rw [if_neg e.1.2, if_neg e.1.1, if_neg (by simp [e.2])]
theorem mF_40 {F A : FT} {s : SV} {i : Nat} (hi : i ≠ 50) : mF F s A 40 0 i = F 40 0 i := by simp [mF, hi]
theorem mF_0 {F A : FT} {s : SV} : mF F s A 70 0 0 = F 70 0 0 := by simp [mF]
theorem tn_out {LW : LWT} {ki at_ : Nat → Int32} {P : Nat} {snap : Int32} {w o p : Nat} {s : SV} (ho : o ≠ p) : (tn LW ki at_ P snap w o s).1 p = s.1 p := by
  unfold tn
  split
  · exact pk_un (fun e => ho e.symm)
  · show upd (upd s.1 o _) o 0 p = _
    rw [pk_un (fun e => ho e.symm), pk_un (fun e => ho e.symm)]
theorem wl_out {LW : LWT} {ki kn at_ : Nat → Int32} {P : Nat} {so snap : Int32} {w o p : Nat} {s : SV} (ho : o ≠ p) : (wl LW ki kn at_ P so snap w o s).1 p = s.1 p := by
  unfold wl
  split
  · exact tn_out ho
  · rfl
theorem inr_out {LW : LWT} {ki kn at_ : Nat → Int32} {P : Nat} {so snap : Int32} {a p : Nat} (ha : a < p) : ∀ (k b : Nat) (s : SV), b + k ≤ p → (inr LW ki kn at_ P so snap a b k s).1 p = s.1 p
  | 0, _, _, _ => rfl
  | k + 1, b, s, hb => by
    show (inr LW ki kn at_ P so snap a (b + 1) k _).1 p = _
    rw [inr_out ha k (b + 1) _ (by omega), wl_out (by omega), wl_out (by omega)]
theorem otr_out {LW : LWT} {ki kn at_ : Nat → Int32} {P : Nat} {so snap : Int32} {p : Nat} (hP : P ≤ p) : ∀ (k a : Nat) (s : SV), a + k ≤ P → (otr LW ki kn at_ P so snap a k s).1 p = s.1 p
  | 0, _, _, _ => rfl
  | k + 1, a, s, ha => by
    show (otr LW ki kn at_ P so snap (a + 1) k _).1 p = _
    rw [otr_out hP k (a + 1) _ (by omega), inr_out (by omega) _ _ _ (by omega)]
theorem hrm_out {LW : LWT} {ki kn at_ : Nat → Int32} {P : Nat} {so snap : Int32} {p : Nat} {s : SV} (hP : P ≤ p) : (hrm LW ki kn at_ P so snap s).1 p = s.1 p := by
  unfold hrm
  simp only
  rw [dcm_at _ _ _ _ (Or.inr (by omega)), otr_out hP _ _ _ (by omega)]
theorem i32_ac (a c : Int32) : a = c + (a - c) := by rw [Int32.add_comm, Int32.sub_add_cancel]
theorem i32_cs (a c e : Int32) (h : a = c + e) : e = a - c := by rw [h, Int32.add_comm, Int32.add_sub_cancel]
def mwdA (A : LA) (s : ST) (a c : Nat) : Bool := mwd (lKi A) (lKn A) (sAt s) (sLf s) (sWd s) (lSo A) (sSn s) a c
section M5
variable {E : EV} {d n p x l q w : Nat} {F : FT} {G : GT} {b : Bool} {A : LA} {s : ST} {goes : Int32}
theorem rowS.v {wi : Int32} (h : rowS (F 70 0) (lP A) s) (hwi : wi = sWi s) : eqV (lP A) (F 40 0 50 - sSp s) (svM F wi) (sV s) := ⟨h.2.2.2.1, h.2.2.2.2.2, h.2.1, hwi, i32_ac _ _⟩
theorem b_snapped (h : rowS (F 70 0) (lP A) s) : Tm E d 180 0 [some (vr 40 0), some (vi (nI p))] [] (cC x) F G (Rs b) (some (vi (b2i (bit (sSn s) p)))) (cC x, F, G, Rs b) := by
  have k := m_isSnapped (E := E) (d := d) (x := x) (F := F) (G := G) (b := b) (p := p)
  rw [show mSn F = sSn s from h.2.1] at k
  exact k
theorem rowS.sit (h : rowS (F 70 0) (lP A) s) (hp : p < lP A) : sit (mLf F) (mSn F) p = sitA s p := by
  rw [show mSn F = sSn s from h.2.1]
  exact sit_c (h.2.2.2.1 p hp)
theorem b_sits (hA : wfL A) (h : rowS (F 70 0) (lP A) s) (hp : p < lP A) (hd : 1 ≤ d) : Tm E d 181 0 [some (vr 40 0), some (vi (nI p))] [] (cC x) F G (Rs b) (some (vi (b2i (sitA s p)))) (cC x, F, G, Rs b) := by
  have h6 := hA.2.1
  have k := m_isSitting (E := E) (x := x) (F := F) (G := G) (b := b) (p := p) (by omega) hd
  rw [h.sit hp] at k
  exact k
theorem b_sitting (hL : ML F A) (hA : wfL A) (h : rowS (F 70 0) (lP A) s) (hd : 2 ≤ d) : Tm E d 182 0 [some (vr 40 0), none, none] [] (cC x) F G (Rs b) (some (vi (bset (sitA s) (lP A)))) (cC x, F, G, Rs b) := by
  have k := m_sitting (E := E) (x := x) (F := F) (G := G) (b := b) hL.2.1 hA.2.1 hd
  rw [bset_c (fun i hi => h.sit hi)] at k
  exact k
theorem rowS.stg (hL : ML F A) (hA : wfL A) (h : rowS (F 70 0) (lP A) s) (hp : p < lP A) (hq : q < lP A) : strg (F 49 0) (mWd F) (F 42 0 2) p q = stgA A s p q := by
  have h6 := hA.2.1
  rw [hL.2.2.1]
  exact strg_k (by omega) (by omega) (hL.2.2.2.2.2.2.2.2.1 p hp) h.2.2.2.2.2
theorem b_stg (hL : ML F A) (hA : wfL A) (h : rowS (F 70 0) (lP A) s) (hp : p < lP A) (hq : q < lP A) (hd : 1 ≤ d) : Tm E d 179 0 [some (vr 40 0), some (vi (nI p)), some (vi (nI q))] [] (cC x) F G (Rs b) (some (vi (b2i (stgA A s p q)))) (cC x, F, G, Rs b) := by
  have h6 := hA.2.1
  have k := m_strg (E := E) (x := x) (F := F) (G := G) (b := b) (p := p) (q := q) (by omega) (by omega) hd
  rw [h.stg hL hA hp hq] at k
  exact k
theorem b_canWalk (hL : ML F A) (hA : wfL A) (h : rowS (F 70 0) (lP A) s) (hw : wfS A s) (hp : p < lP A) (hd : 2 ≤ d) : Tm E d 184 0 [some (vr 40 0), some (vi (nI p)), some (vi (nI q))] [] (cC x) F G (Rs b) (some (vi (b2i (cwkA A s p q)))) (cC x, F, G, Rs b) := by
  have h6 := hA.2.1
  have h5 := hA.1
  obtain ⟨a, ha, e⟩ := hw.1 p hp
  have ea : F 70 0 (2 + p) = nI a := (h.2.2.1 p hp).trans e
  have k := m_canWalk (E := E) (x := x) (F := F) (G := G) (b := b) (p := p) (q := q) (by omega) ea (by omega) hd
  rw [show cwk (F 45 0) (mAt F) (mLf F) (mSn F) p q = cwkA A s p q by
    simp only [cwkA, cwk]
    rw [h.sit hp, show mAt F p = nI a from ea, e, nI_clamp (by omega), hL.2.2.2.2.1 a ha]
    rfl] at k
  exact k
theorem rowS.mwd (hL : ML F A) (hA : wfL A) (h : rowS (F 70 0) (lP A) s) (hp : p < lP A) (hq : q < lP A) : mwd (F 46 0) (F 49 0) (mAt F) (mLf F) (mWd F) (F 42 0 2) (mSn F) p q = mwdA A s p q := by
  simp only [mwdA, _root_.Jvm.Pilot.@@N@@.mwd]
  rw [h.sit hp, h.stg hL hA hp hq, show mAt F p = sAt s p from h.2.2.1 p hp, show mAt F q = sAt s q from h.2.2.1 q hq, hL.2.2.2.2.2.1 p hp]
  rfl
theorem b_might (hL : ML F A) (hA : wfL A) (h : rowS (F 70 0) (lP A) s) (hp : p < lP A) (hq : q < lP A) (hd : 2 ≤ d) : Tm E d 185 0 [some (vr 40 0), some (vi (nI p)), some (vi (nI q))] [] (cC x) F G (Rs b) (some (vi (b2i (mwdA A s p q)))) (cC x, F, G, Rs b) := by
  have h6 := hA.2.1
  have k := m_might (E := E) (x := x) (F := F) (G := G) (b := b) (p := p) (q := q) (by omega) (by omega) hd
  rw [h.mwd hL hA hp hq] at k
  exact k
theorem b_canBe (hL : ML F A) (hA : wfL A) (h : rowS (F 70 0) (lP A) s) (hp : p < lP A) (hd : 1 ≤ d) : Tm E d 186 0 [some (vr 40 0), some (vi (nI p))] [] (cC x) F G (Rs b) (some (vi (b2i (decide (¬ lKi A p = 3) && !bit (sSn s) p)))) (cC x, F, G, Rs b) := by
  have h6 := hA.2.1
  have k := m_canBe (E := E) (x := x) (F := F) (G := G) (b := b) (p := p) (by omega) hd
  rw [show mSn F = sSn s from h.2.1, hL.2.2.2.2.2.1 p hp] at k
  exact k
theorem cwd_mwdA {A : LA} {s : ST} {a c : Nat} : cwdA A s a c = (mwdA A s a c && (decide (¬ lKi A c = 3) && !bit (sSn s) c)) := cwd_mwd _ _ _ _ _ _ _ _ _
theorem b_given (hL : ML F A) (hA : wfL A) (h : rowS (F 70 0) (lP A) s) (hp : p < lP A) (hq : q < lP A) (hd : 3 ≤ d) : Td E d 188 0 [some (vr 40 0), some (vi (nI p)), some (vi (nI q)), some (vi goes), none] [] x F G b (some (vi (givA A s p q goes))) (fun F2 G2 => G2 = G ∧ FrK scr F F2) := by
  have h6 := hA.2.1
  obtain ⟨A2, k⟩ := m_windsBy (E := E) (x := x) (F := F) (G := G) (b := b) (s := svM F (sWi s)) (A := F) (p := p) (q := q) (goes := goes) hL.2.1 hA.2.1 (by omega) (by omega) hL.2.2.2.2.2.2.2.2.2 hd
  rw [mF_id] at k
  have e : gvn (F 46 0) p (lW A goes ((svM F (sWi s)).1 p) (tog (svM F (sWi s)).2.1 p q) (crd (mAt F) p q (lP A))) = givA A s p q goes := by
    have e1 : (svM F (sWi s)).1 p = sLf s p := h.2.2.2.1 p hp
    have e2 : tog (svM F (sWi s)).2.1 p q = tog (sWd s) p q := tog_c (by omega) (by omega) h.2.2.2.2.2
    rw [e1, e2, crd_c (show mAt F q = sAt s q from h.2.2.1 q hq) h.2.2.1]
    simp only [givA, gvn, hL.2.2.2.2.2.1 p hp]
  rw [e] at k
  refine td_T k ⟨rfl, fun kk ek => ?_⟩
  have ei := mF_id (F := F) (wi := sWi s)
  funext n i
  have e2 := congrFun (congrFun (congrFun ei kk) n) i
  rw [← e2]
  simp only [mF, if_neg (show ¬ scr kk = true by simp [ek])]
/-- behind windings: the state, the snaps told, all else as it was -/
def MQp (F : FT) (P : Nat) (s t : ST) (F2 : FT) : Prop := rowS (F2 70 0) P t ∧ F2 40 0 50 = F 40 0 50 + (sSp t - sSp s) ∧ (∀ i, i ≠ 50 → F2 40 0 i = F 40 0 i) ∧ FrK dMH F F2
theorem MQp_of {F A2 : FT} {t2 : SV} {t : ST} (h : rowS (F 70 0) (lP A) s) (hA : wfL A) (he : eqV (lP A) (F 40 0 50 - sSp s) t2 (sV t)) (hat : sAt t = sAt s) (hh : sHr t = sHr s) (ho : ∀ p, lP A ≤ p → t2.1 p = mLf F p) : MQp F (lP A) s t (mF F t2 A2) := by
  have h6 := hA.2.1
  refine ⟨⟨?_, ?_, ?_, ?_, ?_, ?_⟩, ?_, fun i hi => mF_40 hi, mF_fr⟩
  · rw [mF_0, hh]; exact h.1
  · rw [mr_sn]; exact he.2.2.1
  · intro p hp
    rw [mr_at (by omega), hat]
    exact h.2.2.1 p hp
  · intro p hp
    rw [mr_lf (by omega)]
    exact he.1 p hp
  · intro p a c
    rw [mr_lf (by omega), ho p a]
    exact h.2.2.2.2.1 p a c
  · intro i hi
    rw [mr_wd hi]
    exact he.2.1 i hi
  · rw [mr_sp, he.2.2.2.2]
    show sSp t + (F 40 0 50 - sSp s) = _
    rw [Int32.sub_eq_add_neg, Int32.sub_eq_add_neg, ← Int32.add_assoc, ← Int32.add_assoc, Int32.add_comm (sSp t)]
theorem b_winds (hL : ML F A) (hA : wfL A) (h : rowS (F 70 0) (lP A) s) (hp : p < lP A) (hq : q < lP A) (hd : 4 ≤ d) : Td E d 189 0 [some (vr 40 0), some (vi (nI p)), some (vi (nI q))] [] x F G b none (fun F2 G2 => G2 = G ∧ MQp F (lP A) s (turnA A s p q) F2) := by
  have h6 := hA.2.1
  obtain ⟨A2, k⟩ := m_winds (E := E) (x := x) (F := F) (G := G) (b := b) (lf := mLf F) (wd := mWd F) (sn := mSn F) (wi := sWi s) (sp := F 40 0 50) (A := F) (p := p) (q := q) hL.2.1 hA.2.1 (by omega) (by omega) hL.2.2.2.2.2.2.2.2.2 hd
  have k : Tm E d 189 0 [some (vr 40 0), some (vi (nI p)), some (vi (nI q))] [] (cC x) (mF F (svM F (sWi s)) F) G (Rs b) none (cC x, mF F (tn (lW A) (F 46 0) (mAt F) (lP A) (F 42 0 3) p q (svM F (sWi s))) A2, G, Rs b) := k
  rw [mF_id] at k
  refine td_T k ⟨rfl, MQp_of h hA ?_ rfl rfl (fun p2 hp2 => tn_out (by omega))⟩
  rw [hL.2.2.2.1]
  exact tn_c hA.2.1 (h.v rfl) hL.2.2.2.2.2.1 h.2.2.1 hp hq
theorem b_passes (hL : ML F A) (hA : wfL A) (h : rowS (F 70 0) (lP A) s) (hw : wfS A s) (hd : 6 ≤ d) : Td E d 191 0 [some (vr 40 0), none, none, none] [] x F G b (some (vi (hrN A s))) (fun F2 G2 => G2 = G ∧ MQp F (lP A) s (hourA A s) F2) := by
  have h6 := hA.2.1
  obtain ⟨A2, k⟩ := m_passes (E := E) (x := x) (F := F) (G := G) (b := b) (s := svM F (sWi s)) (A := F) hL.2.1 hA.2.1 hL.2.2.2.2.2.2.2.2.2 hd
  rw [mF_id, hL.2.2.2.1, hL.2.2.1] at k
  obtain ⟨c, hc, e⟩ := hA.2.2.2.1
  have he := hrm_c (LW := lW A) (so := lSo A) (snap := lSp A) hA.2.1 e hc (wfV_c (h.v rfl) hw.2.1) (h.v rfl) hL.2.2.2.2.2.1 hL.2.2.2.2.2.2.2.2.1 h.2.2.1
  rw [show (hrm (lW A) (F 46 0) (F 49 0) (mAt F) (lP A) (lSo A) (lSp A) (svM F (sWi s))).2.2.2.1 - (svM F (sWi s)).2.2.2.1 = hrN A s by rw [he.2.2.2.1]; rfl] at k
  have k2 := MQp_of (t := (sAt s, sHr s, hr (lW A) (lKi A) (lKn A) (sAt s) (lP A) (lSo A) (lSp A) (sV s))) (A2 := A2) h hA he rfl rfl (fun p2 hp2 => hrm_out hp2)
  obtain ⟨⟨r1, r2, r3, r4, r5, r6⟩, k3, k4, k5⟩ := k2
  refine td_T k ⟨rfl, ⟨?_, ?_, ?_, ?_, ?_, ?_⟩, ?_, ?_, k5.u rfl⟩
  · rw [uF_r, pk_us, h.1]; rfl
  · rw [uF_r, pk_un (by omega)]; exact r2
  · intro p hp; rw [uF_r, pk_un (by omega)]; exact r3 p hp
  · intro p hp; rw [uF_r, pk_un (by omega)]; exact r4 p hp
  · intro p a c; rw [uF_r, pk_un (by omega)]; exact r5 p a c
  · intro i hi; rw [uF_r, pk_un (by omega)]; exact r6 i hi
  · rw [uF_k (by decide)]; exact k3
  · intro i hi; rw [uF_k (by decide)]; exact k4 i hi
theorem b_mends (hA : wfL A) (h : rowS (F 70 0) (lP A) s) (hp : p < lP A) : Td E d 192 0 [some (vr 40 0), some (vi (nI p))] [] x F G b none (fun F2 G2 => G2 = G ∧ MQp F (lP A) s (repA s p) F2) := by
  have h6 := hA.2.1
  obtain ⟨r1, r2, r3, r4, r5, r6⟩ := h
  refine d_run 1 rfl ?_
  refine d_gR k192_1 (by first | assumption | exact Nat.le_of_ble_eq_true rfl | omega) ⟨rfl, rfl, rfl⟩ rfl ?_
  refine d_run 2 rfl ?_
  refine d_ia (N := 50) (j := 1) k192_6 (by decide) (by first | assumption | exact Nat.le_of_ble_eq_true rfl | omega) ⟨⟨rfl, rfl⟩, rfl, rfl⟩ (by decide) rfl ?_
  rw [r2]
  refine d_run 6 rfl ?_
  refine d_is (N := 50) (j := 1) k192_13 (by first | assumption | exact Nat.le_of_ble_eq_true rfl | omega) ⟨rfl, rfl⟩ (by decide) rfl ?_
  refine d_run 1 rfl ?_
  refine d_gR k192_15 (by first | assumption | exact Nat.le_of_ble_eq_true rfl | omega) ⟨rfl, rfl, rfl⟩ rfl ?_
  refine d_run 4 rfl ?_
  refine d_is (N := 50) k192_23 (by first | assumption | exact Nat.le_of_ble_eq_true rfl | omega) ⟨rfl, rfl⟩ (show 8 + p < 50 by omega) (nI_add 8 p) ?_
  refine d_ret k192_24 ?_
  refine ⟨rfl, ⟨?_, ?_, ?_, ?_, ?_, ?_⟩, ?_, ?_, (FrK.rf.u rfl).u rfl⟩
  · rw [uF_r, pk_un (by omega), uF_r, pk_un (by omega)]; exact r1
  · rw [uF_r, pk_un (by omega), uF_r, pk_us]; rfl
  · intro p2 hp2; rw [uF_r, pk_un (by omega), uF_r, pk_un (by omega)]; exact r3 p2 hp2
  · intro p2 hp2
    rw [uF_r]
    by_cases e : p2 = p
    · subst e
      rw [pk_us]
      exact pk_us.symm
    · rw [pk_un (by omega), uF_r, pk_un (by omega)]
      show _ = upd (sLf s) p 1 p2
      rw [pk_un e]
      exact r4 p2 hp2
  · intro p2 a c; rw [uF_r, pk_un (by omega), uF_r, pk_un (by omega)]; exact r5 p2 a c
  · intro i hi; rw [uF_r, pk_un (by omega), uF_r, pk_un (by omega)]; exact r6 i hi
  · rw [uF_k (by decide), uF_k (by decide)]
    show _ = F 40 0 50 + (sSp s - sSp s)
    rw [Int32.sub_self, Int32.add_zero]
  · intro i hi; rw [uF_k (by decide), uF_k (by decide)]
theorem b_wlk (hA : wfL A) (h : rowS (F 70 0) (lP A) s) (hp : p < lP A) : MQp F (lP A) s (wlkA s p q) (uF F 70 0 (2 + p) (nI q)) := by
  have h6 := hA.2.1
  obtain ⟨r1, r2, r3, r4, r5, r6⟩ := h
  refine ⟨⟨?_, ?_, ?_, ?_, ?_, ?_⟩, ?_, ?_, FrK.rf.u rfl⟩
  · rw [uF_r, pk_un (by omega)]; exact r1
  · rw [uF_r, pk_un (by omega)]; exact r2
  · intro p2 hp2
    rw [uF_r]
    by_cases e : p2 = p
    · subst e
      rw [pk_us]
      exact pk_us.symm
    · rw [pk_un (by omega)]
      show _ = upd (sAt s) p (nI q) p2
      rw [pk_un e]
      exact r3 p2 hp2
  · intro p2 hp2; rw [uF_r, pk_un (by omega)]; exact r4 p2 hp2
  · intro p2 a c; rw [uF_r, pk_un (by omega)]; exact r5 p2 a c
  · intro i hi; rw [uF_r, pk_un (by omega)]; exact r6 i hi
  · rw [uF_k (by decide)]
    show _ = F 40 0 50 + (sSp s - sSp s)
    rw [Int32.sub_self, Int32.add_zero]
  · intro i hi; rw [uF_k (by decide)]
end M5
section M6
variable {E : EV} {d x : Nat} {F : FT} {G : GT} {b : Bool}
theorem l_cp70_71 {a c : Nat} (ha : a + 50 ≤ 50) (hc : c + 50 ≤ 50) : ∀ (r i : Nat) (iv : Int32) (F : FT), iv = nI i → i + r = 50 → (∀ j, j < i → F 71 0 (c + j) = F 70 0 (a + j)) → Td E d 168 3 [some (vr 70 0), some (vi (nI a)), some (vr 71 0), some (vi (nI c)), some (vi iv)] [] x F G b none (fun F2 G2 => G2 = G ∧ (∀ j, j < 50 → F2 71 0 (c + j) = F 70 0 (a + j)) ∧ (∀ j, j < c ∨ c + 50 ≤ j → F2 71 0 j = F 71 0 j) ∧ FrK (fun k => decide (k = 71)) F F2) := by
  intro r
  induction r with
  | zero =>
    intro i iv F hiv hir hj
    subst hiv
    have hi : i = 50 := by omega
    refine d_run 2 rfl ?_
    refine d_ic_ge k168_7 (fun h7 => ?_) (fun h7 => ?_)
    · refine d_ret k168_28 ?_
      subst hi
      exact ⟨rfl, hj, fun _ _ => rfl, FrK.rf⟩
    · exact absurd (lt_nI h7 (b := 50) rfl (by omega) (by omega)) (by omega)
  | succ r ih =>
    intro i iv F hiv hir hj
    subst hiv
    have hi : i < 50 := by omega
    refine d_run 2 rfl ?_
    refine d_ic_ge k168_7 (fun h7 => ?_) (fun h7 => ?_)
    · exact absurd (ge_nI h7 (b := 50) rfl (by omega) (by omega)) (by omega)
    · refine d_run 8 rfl ?_
      refine d_ia (N := 50) (j := a + i) k168_20 (by decide) (by first | assumption | exact Nat.le_of_ble_eq_true rfl | omega) ⟨⟨rfl, rfl⟩, rfl, rfl⟩ (show a + i < 50 by omega) (nI_add a i) ?_
      refine d_is (N := 50) (j := c + i) k168_21 (by first | assumption | exact Nat.le_of_ble_eq_true rfl | omega) ⟨rfl, rfl⟩ (show c + i < 50 by omega) (nI_add c i) ?_
      refine d_run 2 rfl ?_
      refine td_mo (ih (i + 1) _ _ (nI_1 i) (by omega) ?_) ?_
      · intro j hj2
        rw [uF_k (k2 := 70) (by decide), uF_r]
        by_cases e : j = i
        · subst e
          exact pk_us
        · rw [pk_un (by omega)]
          exact hj j (by omega)
      · rintro F2 G2 ⟨rfl, q1, q2, q3⟩
        refine ⟨rfl, ?_, ?_, FrK.tr (FrK.rf.u (by simp)) q3⟩
        · intro j hj2
          rw [q1 j hj2, uF_k (by decide)]
        · intro j hj2
          rw [q2 j hj2, uF_r, pk_un (by omega)]
theorem b_cp70_71 {a c : Nat} (ha : a + 50 ≤ 50) (hc : c + 50 ≤ 50) : Td E d 168 0 [some (vr 70 0), some (vi (nI a)), some (vr 71 0), some (vi (nI c)), none] [] x F G b none (fun F2 G2 => G2 = G ∧ (∀ j, j < 50 → F2 71 0 (c + j) = F 70 0 (a + j)) ∧ (∀ j, j < c ∨ c + 50 ≤ j → F2 71 0 j = F 71 0 j) ∧ FrK (fun k => decide (k = 71)) F F2) := by
  refine d_run 2 rfl ?_
  exact l_cp70_71 ha hc 50 0 _ F rfl (by omega) (fun j hj => absurd hj (by omega))
theorem l_cp71_70 {a c : Nat} (ha : a + 50 ≤ 50) (hc : c + 50 ≤ 50) : ∀ (r i : Nat) (iv : Int32) (F : FT), iv = nI i → i + r = 50 → (∀ j, j < i → F 70 0 (c + j) = F 71 0 (a + j)) → Td E d 168 3 [some (vr 71 0), some (vi (nI a)), some (vr 70 0), some (vi (nI c)), some (vi iv)] [] x F G b none (fun F2 G2 => G2 = G ∧ (∀ j, j < 50 → F2 70 0 (c + j) = F 71 0 (a + j)) ∧ (∀ j, j < c ∨ c + 50 ≤ j → F2 70 0 j = F 70 0 j) ∧ FrK (fun k => decide (k = 70)) F F2) := by
  intro r
  induction r with
  | zero =>
    intro i iv F hiv hir hj
    subst hiv
    have hi : i = 50 := by omega
    refine d_run 2 rfl ?_
    refine d_ic_ge k168_7 (fun h7 => ?_) (fun h7 => ?_)
    · refine d_ret k168_28 ?_
      subst hi
      exact ⟨rfl, hj, fun _ _ => rfl, FrK.rf⟩
    · exact absurd (lt_nI h7 (b := 50) rfl (by omega) (by omega)) (by omega)
  | succ r ih =>
    intro i iv F hiv hir hj
    subst hiv
    have hi : i < 50 := by omega
    refine d_run 2 rfl ?_
    refine d_ic_ge k168_7 (fun h7 => ?_) (fun h7 => ?_)
    · exact absurd (ge_nI h7 (b := 50) rfl (by omega) (by omega)) (by omega)
    · refine d_run 8 rfl ?_
      refine d_ia (N := 50) (j := a + i) k168_20 (by decide) (by first | assumption | exact Nat.le_of_ble_eq_true rfl | omega) ⟨⟨rfl, rfl⟩, rfl, rfl⟩ (show a + i < 50 by omega) (nI_add a i) ?_
      refine d_is (N := 50) (j := c + i) k168_21 (by first | assumption | exact Nat.le_of_ble_eq_true rfl | omega) ⟨rfl, rfl⟩ (show c + i < 50 by omega) (nI_add c i) ?_
      refine d_run 2 rfl ?_
      refine td_mo (ih (i + 1) _ _ (nI_1 i) (by omega) ?_) ?_
      · intro j hj2
        rw [uF_k (k2 := 71) (by decide), uF_r]
        by_cases e : j = i
        · subst e
          exact pk_us
        · rw [pk_un (by omega)]
          exact hj j (by omega)
      · rintro F2 G2 ⟨rfl, q1, q2, q3⟩
        refine ⟨rfl, ?_, ?_, FrK.tr (FrK.rf.u (by simp)) q3⟩
        · intro j hj2
          rw [q1 j hj2, uF_k (by decide)]
        · intro j hj2
          rw [q2 j hj2, uF_r, pk_un (by omega)]
theorem b_cp71_70 {a c : Nat} (ha : a + 50 ≤ 50) (hc : c + 50 ≤ 50) : Td E d 168 0 [some (vr 71 0), some (vi (nI a)), some (vr 70 0), some (vi (nI c)), none] [] x F G b none (fun F2 G2 => G2 = G ∧ (∀ j, j < 50 → F2 70 0 (c + j) = F 71 0 (a + j)) ∧ (∀ j, j < c ∨ c + 50 ≤ j → F2 70 0 j = F 70 0 j) ∧ FrK (fun k => decide (k = 70)) F F2) := by
  refine d_run 2 rfl ?_
  exact l_cp71_70 ha hc 50 0 _ F rfl (by omega) (fun j hj => absurd hj (by omega))
theorem l_cp70_72 {a c : Nat} (ha : a + 50 ≤ 50) (hc : c + 50 ≤ 250) : ∀ (r i : Nat) (iv : Int32) (F : FT), iv = nI i → i + r = 50 → (∀ j, j < i → F 72 0 (c + j) = F 70 0 (a + j)) → Td E d 168 3 [some (vr 70 0), some (vi (nI a)), some (vr 72 0), some (vi (nI c)), some (vi iv)] [] x F G b none (fun F2 G2 => G2 = G ∧ (∀ j, j < 50 → F2 72 0 (c + j) = F 70 0 (a + j)) ∧ (∀ j, j < c ∨ c + 50 ≤ j → F2 72 0 j = F 72 0 j) ∧ FrK (fun k => decide (k = 72)) F F2) := by
  intro r
  induction r with
  | zero =>
    intro i iv F hiv hir hj
    subst hiv
    have hi : i = 50 := by omega
    refine d_run 2 rfl ?_
    refine d_ic_ge k168_7 (fun h7 => ?_) (fun h7 => ?_)
    · refine d_ret k168_28 ?_
      subst hi
      exact ⟨rfl, hj, fun _ _ => rfl, FrK.rf⟩
    · exact absurd (lt_nI h7 (b := 50) rfl (by omega) (by omega)) (by omega)
  | succ r ih =>
    intro i iv F hiv hir hj
    subst hiv
    have hi : i < 50 := by omega
    refine d_run 2 rfl ?_
    refine d_ic_ge k168_7 (fun h7 => ?_) (fun h7 => ?_)
    · exact absurd (ge_nI h7 (b := 50) rfl (by omega) (by omega)) (by omega)
    · refine d_run 8 rfl ?_
      refine d_ia (N := 50) (j := a + i) k168_20 (by decide) (by first | assumption | exact Nat.le_of_ble_eq_true rfl | omega) ⟨⟨rfl, rfl⟩, rfl, rfl⟩ (show a + i < 50 by omega) (nI_add a i) ?_
      refine d_is (N := 250) (j := c + i) k168_21 (by first | assumption | exact Nat.le_of_ble_eq_true rfl | omega) ⟨rfl, rfl⟩ (show c + i < 250 by omega) (nI_add c i) ?_
      refine d_run 2 rfl ?_
      refine td_mo (ih (i + 1) _ _ (nI_1 i) (by omega) ?_) ?_
      · intro j hj2
        rw [uF_k (k2 := 70) (by decide), uF_r]
        by_cases e : j = i
        · subst e
          exact pk_us
        · rw [pk_un (by omega)]
          exact hj j (by omega)
      · rintro F2 G2 ⟨rfl, q1, q2, q3⟩
        refine ⟨rfl, ?_, ?_, FrK.tr (FrK.rf.u (by simp)) q3⟩
        · intro j hj2
          rw [q1 j hj2, uF_k (by decide)]
        · intro j hj2
          rw [q2 j hj2, uF_r, pk_un (by omega)]
theorem b_cp70_72 {a c : Nat} (ha : a + 50 ≤ 50) (hc : c + 50 ≤ 250) : Td E d 168 0 [some (vr 70 0), some (vi (nI a)), some (vr 72 0), some (vi (nI c)), none] [] x F G b none (fun F2 G2 => G2 = G ∧ (∀ j, j < 50 → F2 72 0 (c + j) = F 70 0 (a + j)) ∧ (∀ j, j < c ∨ c + 50 ≤ j → F2 72 0 j = F 72 0 j) ∧ FrK (fun k => decide (k = 72)) F F2) := by
  refine d_run 2 rfl ?_
  exact l_cp70_72 ha hc 50 0 _ F rfl (by omega) (fun j hj => absurd hj (by omega))
theorem l_cp72_70 {a c : Nat} (ha : a + 50 ≤ 250) (hc : c + 50 ≤ 50) : ∀ (r i : Nat) (iv : Int32) (F : FT), iv = nI i → i + r = 50 → (∀ j, j < i → F 70 0 (c + j) = F 72 0 (a + j)) → Td E d 168 3 [some (vr 72 0), some (vi (nI a)), some (vr 70 0), some (vi (nI c)), some (vi iv)] [] x F G b none (fun F2 G2 => G2 = G ∧ (∀ j, j < 50 → F2 70 0 (c + j) = F 72 0 (a + j)) ∧ (∀ j, j < c ∨ c + 50 ≤ j → F2 70 0 j = F 70 0 j) ∧ FrK (fun k => decide (k = 70)) F F2) := by
  intro r
  induction r with
  | zero =>
    intro i iv F hiv hir hj
    subst hiv
    have hi : i = 50 := by omega
    refine d_run 2 rfl ?_
    refine d_ic_ge k168_7 (fun h7 => ?_) (fun h7 => ?_)
    · refine d_ret k168_28 ?_
      subst hi
      exact ⟨rfl, hj, fun _ _ => rfl, FrK.rf⟩
    · exact absurd (lt_nI h7 (b := 50) rfl (by omega) (by omega)) (by omega)
  | succ r ih =>
    intro i iv F hiv hir hj
    subst hiv
    have hi : i < 50 := by omega
    refine d_run 2 rfl ?_
    refine d_ic_ge k168_7 (fun h7 => ?_) (fun h7 => ?_)
    · exact absurd (ge_nI h7 (b := 50) rfl (by omega) (by omega)) (by omega)
    · refine d_run 8 rfl ?_
      refine d_ia (N := 250) (j := a + i) k168_20 (by decide) (by first | assumption | exact Nat.le_of_ble_eq_true rfl | omega) ⟨⟨rfl, rfl⟩, rfl, rfl⟩ (show a + i < 250 by omega) (nI_add a i) ?_
      refine d_is (N := 50) (j := c + i) k168_21 (by first | assumption | exact Nat.le_of_ble_eq_true rfl | omega) ⟨rfl, rfl⟩ (show c + i < 50 by omega) (nI_add c i) ?_
      refine d_run 2 rfl ?_
      refine td_mo (ih (i + 1) _ _ (nI_1 i) (by omega) ?_) ?_
      · intro j hj2
        rw [uF_k (k2 := 72) (by decide), uF_r]
        by_cases e : j = i
        · subst e
          exact pk_us
        · rw [pk_un (by omega)]
          exact hj j (by omega)
      · rintro F2 G2 ⟨rfl, q1, q2, q3⟩
        refine ⟨rfl, ?_, ?_, FrK.tr (FrK.rf.u (by simp)) q3⟩
        · intro j hj2
          rw [q1 j hj2, uF_k (by decide)]
        · intro j hj2
          rw [q2 j hj2, uF_r, pk_un (by omega)]
theorem b_cp72_70 {a c : Nat} (ha : a + 50 ≤ 250) (hc : c + 50 ≤ 50) : Td E d 168 0 [some (vr 72 0), some (vi (nI a)), some (vr 70 0), some (vi (nI c)), none] [] x F G b none (fun F2 G2 => G2 = G ∧ (∀ j, j < 50 → F2 70 0 (c + j) = F 72 0 (a + j)) ∧ (∀ j, j < c ∨ c + 50 ≤ j → F2 70 0 j = F 70 0 j) ∧ FrK (fun k => decide (k = 70)) F F2) := by
  refine d_run 2 rfl ?_
  exact l_cp72_70 ha hc 50 0 _ F rfl (by omega) (fun j hj => absurd hj (by omega))
theorem l_cp70_73 {a c : Nat} (ha : a + 50 ≤ 50) (hc : c + 50 ≤ 200) : ∀ (r i : Nat) (iv : Int32) (F : FT), iv = nI i → i + r = 50 → (∀ j, j < i → F 73 0 (c + j) = F 70 0 (a + j)) → Td E d 168 3 [some (vr 70 0), some (vi (nI a)), some (vr 73 0), some (vi (nI c)), some (vi iv)] [] x F G b none (fun F2 G2 => G2 = G ∧ (∀ j, j < 50 → F2 73 0 (c + j) = F 70 0 (a + j)) ∧ (∀ j, j < c ∨ c + 50 ≤ j → F2 73 0 j = F 73 0 j) ∧ FrK (fun k => decide (k = 73)) F F2) := by
  intro r
  induction r with
  | zero =>
    intro i iv F hiv hir hj
    subst hiv
    have hi : i = 50 := by omega
    refine d_run 2 rfl ?_
    refine d_ic_ge k168_7 (fun h7 => ?_) (fun h7 => ?_)
    · refine d_ret k168_28 ?_
      subst hi
      exact ⟨rfl, hj, fun _ _ => rfl, FrK.rf⟩
    · exact absurd (lt_nI h7 (b := 50) rfl (by omega) (by omega)) (by omega)
  | succ r ih =>
    intro i iv F hiv hir hj
    subst hiv
    have hi : i < 50 := by omega
    refine d_run 2 rfl ?_
    refine d_ic_ge k168_7 (fun h7 => ?_) (fun h7 => ?_)
    · exact absurd (ge_nI h7 (b := 50) rfl (by omega) (by omega)) (by omega)
    · refine d_run 8 rfl ?_
      refine d_ia (N := 50) (j := a + i) k168_20 (by decide) (by first | assumption | exact Nat.le_of_ble_eq_true rfl | omega) ⟨⟨rfl, rfl⟩, rfl, rfl⟩ (show a + i < 50 by omega) (nI_add a i) ?_
      refine d_is (N := 200) (j := c + i) k168_21 (by first | assumption | exact Nat.le_of_ble_eq_true rfl | omega) ⟨rfl, rfl⟩ (show c + i < 200 by omega) (nI_add c i) ?_
      refine d_run 2 rfl ?_
      refine td_mo (ih (i + 1) _ _ (nI_1 i) (by omega) ?_) ?_
      · intro j hj2
        rw [uF_k (k2 := 70) (by decide), uF_r]
        by_cases e : j = i
        · subst e
          exact pk_us
        · rw [pk_un (by omega)]
          exact hj j (by omega)
      · rintro F2 G2 ⟨rfl, q1, q2, q3⟩
        refine ⟨rfl, ?_, ?_, FrK.tr (FrK.rf.u (by simp)) q3⟩
        · intro j hj2
          rw [q1 j hj2, uF_k (by decide)]
        · intro j hj2
          rw [q2 j hj2, uF_r, pk_un (by omega)]
theorem b_cp70_73 {a c : Nat} (ha : a + 50 ≤ 50) (hc : c + 50 ≤ 200) : Td E d 168 0 [some (vr 70 0), some (vi (nI a)), some (vr 73 0), some (vi (nI c)), none] [] x F G b none (fun F2 G2 => G2 = G ∧ (∀ j, j < 50 → F2 73 0 (c + j) = F 70 0 (a + j)) ∧ (∀ j, j < c ∨ c + 50 ≤ j → F2 73 0 j = F 73 0 j) ∧ FrK (fun k => decide (k = 73)) F F2) := by
  refine d_run 2 rfl ?_
  exact l_cp70_73 ha hc 50 0 _ F rfl (by omega) (fun j hj => absurd hj (by omega))
theorem l_cp73_70 {a c : Nat} (ha : a + 50 ≤ 200) (hc : c + 50 ≤ 50) : ∀ (r i : Nat) (iv : Int32) (F : FT), iv = nI i → i + r = 50 → (∀ j, j < i → F 70 0 (c + j) = F 73 0 (a + j)) → Td E d 168 3 [some (vr 73 0), some (vi (nI a)), some (vr 70 0), some (vi (nI c)), some (vi iv)] [] x F G b none (fun F2 G2 => G2 = G ∧ (∀ j, j < 50 → F2 70 0 (c + j) = F 73 0 (a + j)) ∧ (∀ j, j < c ∨ c + 50 ≤ j → F2 70 0 j = F 70 0 j) ∧ FrK (fun k => decide (k = 70)) F F2) := by
  intro r
  induction r with
  | zero =>
    intro i iv F hiv hir hj
    subst hiv
    have hi : i = 50 := by omega
    refine d_run 2 rfl ?_
    refine d_ic_ge k168_7 (fun h7 => ?_) (fun h7 => ?_)
    · refine d_ret k168_28 ?_
      subst hi
      exact ⟨rfl, hj, fun _ _ => rfl, FrK.rf⟩
    · exact absurd (lt_nI h7 (b := 50) rfl (by omega) (by omega)) (by omega)
  | succ r ih =>
    intro i iv F hiv hir hj
    subst hiv
    have hi : i < 50 := by omega
    refine d_run 2 rfl ?_
    refine d_ic_ge k168_7 (fun h7 => ?_) (fun h7 => ?_)
    · exact absurd (ge_nI h7 (b := 50) rfl (by omega) (by omega)) (by omega)
    · refine d_run 8 rfl ?_
      refine d_ia (N := 200) (j := a + i) k168_20 (by decide) (by first | assumption | exact Nat.le_of_ble_eq_true rfl | omega) ⟨⟨rfl, rfl⟩, rfl, rfl⟩ (show a + i < 200 by omega) (nI_add a i) ?_
      refine d_is (N := 50) (j := c + i) k168_21 (by first | assumption | exact Nat.le_of_ble_eq_true rfl | omega) ⟨rfl, rfl⟩ (show c + i < 50 by omega) (nI_add c i) ?_
      refine d_run 2 rfl ?_
      refine td_mo (ih (i + 1) _ _ (nI_1 i) (by omega) ?_) ?_
      · intro j hj2
        rw [uF_k (k2 := 73) (by decide), uF_r]
        by_cases e : j = i
        · subst e
          exact pk_us
        · rw [pk_un (by omega)]
          exact hj j (by omega)
      · rintro F2 G2 ⟨rfl, q1, q2, q3⟩
        refine ⟨rfl, ?_, ?_, FrK.tr (FrK.rf.u (by simp)) q3⟩
        · intro j hj2
          rw [q1 j hj2, uF_k (by decide)]
        · intro j hj2
          rw [q2 j hj2, uF_r, pk_un (by omega)]
theorem b_cp73_70 {a c : Nat} (ha : a + 50 ≤ 200) (hc : c + 50 ≤ 50) : Td E d 168 0 [some (vr 73 0), some (vi (nI a)), some (vr 70 0), some (vi (nI c)), none] [] x F G b none (fun F2 G2 => G2 = G ∧ (∀ j, j < 50 → F2 70 0 (c + j) = F 73 0 (a + j)) ∧ (∀ j, j < c ∨ c + 50 ≤ j → F2 70 0 j = F 70 0 j) ∧ FrK (fun k => decide (k = 70)) F F2) := by
  refine d_run 2 rfl ?_
  exact l_cp73_70 ha hc 50 0 _ F rfl (by omega) (fun j hj => absurd hj (by omega))
theorem l_cp70_74 {a c : Nat} (ha : a + 50 ≤ 50) (hc : c + 50 ≤ 800) : ∀ (r i : Nat) (iv : Int32) (F : FT), iv = nI i → i + r = 50 → (∀ j, j < i → F 74 0 (c + j) = F 70 0 (a + j)) → Td E d 168 3 [some (vr 70 0), some (vi (nI a)), some (vr 74 0), some (vi (nI c)), some (vi iv)] [] x F G b none (fun F2 G2 => G2 = G ∧ (∀ j, j < 50 → F2 74 0 (c + j) = F 70 0 (a + j)) ∧ (∀ j, j < c ∨ c + 50 ≤ j → F2 74 0 j = F 74 0 j) ∧ FrK (fun k => decide (k = 74)) F F2) := by
  intro r
  induction r with
  | zero =>
    intro i iv F hiv hir hj
    subst hiv
    have hi : i = 50 := by omega
    refine d_run 2 rfl ?_
    refine d_ic_ge k168_7 (fun h7 => ?_) (fun h7 => ?_)
    · refine d_ret k168_28 ?_
      subst hi
      exact ⟨rfl, hj, fun _ _ => rfl, FrK.rf⟩
    · exact absurd (lt_nI h7 (b := 50) rfl (by omega) (by omega)) (by omega)
  | succ r ih =>
    intro i iv F hiv hir hj
    subst hiv
    have hi : i < 50 := by omega
    refine d_run 2 rfl ?_
    refine d_ic_ge k168_7 (fun h7 => ?_) (fun h7 => ?_)
    · exact absurd (ge_nI h7 (b := 50) rfl (by omega) (by omega)) (by omega)
    · refine d_run 8 rfl ?_
      refine d_ia (N := 50) (j := a + i) k168_20 (by decide) (by first | assumption | exact Nat.le_of_ble_eq_true rfl | omega) ⟨⟨rfl, rfl⟩, rfl, rfl⟩ (show a + i < 50 by omega) (nI_add a i) ?_
      refine d_is (N := 800) (j := c + i) k168_21 (by first | assumption | exact Nat.le_of_ble_eq_true rfl | omega) ⟨rfl, rfl⟩ (show c + i < 800 by omega) (nI_add c i) ?_
      refine d_run 2 rfl ?_
      refine td_mo (ih (i + 1) _ _ (nI_1 i) (by omega) ?_) ?_
      · intro j hj2
        rw [uF_k (k2 := 70) (by decide), uF_r]
        by_cases e : j = i
        · subst e
          exact pk_us
        · rw [pk_un (by omega)]
          exact hj j (by omega)
      · rintro F2 G2 ⟨rfl, q1, q2, q3⟩
        refine ⟨rfl, ?_, ?_, FrK.tr (FrK.rf.u (by simp)) q3⟩
        · intro j hj2
          rw [q1 j hj2, uF_k (by decide)]
        · intro j hj2
          rw [q2 j hj2, uF_r, pk_un (by omega)]
theorem b_cp70_74 {a c : Nat} (ha : a + 50 ≤ 50) (hc : c + 50 ≤ 800) : Td E d 168 0 [some (vr 70 0), some (vi (nI a)), some (vr 74 0), some (vi (nI c)), none] [] x F G b none (fun F2 G2 => G2 = G ∧ (∀ j, j < 50 → F2 74 0 (c + j) = F 70 0 (a + j)) ∧ (∀ j, j < c ∨ c + 50 ≤ j → F2 74 0 j = F 74 0 j) ∧ FrK (fun k => decide (k = 74)) F F2) := by
  refine d_run 2 rfl ?_
  exact l_cp70_74 ha hc 50 0 _ F rfl (by omega) (fun j hj => absurd hj (by omega))
theorem l_cp74_70 {a c : Nat} (ha : a + 50 ≤ 800) (hc : c + 50 ≤ 50) : ∀ (r i : Nat) (iv : Int32) (F : FT), iv = nI i → i + r = 50 → (∀ j, j < i → F 70 0 (c + j) = F 74 0 (a + j)) → Td E d 168 3 [some (vr 74 0), some (vi (nI a)), some (vr 70 0), some (vi (nI c)), some (vi iv)] [] x F G b none (fun F2 G2 => G2 = G ∧ (∀ j, j < 50 → F2 70 0 (c + j) = F 74 0 (a + j)) ∧ (∀ j, j < c ∨ c + 50 ≤ j → F2 70 0 j = F 70 0 j) ∧ FrK (fun k => decide (k = 70)) F F2) := by
  intro r
  induction r with
  | zero =>
    intro i iv F hiv hir hj
    subst hiv
    have hi : i = 50 := by omega
    refine d_run 2 rfl ?_
    refine d_ic_ge k168_7 (fun h7 => ?_) (fun h7 => ?_)
    · refine d_ret k168_28 ?_
      subst hi
      exact ⟨rfl, hj, fun _ _ => rfl, FrK.rf⟩
    · exact absurd (lt_nI h7 (b := 50) rfl (by omega) (by omega)) (by omega)
  | succ r ih =>
    intro i iv F hiv hir hj
    subst hiv
    have hi : i < 50 := by omega
    refine d_run 2 rfl ?_
    refine d_ic_ge k168_7 (fun h7 => ?_) (fun h7 => ?_)
    · exact absurd (ge_nI h7 (b := 50) rfl (by omega) (by omega)) (by omega)
    · refine d_run 8 rfl ?_
      refine d_ia (N := 800) (j := a + i) k168_20 (by decide) (by first | assumption | exact Nat.le_of_ble_eq_true rfl | omega) ⟨⟨rfl, rfl⟩, rfl, rfl⟩ (show a + i < 800 by omega) (nI_add a i) ?_
      refine d_is (N := 50) (j := c + i) k168_21 (by first | assumption | exact Nat.le_of_ble_eq_true rfl | omega) ⟨rfl, rfl⟩ (show c + i < 50 by omega) (nI_add c i) ?_
      refine d_run 2 rfl ?_
      refine td_mo (ih (i + 1) _ _ (nI_1 i) (by omega) ?_) ?_
      · intro j hj2
        rw [uF_k (k2 := 74) (by decide), uF_r]
        by_cases e : j = i
        · subst e
          exact pk_us
        · rw [pk_un (by omega)]
          exact hj j (by omega)
      · rintro F2 G2 ⟨rfl, q1, q2, q3⟩
        refine ⟨rfl, ?_, ?_, FrK.tr (FrK.rf.u (by simp)) q3⟩
        · intro j hj2
          rw [q1 j hj2, uF_k (by decide)]
        · intro j hj2
          rw [q2 j hj2, uF_r, pk_un (by omega)]
theorem b_cp74_70 {a c : Nat} (ha : a + 50 ≤ 800) (hc : c + 50 ≤ 50) : Td E d 168 0 [some (vr 74 0), some (vi (nI a)), some (vr 70 0), some (vi (nI c)), none] [] x F G b none (fun F2 G2 => G2 = G ∧ (∀ j, j < 50 → F2 70 0 (c + j) = F 74 0 (a + j)) ∧ (∀ j, j < c ∨ c + 50 ≤ j → F2 70 0 j = F 70 0 j) ∧ FrK (fun k => decide (k = 70)) F F2) := by
  refine d_run 2 rfl ?_
  exact l_cp74_70 ha hc 50 0 _ F rfl (by omega) (fun j hj => absurd hj (by omega))
end M6
