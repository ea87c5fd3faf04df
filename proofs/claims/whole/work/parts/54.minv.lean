/-! ALL THAT STANDS, IN THE REFERENCE; its plain public methods -/
def MW (F : FT) (n : Nat) (w : WK) : Prop := F 65 0 n = nI w.1 ∧ w.1 ≤ 40 ∧ ∀ i, i < w.1 → F 66 0 (40 * n + i) = w.2 0 i ∧ ((w.2 0 i = 0 ∨ w.2 0 i = 1 ∨ w.2 0 i = 2) → F 67 0 (40 * n + i) = w.2 1 i) ∧ ((w.2 0 i = 0 ∨ w.2 0 i = 1) → F 68 0 (40 * n + i) = w.2 2 i)
def MSc (F : FT) (g : Nat → Int32) (n P : Nat) (c : SC) : Prop := rowS g P c.1 ∧ MW F n c.2.1 ∧ ∀ p, p < 6 → F 69 0 (6 * n + p) = c.2.2 p
def MMk (F : FT) (P : Nat) (mk : Nat → Bool × SC) : Prop := ∀ j, j < 4 → F 75 0 j = b2i (mk j).1 ∧ ((mk j).1 = true → MSc F (fun i => F 73 0 (50 * j + i)) (j + 1) P (mk j).2)
def MPa (F : FT) (P : Nat) (ps : List ST) : Prop := F 40 0 49 = nI ps.length ∧ ps.length ≤ 16 ∧ ∀ j (hj : j < ps.length), rowS (fun i => F 74 0 (50 * (ps.length - 1 - j) + i)) P ps[j]
def MTp (F : FT) (t : TP) : Prop := F 40 0 1 = nI t.1 ∧ t.1 ≤ 1000 ∧ eqR t.1 (F 41 0) t.2
def MNm (G : GT) (A : LA) (nm : NMs) : Prop := (∀ i, i < lS A → G 43 0 i = w27 (nm.1 i)) ∧ ∀ i, i < lP A → G 44 0 i = w27 (nm.2 i)
def MInv (F : FT) (G : GT) (o : SG) : Prop := MTp F (gT o) ∧ ML F (gA o) ∧ MNm G (gA o) (gN o) ∧ MSc F (F 70 0) 0 (lP (gA o)) (gC o) ∧ MMk F (lP (gA o)) (gM o) ∧ MPa F (lP (gA o)) (gP o)
theorem MW.fr {F F2 : FT} {n : Nat} {w : WK} (h : MW F n w) (hf : ∀ k, 65 ≤ k → k ≤ 68 → F2 k = F k) : MW F2 n w := by
  unfold MW
  rw [hf 65 (by omega) (by omega), hf 66 (by omega) (by omega), hf 67 (by omega) (by omega), hf 68 (by omega) (by omega)]
  exact h
theorem MMk.fr {F F2 : FT} {P : Nat} {mk : Nat → Bool × SC} (h : MMk F P mk) (hf : ∀ k, 65 ≤ k → k ≤ 69 → F2 k = F k) (h73 : F2 73 = F 73) (h75 : F2 75 = F 75) : MMk F2 P mk := by
  intro j hj
  obtain ⟨h1, h2⟩ := h j hj
  rw [h73, h75]
  refine ⟨h1, fun e => ?_⟩
  obtain ⟨a, c, e⟩ := h2 e
  refine ⟨a, c.fr (fun k x y => hf k x (by omega)), ?_⟩
  rw [hf 69 (by omega) (by omega)]
  exact e
theorem MPa.fr {F F2 : FT} {P : Nat} {ps : List ST} (h : MPa F P ps) (h40 : F2 40 0 49 = F 40 0 49) (h74 : F2 74 = F 74) : MPa F2 P ps := by
  unfold MPa
  rw [h40, h74]
  exact h
/-- what calls other than those of a land may change -/
def dMo (k : Nat) : Bool := decide (40 ≤ k) && decide (k ≤ 80) && !(decide (50 ≤ k) && decide (k ≤ 52))
def MPost (o : SG) (F : FT) (G : GT) (F2 : FT) (G2 : GT) : Prop := MInv F2 G2 o ∧ FrK dMo F F2 ∧ ∀ k, k ≠ 40 → G2 k = G k
def dMk (k : Nat) : Bool := decide (k = 40) || decide (k = 70) || decide (k = 74) || scr k || decide (k = 71) || decide (k = 72) || (decide (76 ≤ k) && decide (k ≤ 80))
theorem dMk_no {k : Nat} (h : k ≠ 40 ∧ k ≠ 70 ∧ k ≠ 74 ∧ (k < 55 ∨ 64 < k) ∧ k ≠ 71 ∧ k ≠ 72 ∧ (k < 76 ∨ 80 < k)) : dMk k = false := by
  simp only [dMk, scr, Bool.or_eq_false_iff, Bool.and_eq_false_iff, decide_eq_false_iff_not]
  omega
theorem dMk_mo {F F2 : FT} (h : FrK dMk F F2) : FrK dMo F F2 := h.mo (fun k e => by
  simp only [dMo, Bool.and_eq_false_iff, Bool.not_eq_false', Bool.and_eq_true, decide_eq_false_iff_not, decide_eq_true_eq] at e
  exact dMk_no (by omega))
theorem dMH_k {F F2 : FT} (h : FrK dMH F F2) : FrK dMk F F2 := h.mo (fun k e => by
  simp only [dMk, Bool.or_eq_false_iff] at e
  simp only [dMH, Bool.or_eq_false_iff]
  exact ⟨⟨e.1.1.1.1.1.1, e.1.1.1.1.1.2⟩, e.1.1.1.2⟩)
theorem scr_k {F F2 : FT} (h : FrK scr F F2) : FrK dMk F F2 := h.mo (fun k e => by
  simp only [dMk, Bool.or_eq_false_iff] at e
  exact e.1.1.1.2)
theorem MPost.mk {F F2 : FT} {G G2 : GT} {o : SG} {s : ST} {ps : List ST} (h : MInv F G o) (hf : FrK dMk F F2) (h1 : F2 40 0 1 = F 40 0 1) (hs : rowS (F2 70 0) (lP (gA o)) s) (hp : MPa F2 (lP (gA o)) ps) (hG : ∀ k, k ≠ 40 → G2 k = G k) : MPost (setS o s ps) F G F2 G2 := by
  obtain ⟨i1, i2, i3, i4, i5, i6⟩ := h
  refine ⟨⟨?_, i2.fr (fun k a b => hf k (dMk_no (by omega))), ?_, ⟨hs, i4.2.1.fr (fun k a b => hf k (dMk_no (by omega))), ?_⟩, i5.fr (fun k a b => hf k (dMk_no (by omega))) (hf 73 (dMk_no (by omega))) (hf 75 (dMk_no (by omega))), hp⟩, dMk_mo hf, hG⟩
  · obtain ⟨a, c, e⟩ := i1
    refine ⟨h1.trans a, c, ?_⟩
    rw [hf 41 (dMk_no (by omega))]
    exact e
  · obtain ⟨a, c⟩ := i3
    refine ⟨?_, ?_⟩
    · rw [hG 43 (by decide)]; exact a
    · rw [hG 44 (by decide)]; exact c
  · rw [hf 69 (dMk_no (by omega))]
    exact i4.2.2
theorem MPost.q0 {F : FT} {G : GT} {o : SG} (h : MInv F G o) : MPost o F G F G := ⟨h, FrK.rf, fun _ _ => rfl⟩
theorem MPost.q {F F2 : FT} {G G2 : GT} {o : SG} (h : MInv F G o) (hw : WF o) (hf : FrK dMk F F2) (h1 : F2 40 0 1 = F 40 0 1) (h49 : F2 40 0 49 = F 40 0 49) (h74 : F2 74 = F 74) (h70 : ∀ i, i < 50 → F2 70 0 i = F 70 0 i) (hG : ∀ k, k ≠ 40 → G2 k = G k) : MPost o F G F2 G2 := MPost.mk (s := gS o) (ps := gP o) h hf h1 (h.2.2.2.1.1.eq hw.1.2.1 h70) (h.2.2.2.2.2.fr h49 h74) hG
theorem MPost.sc {F F2 : FT} {G : GT} {o : SG} (h : MInv F G o) (hw : WF o) (hf : FrK scr F F2) : MPost o F G F2 G := MPost.q h hw (scr_k hf) (by rw [hf 40 rfl]) (by rw [hf 40 rfl]) (hf 74 rfl) (fun i _ => by rw [hf 70 rfl]) (fun _ _ => rfl)
theorem MPost.tr {F F1 F2 : FT} {G G1 G2 : GT} {o o1 : SG} (h : MPost o1 F G F1 G1) (h2 : MPost o F1 G1 F2 G2) : MPost o F G F2 G2 := ⟨h2.1, h.2.1.tr h2.2.1, fun k hk => (h2.2.2 k hk).trans (h.2.2 k hk)⟩
theorem MInv.th {F : FT} {G : GT} {o : SG} (h : MInv F G o) (hw : WF o) {i : Nat} {v : Int32} (h1 : i ≠ 1) (h49 : i ≠ 49) : MPost o F G (uF F 40 0 i v) G := MPost.q h hw (FrK.rf.u rfl) (by rw [uF_r, pk_un (fun e => h1 e.symm)]) (by rw [uF_r, pk_un (fun e => h49 e.symm)]) (uF_k (by decide)) (fun j _ => by rw [uF_k (by decide)]) (fun _ _ => rfl)
theorem MPost.th {E : EV} {d m pc x : Nat} {L : LL} {st : List PV} {F : FT} {G : GT} {b : Bool} {o o2 : SG} {R : Option PV} (h : MInv F G o) (hw : WF o) (k : MInv (uF F 40 0 0 0) G o → Td E d m pc L st x (uF F 40 0 0 0) G b R (MPost o2 (uF F 40 0 0 0) G)) : Td E d m pc L st x (uF F 40 0 0 0) G b R (MPost o2 F G) := by
  have h2 := h.th hw (i := 0) (v := 0) (by decide) (by decide)
  exact td_mo (k h2.1) (fun F2 G2 e => h2.tr e)
section M7
variable {E : EV} {d x n p q : Nat} {F : FT} {G : GT} {b : Bool} {o : SG} {u v w : Int32} {A : LA} {s : ST}
theorem e_within : Tm E d 130 0 [some (vi u), some (vi v), some (vi w)] [] (cC x) F G (Rs b) (some (vi (b2i (isW2 u v w)))) (cC x, F, G, Rs b) := by
  refine t_run 2 rfl ?_
  refine t_ic_lt k130_2 (fun h2 => ?_) (fun h2 => ?_)
  · have h2 := Int32.not_le.mpr h2
    refine t_run 1 rfl ?_
    exact t_ib k130_15 (by first | (simp only [isW2]; rw [decide_eq_false h2]; rfl) | (simp only [isW2]; rw [decide_eq_true h2, decide_eq_false h7]; rfl) | (simp only [isW2]; rw [decide_eq_true h2, decide_eq_true h7]; rfl))
  · have h2 := Int32.not_lt.mp h2
    refine t_run 2 rfl ?_
    refine t_ic_gt k130_7 (fun h7 => ?_) (fun h7 => ?_)
    · have h7 := Int32.not_le.mpr h7
      refine t_run 1 rfl ?_
      exact t_ib k130_15 (by first | (simp only [isW2]; rw [decide_eq_false h2]; rfl) | (simp only [isW2]; rw [decide_eq_true h2, decide_eq_false h7]; rfl) | (simp only [isW2]; rw [decide_eq_true h2, decide_eq_true h7]; rfl))
    · have h7 := Int32.not_lt.mp h7
      refine t_run 2 rfl ?_
      exact t_ib k130_15 (by first | (simp only [isW2]; rw [decide_eq_false h2]; rfl) | (simp only [isW2]; rw [decide_eq_true h2, decide_eq_false h7]; rfl) | (simp only [isW2]; rw [decide_eq_true h2, decide_eq_true h7]; rfl))
theorem e_isP (hL : ML F A) : Tm E d 176 0 [some (vr 40 0), some (vi u)] [] (cC x) F G (Rs b) (some (vi (b2i (isN u (lP A))))) (cC x, F, G, Rs b) := by
  refine t_run 1 rfl ?_
  refine t_if_lt k176_1 (fun h1 => ?_) (fun h1 => ?_)
  · have h1 := Int32.not_le.mpr h1
    refine t_run 1 rfl ?_
    exact t_ib k176_19 (by first | (simp only [isN]; rw [decide_eq_false h1]; rfl) | (simp only [isN]; rw [decide_eq_true h1, decide_eq_false h11]; rfl) | (simp only [isN]; rw [decide_eq_true h1, decide_eq_true h11]; rfl))
  · have h1 := Int32.not_lt.mp h1
    refine t_run 2 rfl ?_
    refine t_gR k176_6 (by first | assumption | exact Nat.le_of_ble_eq_true rfl | omega) ⟨rfl, rfl, rfl⟩ rfl ?_
    refine t_run 1 rfl ?_
    refine t_ia (N := 8) (j := 1) k176_10 (by decide) (by first | assumption | exact Nat.le_of_ble_eq_true rfl | omega) ⟨⟨rfl, rfl⟩, rfl, rfl⟩ (by decide) rfl ?_
    rw [hL.2.1]
    refine t_ic_ge k176_11 (fun h11 => ?_) (fun h11 => ?_)
    · have h11 := Int32.not_lt.mpr h11
      refine t_run 1 rfl ?_
      exact t_ib k176_19 (by first | (simp only [isN]; rw [decide_eq_false h1]; rfl) | (simp only [isN]; rw [decide_eq_true h1, decide_eq_false h11]; rfl) | (simp only [isN]; rw [decide_eq_true h1, decide_eq_true h11]; rfl))
    · have h11 := Int32.not_le.mp h11
      refine t_run 2 rfl ?_
      exact t_ib k176_19 (by first | (simp only [isN]; rw [decide_eq_false h1]; rfl) | (simp only [isN]; rw [decide_eq_true h1, decide_eq_false h11]; rfl) | (simp only [isN]; rw [decide_eq_true h1, decide_eq_true h11]; rfl))
theorem e_isS (hL : ML F A) : Tm E d 175 0 [some (vr 40 0), some (vi u)] [] (cC x) F G (Rs b) (some (vi (b2i (isN u (lS A))))) (cC x, F, G, Rs b) := by
  refine t_run 1 rfl ?_
  refine t_if_lt k175_1 (fun h1 => ?_) (fun h1 => ?_)
  · have h1 := Int32.not_le.mpr h1
    refine t_run 1 rfl ?_
    exact t_ib k175_19 (by first | (simp only [isN]; rw [decide_eq_false h1]; rfl) | (simp only [isN]; rw [decide_eq_true h1, decide_eq_false h11]; rfl) | (simp only [isN]; rw [decide_eq_true h1, decide_eq_true h11]; rfl))
  · have h1 := Int32.not_lt.mp h1
    refine t_run 2 rfl ?_
    refine t_gR k175_6 (by first | assumption | exact Nat.le_of_ble_eq_true rfl | omega) ⟨rfl, rfl, rfl⟩ rfl ?_
    refine t_run 1 rfl ?_
    refine t_ia (N := 8) (j := 0) k175_10 (by decide) (by first | assumption | exact Nat.le_of_ble_eq_true rfl | omega) ⟨⟨rfl, rfl⟩, rfl, rfl⟩ (by decide) rfl ?_
    rw [hL.1]
    refine t_ic_ge k175_11 (fun h11 => ?_) (fun h11 => ?_)
    · have h11 := Int32.not_lt.mpr h11
      refine t_run 1 rfl ?_
      exact t_ib k175_19 (by first | (simp only [isN]; rw [decide_eq_false h1]; rfl) | (simp only [isN]; rw [decide_eq_true h1, decide_eq_false h11]; rfl) | (simp only [isN]; rw [decide_eq_true h1, decide_eq_true h11]; rfl))
    · have h11 := Int32.not_le.mp h11
      refine t_run 2 rfl ?_
      exact t_ib k175_19 (by first | (simp only [isN]; rw [decide_eq_false h1]; rfl) | (simp only [isN]; rw [decide_eq_true h1, decide_eq_false h11]; rfl) | (simp only [isN]; rw [decide_eq_true h1, decide_eq_true h11]; rfl))
theorem e_isTwo (hL : ML F A) (hd : 1 ≤ d) : Tm E d 177 0 [some (vr 40 0), some (vi u), some (vi v)] [] (cC x) F G (Rs b) (some (vi (b2i (isTwo u v (lP A))))) (cC x, F, G, Rs b) := by
  refine t_run 2 rfl ?_
  refine t_call 2 k177_2 (by omega) (Nat.le_of_ble_eq_true rfl) rfl (Nat.le_of_ble_eq_true rfl) (Nat.le_of_ble_eq_true rfl) (recv_ok rfl (by first | assumption | exact Nat.le_of_ble_eq_true rfl | omega)) rfl (e_isP hL) rfl ?_
  refine t_if_eq k177_5 (fun h5 => ?_) (fun h5 => ?_)
  · refine t_run 1 rfl ?_
    exact t_ib k177_26 (by (try simp only [b2i0] at *); simp_all [isTwo, b2i])
  · refine t_run 2 rfl ?_
    refine t_call 2 k177_10 (by omega) (Nat.le_of_ble_eq_true rfl) rfl (Nat.le_of_ble_eq_true rfl) (Nat.le_of_ble_eq_true rfl) (recv_ok rfl (by first | assumption | exact Nat.le_of_ble_eq_true rfl | omega)) rfl (e_isP hL) rfl ?_
    refine t_if_eq k177_13 (fun h13 => ?_) (fun h13 => ?_)
    · refine t_run 1 rfl ?_
      exact t_ib k177_26 (by (try simp only [b2i0] at *); simp_all [isTwo, b2i])
    · refine t_run 2 rfl ?_
      refine t_ic_eq k177_18 (fun h18 => ?_) (fun h18 => ?_)
      · refine t_run 1 rfl ?_
        exact t_ib k177_26 (by (try simp only [b2i0] at *); simp_all [isTwo, b2i])
      · refine t_run 2 rfl ?_
        exact t_ib k177_26 (by (try simp only [b2i0] at *); simp_all [isTwo, b2i])
theorem l_bstgOf (hL : ML F A) (hA : wfL A) (h : rowS (F 70 0) (lP A) s) (hp : p < lP A) (hd : 2 ≤ d) : ∀ (r i : Nat) (iv acc : Int32), iv = nI i → i + r = lP A → acc = bset (stgA A s p) i → Tm E d 183 4 [some (vr 40 0), some (vi (nI p)), some (vi acc), some (vi iv)] [] (cC x) F G (Rs b) (some (vi (bset (stgA A s p) (lP A)))) (cC x, F, G, Rs b) := by
  intro r
  induction r with
  | zero =>
    intro i iv acc hiv hir ha
    subst hiv
    have h6 := hA.2.1
    refine t_run 2 rfl ?_
    refine t_gR k183_6 (by first | assumption | exact Nat.le_of_ble_eq_true rfl | omega) ⟨rfl, rfl, rfl⟩ rfl ?_
    refine t_run 1 rfl ?_
    refine t_ia (N := 8) (j := 1) k183_10 (by decide) (by first | assumption | exact Nat.le_of_ble_eq_true rfl | omega) ⟨⟨rfl, rfl⟩, rfl, rfl⟩ (by decide) rfl ?_
    refine t_ic_ge k183_11 (fun h11 => ?_) (fun h11 => ?_)
    · refine t_run 1 rfl ?_
      exact t_ir k183_40 rfl (by rw [ha, show i = lP A by omega])
    · exact absurd (lt_nI h11 hL.2.1 (by omega) (by omega)) (by omega)
  | succ r ih =>
    intro i iv acc hiv hir ha
    subst hiv
    have h6 := hA.2.1
    refine t_run 2 rfl ?_
    refine t_gR k183_6 (by first | assumption | exact Nat.le_of_ble_eq_true rfl | omega) ⟨rfl, rfl, rfl⟩ rfl ?_
    refine t_run 1 rfl ?_
    refine t_ia (N := 8) (j := 1) k183_10 (by decide) (by first | assumption | exact Nat.le_of_ble_eq_true rfl | omega) ⟨⟨rfl, rfl⟩, rfl, rfl⟩ (by decide) rfl ?_
    refine t_ic_ge k183_11 (fun h11 => ?_) (fun h11 => ?_)
    · exact absurd (ge_nI h11 hL.2.1 (by omega) (by omega)) (by omega)
    · refine t_run 4 rfl ?_
      refine t_call 3 k183_18 (by omega) (Nat.le_of_ble_eq_true rfl) rfl (Nat.le_of_ble_eq_true rfl) (Nat.le_of_ble_eq_true rfl) (recv_ok rfl (by first | assumption | exact Nat.le_of_ble_eq_true rfl | omega)) rfl (b_stg hL hA h hp (by omega) (by omega)) rfl ?_
      refine t_if_eq k183_21 (fun h21 => ?_) (fun h21 => ?_)
      · refine t_run 5 rfl ?_
        first
        | exact ih (i + 1) _ _ (nI_1 i) (by omega) (by (try simp only [b2i0] at *); rw [ha]; simp only [bset]; simp_all [ibop])
      · refine t_run 8 rfl ?_
        first
        | exact ih (i + 1) _ _ (nI_1 i) (by omega) (by (try simp only [b2i0] at *); rw [ha]; simp only [bset]; simp_all [ibop])
theorem b_stgOf (hL : ML F A) (hA : wfL A) (h : rowS (F 70 0) (lP A) s) (hp : p < lP A) (hd : 2 ≤ d) : Tm E d 183 0 [some (vr 40 0), some (vi (nI p)), none, none] [] (cC x) F G (Rs b) (some (vi (bset (stgA A s p) (lP A)))) (cC x, F, G, Rs b) := by
  refine t_run 4 rfl ?_
  exact l_bstgOf hL hA h hp hd (lP A) 0 _ _ rfl (by omega) rfl
theorem l_keeps : ∀ (r i : Nat) (iv : Int32) (F1 : FT) {R : Option PV} {QQ : FT → GT → Prop}, iv = nI i → i + r = 750 → (∀ j, j < i → F1 74 0 j = F 74 0 (j + 50)) → (∀ j, i ≤ j → F1 74 0 j = F 74 0 j) → FrK (fun k => decide (k = 74)) F F1 → (∀ F2, (∀ j, j < 750 → F2 74 0 j = F 74 0 (j + 50)) → FrK (fun k => decide (k = 74)) F F2 → Td E d 197 39 [some (vr 40 0), none] [] x F2 G b R QQ) → Td E d 197 11 [some (vr 40 0), some (vi iv)] [] x F1 G b R QQ := by
  intro r
  induction r with
  | zero =>
    intro i iv F1 R QQ hiv hir q1 q2 q3 kk
    subst hiv
    have hi : i = 750 := by omega
    subst hi
    refine d_run 2 rfl ?_
    refine d_ic_ge k197_15 (fun h15 => ?_) (fun h15 => ?_)
    · refine d_dr10 ?_
      exact kk F1 q1 q3
    · exact absurd (lt_nI h15 (b := 750) rfl (by omega) (by omega)) (by omega)
  | succ r ih =>
    intro i iv F1 R QQ hiv hir q1 q2 q3 kk
    subst hiv
    refine d_run 2 rfl ?_
    refine d_ic_ge k197_15 (fun h15 => ?_) (fun h15 => ?_)
    · exact absurd (ge_nI h15 (b := 750) rfl (by omega) (by omega)) (by omega)
    · refine d_run 1 rfl ?_
      refine d_gR k197_19 (by first | assumption | exact Nat.le_of_ble_eq_true rfl | omega) ⟨rfl, rfl, rfl⟩ rfl ?_
      refine d_run 2 rfl ?_
      refine d_gR k197_24 (by first | assumption | exact Nat.le_of_ble_eq_true rfl | omega) ⟨rfl, rfl, rfl⟩ rfl ?_
      refine d_run 3 rfl ?_
      refine d_ia (N := 800) (j := i + 50) k197_31 (by decide) (by first | assumption | exact Nat.le_of_ble_eq_true rfl | omega) ⟨⟨rfl, rfl⟩, rfl, rfl⟩ (show i + 50 < 800 by omega) (nI_add i 50) ?_
      rw [q2 _ (show i ≤ i + 50 by omega)]
      refine d_is (N := 800) k197_32 (by first | assumption | exact Nat.le_of_ble_eq_true rfl | omega) ⟨rfl, rfl⟩ (show i < 800 by omega) rfl ?_
      refine d_run 2 rfl ?_
      refine ih (i + 1) _ _ (nI_1 i) (by omega) ?_ ?_ (q3.u rfl) kk
      · intro j hj
        rw [uF_r]
        by_cases e : j = i
        · subst e
          exact pk_us
        · rw [pk_un e]
          exact q1 j (by omega)
      · intro j hj
        rw [uF_r, pk_un (by omega)]
        exact q2 j (by omega)
/-- the copy behind the last, the number told -/
def dKe (k : Nat) : Bool := decide (k = 40) || decide (k = 74)
theorem take16 {s : ST} {ps : List ST} (h : ps.length ≤ 16) : ((s :: ps).take 16).length = min 16 (ps.length + 1) := by
  rw [List.length_take, List.length_cons]
theorem keeps2 {P : Nat} {ps : List ST} {N : Nat} (hP : P ≤ 6) (hS : rowS (F 70 0) P s) (hN : N ≤ 15) (hd : 1 ≤ d) (hdn : F 40 0 49 = nI N) (hl : ((s :: ps).take 16).length = N + 1) (hr : ∀ j (hj : j < ((s :: ps).take 16).length), 1 ≤ j → rowS (fun i => F 74 0 (50 * (N - j) + i)) P ((s :: ps).take 16)[j]) : Td E d 197 49 [some (vr 40 0), none] [] x F G b none (fun F2 G2 => G2 = G ∧ MPa F2 P ((s :: ps).take 16) ∧ (∀ i, i ≠ 49 → F2 40 0 i = F 40 0 i) ∧ FrK dKe F F2) := by
  refine d_run 1 rfl ?_
  refine d_gR k197_50 (by first | assumption | exact Nat.le_of_ble_eq_true rfl | omega) ⟨rfl, rfl, rfl⟩ rfl ?_
  refine d_run 2 rfl ?_
  refine d_gR k197_55 (by first | assumption | exact Nat.le_of_ble_eq_true rfl | omega) ⟨rfl, rfl, rfl⟩ rfl ?_
  refine d_run 2 rfl ?_
  refine d_gI k197_61 (by first | assumption | exact Nat.le_of_ble_eq_true rfl | omega) ⟨rfl, rfl, Or.inl rfl⟩ ?_
  rw [hdn]
  refine d_run 1 rfl ?_
  rw [show ibop 2 50 (nI N) = nI (50 * N) from pk_mul 50 N]
  refine d_call 4 k197_65 (by omega) (Nat.le_of_ble_eq_true rfl) rfl (Nat.le_of_ble_eq_true rfl) (Nat.le_of_ble_eq_true rfl) recv_st rfl (b_cp70_74 (a := 0) (c := 50 * N) (by omega) (by omega)) rfl ?_
  rintro F1 G1 ⟨rfl, q1, q2, q3⟩
  refine d_run 2 rfl ?_
  refine d_gI k197_70 (by first | assumption | exact Nat.le_of_ble_eq_true rfl | omega) ⟨rfl, rfl, Or.inl rfl⟩ ?_
  rw [q3 40 rfl, hdn]
  refine d_run 2 rfl ?_
  refine d_pI k197_75 (by first | assumption | exact Nat.le_of_ble_eq_true rfl | omega) ⟨rfl, rfl⟩ ?_
  refine d_ret k197_78 ?_
  refine ⟨rfl, ⟨?_, ?_, ?_⟩, ?_, (q3.mo (fun k e => ?_)).u rfl⟩
  · rw [uF_r, pk_us, hl]
    exact nI_1 N
  · rw [hl]; omega
  · intro j hj
    rw [hl]
    by_cases e : j = 0
    · subst e
      refine rowS.eq (g := F 70 0) hS hP (fun i hi => ?_)
      rw [uF_k (by decide)]
      show F1 74 0 (50 * (N + 1 - 1 - 0) + i) = _
      rw [show 50 * (N + 1 - 1 - 0) + i = 50 * N + i by omega, q1 i hi, Nat.zero_add]
    · refine (hr j hj (by omega)).eq hP (fun i hi => ?_)
      rw [uF_k (by decide), show 50 * (N + 1 - 1 - j) + i = 50 * (N - j) + i by rw [Nat.add_sub_cancel]]
      refine q2 _ (Or.inl ?_)
      have : j < N + 1 := by rw [← hl]; exact hj
      omega
  · intro i hi
    rw [uF_r, pk_un hi, q3 40 rfl]
  · simp only [dKe, Bool.or_eq_false_iff] at e
    exact e.2
theorem b_keeps {P : Nat} {ps : List ST} (hP : P ≤ 6) (hS : rowS (F 70 0) P s) (hp : MPa F P ps) (hd : 1 ≤ d) : Td E d 197 0 [some (vr 40 0), none] [] x F G b none (fun F2 G2 => G2 = G ∧ MPa F2 P ((s :: ps).take 16) ∧ (∀ i, i ≠ 49 → F2 40 0 i = F 40 0 i) ∧ FrK dKe F F2) := by
  obtain ⟨p1, p2, p3⟩ := hp
  refine d_run 1 rfl ?_
  refine d_gI k197_1 (by first | assumption | exact Nat.le_of_ble_eq_true rfl | omega) ⟨rfl, rfl, Or.inl rfl⟩ ?_
  rw [p1]
  refine d_run 1 rfl ?_
  refine d_ic_ne k197_6 (fun h6 => ?_) (fun h6 => ?_)
  · have h6 : ps.length ≠ 16 := fun e => h6 (by rw [e]; rfl)
    have hl : ((s :: ps).take 16).length = ps.length + 1 := by rw [take16 p2]; omega
    refine keeps2 (N := ps.length) hP hS (by omega) hd p1 hl ?_
    intro j hj h1
    rw [hl] at hj
    have e : ((s :: ps).take 16)[j] = ps[j - 1]'(by omega) := by
      rw [List.getElem_take]
      obtain ⟨j2, rfl⟩ : ∃ j2, j = j2 + 1 := ⟨j - 1, by omega⟩
      rfl
    rw [e]
    refine (p3 (j - 1) (by omega)).eq hP (fun i hi => ?_)
    rw [show ps.length - 1 - (j - 1) = ps.length - j by omega]
  · have h6 : ps.length = 16 := nI_inj (b := 16) h6 (by omega) (by omega)
    refine d_run 2 rfl ?_
    refine l_keeps (F := F) 750 0 _ F rfl (by omega) (fun j hj => absurd hj (by omega)) (fun j _ => rfl) FrK.rf ?_
    intro F2 q1 q3
    refine d_run 2 rfl ?_
    refine d_gI k197_41 (by first | assumption | exact Nat.le_of_ble_eq_true rfl | omega) ⟨rfl, rfl, Or.inl rfl⟩ ?_
    rw [q3 40 rfl, p1, h6]
    refine d_run 2 rfl ?_
    refine d_pI k197_46 (by first | assumption | exact Nat.le_of_ble_eq_true rfl | omega) ⟨rfl, rfl⟩ ?_
    have f1 : FrK dKe F (uF F2 40 0 49 (ibop 1 (nI 16) 1)) := (q3.mo (fun k e => by simp only [dKe, Bool.or_eq_false_iff] at e; exact e.2)).u rfl
    have hl : ((s :: ps).take 16).length = 16 := by rw [take16 p2]; omega
    refine td_mo (keeps2 (N := 15) hP ?_ (by omega) hd (by rw [uF_r, pk_us]; rfl) hl ?_) ?_
    · rw [f1 70 rfl]
      exact hS
    · intro j hj h1
      rw [hl] at hj
      have e : ((s :: ps).take 16)[j] = ps[j - 1]'(by omega) := by
        rw [List.getElem_take]
        obtain ⟨j2, rfl⟩ : ∃ j2, j = j2 + 1 := ⟨j - 1, by omega⟩
        rfl
      rw [e]
      refine (p3 (j - 1) (by omega)).eq hP (fun i hi => ?_)
      rw [uF_k (by decide), q1 _ (by omega), h6]
      congr 1
      omega
    · rintro F3 G3 ⟨rfl, k1, k2, k3⟩
      refine ⟨rfl, k1, fun i hi => ?_, f1.tr k3⟩
      rw [k2 i hi, uF_r, pk_un hi, q3 40 rfl]
end M7
