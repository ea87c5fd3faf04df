/-! LAND() AND WEEK() OF THE CLASS -/
def toLA (B : LB) : LA := (bS B, bP B, bW B, bR B)
def q_land (o : SG) : Int32 := faV (ldL (gT o) 1000 (tB (gT o) 0) begB)
def n_land (o : SG) : SG := match ldL (gT o) 1000 (tB (gT o) 0) begB with
  | .inl _ => ((0, (gT o).2), o.2)
  | .inr B => ((0, (gT o).2), bN B, toLA B, begC (toLA B), (fun j => (false, (gM o j).2)), [])
def q_week (o : SG) : Int32 := faV (ldW (gT o) (gA o) (gN o) 1000 (tB (gT o) 0) w00)
def n_week (o : SG) : SG := match ldW (gT o) (gA o) (gN o) 1000 (tB (gT o) 0) w00 with
  | .inl _ => ((0, (gT o).2), o.2)
  | .inr w => ((0, (gT o).2), gN o, gA o, (gS o, w, gTl o), gM o, gP o)
theorem wfL_of {B : LB} (h : wfB B) : wfL (toLA B) := by
  obtain ⟨a1, a2, a3, a4, a5, a6, a7, a8, a9, a10⟩ := h
  refine ⟨a1, a2, a5, a6, a7, a8, fun x y hx hy => ?_, a10⟩
  have hx : x < bP B := hx
  have hy : y < bP B := hy
  show bit (bR B 4 x) y = bit (bR B 4 y) x
  cases e : bit (bR B 4 x) y with
  | true => exact (a9 x y hx (by omega) e).2.symm
  | false =>
    cases e2 : bit (bR B 4 y) x with
    | false => rfl
    | true =>
      have := (a9 y x hy (by omega) e2).2
      rw [e] at this
      exact this
theorem CL_of {F : FT} {G : GT} {l : Nat} {B : LB} (h : CLb F G l B) (hw : wfBB B) : CL F l (toLA B) := by
  obtain ⟨c1, c2, c3, c4, c5, c6, c7, c8, c9, c10, c11, c12⟩ := h
  obtain ⟨l1, l2⟩ := law_c hw.2 (cs := F 17 l) c10
  exact ⟨c1, c2, c3, c4, fun i hi => c6 i hi, fun i hi => (c7 i hi).1, fun i hi => (c7 i hi).2.1, fun i hi => (c7 i hi).2.2.1, fun i hi => (c7 i hi).2.2.2, _, c5, hw.2.len, l1, l2⟩
theorem CNm_of {F : FT} {G : GT} {l : Nat} {B : LB} (h : CLb F G l B) : CNm G l (toLA B) (bN B) := ⟨h.2.2.2.2.2.2.2.1, h.2.2.2.2.2.2.2.2.1⟩
def QLd (o : SG) (F : FT) (G : GT) (x x2 : Nat) (b2 : Bool) (F2 : FT) (G2 : GT) : Prop := x2 = x ∧ CPost b2 o F G F2 G2
theorem fa_0 {α : Type} {t : TP} {f : Nat} (h : fOk t f) (ht : t.1 ≤ 1000) : ¬ faV (.inl f : Nat ⊕ α) = 0 := fun e => by
  have := nI_inj (a := f) (b := 0) e (by have := h.2; omega) (by omega)
  have := h.1
  omega
/-- what a new land changes beside the land -/
def dLs (k m : Nat) : Bool := dSc 0 k m || decide (k = 29) || (decide (k = 23) && decide (1 ≤ m))
section T8
variable {E : EV} {d x : Nat} {F : FT} {G : GT} {b : Bool} {o : SG} {u v w : Int32} {A : LA}
theorem l_lmk {l2 : Nat} {F0 : FT} {Q : FT → GT → Prop} : ∀ (r i : Nat) (iv : Int32) (F : FT), iv = nI i → i + r = 4 → (∀ j, j < i → F 23 (j + 1) 3 = 0) → FrD (fun k m => decide (k = 23) && decide (1 ≤ m)) F0 F → (∀ F2, (∀ j, j < 4 → F2 23 (j + 1) 3 = 0) → FrD (fun k m => decide (k = 23) && decide (1 ≤ m)) F0 F2 → Q F2 G) → Td E d 87 64 [some (vr 1 0), some (vi u), some (vr 9 l2), some (vi iv)] [] x F G b (some (vi 0)) (Q) := by
  intro r
  induction r with
  | zero =>
    intro i iv F hiv hir q1 q3 kk
    subst hiv
    refine d_run 2 rfl ?_
    refine d_ic_ge k87_66 (fun h66 => ?_) (fun h66 => ?_)
    · refine d_run 1 rfl ?_
      refine d_ir k87_86 rfl (by rfl) ?_
      exact kk F (fun j hj => q1 j (by omega)) q3
    · exact absurd (lt_nI h66 (b := 4) rfl (by omega) (by omega)) (by omega)
  | succ r ih =>
    intro i iv F hiv hir q1 q3 kk
    subst hiv
    refine d_run 2 rfl ?_
    refine d_ic_ge k87_66 (fun h66 => ?_) (fun h66 => ?_)
    · exact absurd (ge_nI h66 (b := 4) rfl (by omega) (by omega)) (by omega)
    · refine d_run 1 rfl ?_
      refine d_gR k87_70 (by first | assumption | exact Nat.le_of_ble_eq_true rfl | omega) ⟨rfl, rfl, rfl⟩ rfl ?_
      refine d_run 1 rfl ?_
      refine d_ra (N := 4) (j := i) k87_74 (by first | assumption | exact Nat.le_of_ble_eq_true rfl | omega) ⟨⟨rfl, rfl⟩, rfl, rfl, rfl⟩ (show i < 4 by omega) rfl Rs_marks ?_
      refine d_run 1 rfl ?_
      refine d_pZ k87_76 (Nat.lt_of_lt_of_le (show i + 1 < 5 by omega) (Nat.le_of_ble_eq_true rfl)) ⟨rfl, rfl⟩ (by first | exact Or.inl rfl | exact Or.inr rfl) ?_
      refine d_run 2 rfl ?_
      refine ih (i + 1) _ _ (nI_1 i) (by omega) (fun j hj => ?_) (q3.u (by simp)) kk
      by_cases e : j = i
      · subst e
        rw [uF_r, pk_us]
      · rw [uF_n (by omega)]
        exact q1 j (by omega)
theorem c_land44 {l2 : Nat} (hd : 20 ≤ d) (hL : CL F (lx b) A) (hA : wfL A) : Td E d 87 44 [some (vr 1 0), some (vi u), some (vr 9 l2), none] [] x F G b (some (vi 0)) (fun F2 G2 => G2 = G ∧ CSc F2 0 (lP A) (begC A) ∧ F2 29 0 2 = 0 ∧ F2 29 0 1 = F 29 0 1 ∧ (∀ j, j < 4 → F2 23 (j + 1) 3 = 0) ∧ FrD dLs F F2) := by
  refine d_run 1 rfl ?_
  refine d_gR k87_45 (by first | assumption | exact Nat.le_of_ble_eq_true rfl | omega) ⟨rfl, rfl, rfl⟩ rfl ?_
  refine d_run 1 rfl ?_
  refine d_gR k87_49 (by first | assumption | exact Nat.le_of_ble_eq_true rfl | omega) ⟨rfl, rfl, rfl⟩ (Rs_land _) ?_
  refine d_call 2 k87_52 (by omega) (Nat.le_of_ble_eq_true rfl) rfl (Nat.le_of_ble_eq_true rfl) (Nat.le_of_ble_eq_true rfl) (recv_ok rfl (by first | assumption | exact Nat.le_of_ble_eq_true rfl | omega | exact Nat.lt_of_lt_of_le (m := 5) (by omega) (Nat.le_of_ble_eq_true rfl))) rfl (a_begSc (n := 0) (by omega) (lx2 b) hL hA (by omega)) rfl ?_
  rintro F1 G1 ⟨rfl, k1, f1⟩
  refine d_run 1 rfl ?_
  refine d_gR k87_56 (by first | assumption | exact Nat.le_of_ble_eq_true rfl | omega) ⟨rfl, rfl, rfl⟩ rfl ?_
  refine d_call 1 k87_59 (by omega) (Nat.le_of_ble_eq_true rfl) rfl (Nat.le_of_ble_eq_true rfl) (Nat.le_of_ble_eq_true rfl) (recv_ok rfl (by first | assumption | exact Nat.le_of_ble_eq_true rfl | omega)) rfl a_forget rfl ?_
  rintro F2 G2 ⟨rfl, rfl⟩
  refine d_run 2 rfl ?_
  refine l_lmk (F0 := uF F1 29 0 2 0) 4 0 _ _ rfl (by omega) (fun j hj => absurd hj (by omega)) FrD.rf ?_
  intro F3 q1 q3
  have hf : ∀ k m, k ≠ 23 → F3 k m = uF F1 29 0 2 0 k m := fun k m hk => q3 k m (by simp; omega)
  refine ⟨rfl, k1.fr (fun k a b => by rw [hf k _ (by omega), uF_k (by omega)]) (fun k a b => by rw [hf k _ (by omega), uF_k (by omega)]), ?_, ?_, q1, (f1.mo (fun k m e => ?_)).tr ((FrD.rf.u (D := dLs) (k := 29) (n := 0) (i := 2) (v := 0) (by simp [dLs])).tr (q3.mo (fun k m e => ?_)))⟩
  · rw [hf 29 0 (by decide), uF_r, pk_us]
  · rw [hf 29 0 (by decide), uF_r, pk_un (by decide), f1 29 0 rfl]
  · simp only [dLs, Bool.or_eq_false_iff] at e
    exact e.1.1
  · simp only [dLs, Bool.or_eq_false_iff] at e
    exact e.2
theorem Ag_sw (b : Bool) : Ag (cC x, F, G, Rs (!b)) (cC x, F, G, uR (uR (Rs b) 1 0 2 (some (lx (!b)))) 1 0 3 (some (lx b))) := by
  refine ⟨rfl, fun k n j hn hv => ⟨rfl, rfl, ?_⟩⟩
  show uR (uR (Rs b) 1 0 2 (some (lx (!b)))) 1 0 3 (some (lx b)) k n j = Rs (!b) k n j
  by_cases hk : k = 1
  · subst hk
    have hn : n < 1 := hn
    have e : n = 0 := by omega
    subst e
    by_cases h2 : j = 2
    · subst h2; cases b <;> rfl
    · by_cases h3 : j = 3
      · subst h3; cases b <;> rfl
      · unfold uR
        rw [if_neg (by omega), if_neg (by omega)]
        unfold Rs
        rw [if_pos rfl, if_pos rfl, if_neg h2, if_neg h3, if_neg h2, if_neg h3]
  · unfold uR
    rw [if_neg (by omega), if_neg (by omega)]
    unfold Rs
    rw [if_neg hk, if_neg hk]
/-- nothing but the tape and the spare land: all stands, the tape is empty -/
theorem CInv.sp {F F2 : FT} {G G2 : GT} (h : CInv F G b o) (hf : CFr (lx (!b)) F G F2 G2) (h1 : F2 5 0 1 = 0) : CPost b ((0, (gT o).2), o.2) F G F2 G2 := by
  have hne : lx b ≠ lx (!b) := by cases b <;> decide
  have at_ : ∀ k m, k ≠ 5 → k ≠ 7 → (k < 9 ∨ 17 < k ∨ m ≠ lx (!b)) → F2 k m = F k m := fun k m a c e => hf.1 k m (by
    simp only [dRd, Bool.or_eq_false_iff, Bool.and_eq_false_iff, decide_eq_false_iff_not]
    omega)
  obtain ⟨i1, i2, i3, i4, i5, i6⟩ := h
  refine ⟨⟨⟨h1, Nat.zero_le _, fun i hi => absurd hi (by show ¬ i < 0; omega)⟩, i2.fr (fun k a c => at_ k _ (by omega) (by omega) (Or.inr (Or.inr hne))), ?_, i4.fr (fun k a c => at_ k _ (by omega) (by omega) (by omega)) (fun k a c => at_ k _ (by omega) (by omega) (by omega)), i5.fr (fun m _ => at_ 23 m (by decide) (by decide) (by omega)) (fun k m a c e f => at_ k m (by omega) (by omega) (by omega)) (fun k m a c e => at_ k m (by omega) (by omega) (by omega)), i6.fr (fun k m a c e f => at_ k m (by omega) (by omega) (by omega)) (at_ 29 0 (by decide) (by decide) (by omega))⟩, hf.1.mo (fun k m e => ?_), fun k hk => ?_⟩
  · obtain ⟨j1, j2⟩ := i3
    refine ⟨?_, ?_⟩
    · rw [hf.2 10 _ (by decide) (Or.inr hne)]; exact j1
    · rw [hf.2 12 _ (by decide) (Or.inr hne)]; exact j2
  · simp only [decide_eq_false_iff_not] at e
    simp only [dRd, Bool.or_eq_false_iff, Bool.and_eq_false_iff, decide_eq_false_iff_not]
    omega
  · funext m
    exact hf.2 k m (by omega) (Or.inl (by omega))
theorem a_land_false (hO : OrcA E.2.2) (h : CInv F G false o) (hw : WF o) (hd : 100 ≤ d) : Te E d 87 0 [some (vr 1 0), none, none, none] [] x F G false (some (vi (q_land o))) (QLd (n_land o) F G x) := by
  have ht := hw.2.2.2.2.2.2.1
  obtain ⟨F1, G1, t1, q1⟩ := c_rdLand (E := E) (d := d - 1) (x := x) (b := false) (G := G) (l := 1) (by decide) (by omega) h.1 hw.2.2.2.2.2.2
  cases ez : ldL (gT o) 1000 (tB (gT o) 0) begB with
  | inl f =>
    have hf := ldL_f ht 1000 (tB (gT o) 0) begB f (tB_le (Nat.zero_le _)).2 beg_wf ez
    rw [ez] at q1 t1
    have q1 : CFr 1 F G F1 G1 := q1
    have eq : q_land o = faV (.inl f : Nat ⊕ LB) := by simp only [q_land]; rw [ez]
    rw [eq, show n_land o = ((0, (gT o).2), o.2) by simp only [n_land]; rw [ez]]
    refine ⟨(cC x, uF F1 5 0 1 0, G1, Rs false), x, false, _, _, ?_, Ag.rf, rfl, CInv.sp (b := false) h (q1.tr ⟨FrD.rf.u rfl, fun _ _ _ _ => rfl⟩) (by rw [uF_r, pk_us])⟩
    refine t_run 1 rfl ?_
    refine t_gR k87_1 (by first | assumption | exact Nat.le_of_ble_eq_true rfl | omega) ⟨rfl, rfl, rfl⟩ rfl ?_
    refine t_run 1 rfl ?_
    refine t_gR k87_5 (by first | assumption | exact Nat.le_of_ble_eq_true rfl | omega) ⟨rfl, rfl, rfl⟩ rfl ?_
    refine t_call 2 k87_8 (by omega) (Nat.le_of_ble_eq_true rfl) rfl (Nat.le_of_ble_eq_true rfl) (Nat.le_of_ble_eq_true rfl) (recv_ok rfl (by first | assumption | exact Nat.le_of_ble_eq_true rfl | omega)) rfl t1 rfl ?_
    refine t_run 2 rfl ?_
    refine t_gR k87_13 (by first | assumption | exact Nat.le_of_ble_eq_true rfl | omega) ⟨rfl, rfl, rfl⟩ rfl ?_
    refine t_run 1 rfl ?_
    refine t_pI k87_17 (by first | assumption | exact Nat.le_of_ble_eq_true rfl | omega) ⟨rfl, rfl⟩ ?_
    refine t_run 1 rfl ?_
    refine t_if_eq k87_21 (fun h21 => ?_) (fun h21 => ?_)
    · exact absurd h21 (fa_0 hf ht)
    · refine t_run 1 rfl ?_
      exact t_ir k87_25 rfl (by rfl)
  | inr B =>
    have hB := ldL_wf ht 1000 (tB (gT o) 0) begB B (tB_le (Nat.zero_le _)).2 beg_wf ez
    rw [ez] at q1 t1
    obtain ⟨q1, q2⟩ := (show CLb F1 G1 1 B ∧ CFr 1 F G F1 G1 from q1)
    rw [show q_land o = 0 by simp only [q_land]; rw [ez]; rfl, show n_land o = ((0, (gT o).2), bN B, toLA B, begC (toLA B), (fun j => (false, (gM o j).2)), []) by simp only [n_land]; rw [ez]]
    have hd5 : D5 F1 G1 (uF F1 5 0 1 0) G1 := ⟨FrD.rf.u rfl, fun _ _ => rfl⟩
    have hB2 := q1.d5 hd5
    have hL2 : CL (uF F1 5 0 1 0) (lx (!false)) (toLA B) := CL_of hB2 hB
    obtain ⟨F5, G5, t5, e5, k1, k2, k3, k4, k5⟩ := c_land44 (E := E) (d := d) (x := x) (u := 0) (l2 := 0) (G := G1) (b := !false) (by omega) hL2 (wfL_of hB.1)
    subst e5
    obtain ⟨t6, t7, a7⟩ := t_ag hO (Ag_sw (F := uF F1 5 0 1 0) (G := G5) (x := x) false) t5
    have at_ : ∀ k m, dLs k m = false → F5 k m = uF F1 5 0 1 0 k m := fun k m e => k5 k m e
    have ls_ : ∀ k m, (k < 19 ∨ 29 < k ∨ (19 ≤ k ∧ k ≤ 22 ∧ m ≠ 1) ∨ (k = 23 ∧ m = 0) ∨ (24 ≤ k ∧ k ≤ 28 ∧ m ≠ 0)) → k ≠ 18 → dLs k m = false := fun k m e1 e2 => by
      simp only [dLs, Bool.or_eq_false_iff, Bool.and_eq_false_iff, decide_eq_false_iff_not]
      refine ⟨⟨dSc_no (by omega) e2 (by omega) (by omega), by omega⟩, by omega⟩
    refine ⟨t6, x, !false, F5, G5, ?_, a7, rfl, ⟨⟨?_, Nat.zero_le _, fun i hi => absurd hi (by show ¬ i < 0; omega)⟩, hL2.fr (fun k a c => at_ k _ (ls_ k _ (by omega) (by omega))), CNm_of hB2, k1, fun j hj => ⟨k4 j hj, fun e => absurd e (by simp)⟩, ?_⟩, ?_, ?_⟩
    · refine t_run 1 rfl ?_
      refine t_gR k87_1 (by first | assumption | exact Nat.le_of_ble_eq_true rfl | omega) ⟨rfl, rfl, rfl⟩ rfl ?_
      refine t_run 1 rfl ?_
      refine t_gR k87_5 (by first | assumption | exact Nat.le_of_ble_eq_true rfl | omega) ⟨rfl, rfl, rfl⟩ rfl ?_
      refine t_call 2 k87_8 (by omega) (Nat.le_of_ble_eq_true rfl) rfl (Nat.le_of_ble_eq_true rfl) (Nat.le_of_ble_eq_true rfl) (recv_ok rfl (by first | assumption | exact Nat.le_of_ble_eq_true rfl | omega)) rfl t1 rfl ?_
      refine t_run 2 rfl ?_
      refine t_gR k87_13 (by first | assumption | exact Nat.le_of_ble_eq_true rfl | omega) ⟨rfl, rfl, rfl⟩ rfl ?_
      refine t_run 1 rfl ?_
      refine t_pI k87_17 (by first | assumption | exact Nat.le_of_ble_eq_true rfl | omega) ⟨rfl, rfl⟩ ?_
      refine t_run 1 rfl ?_
      refine t_if_eq k87_21 (fun h21 => ?_) (fun h21 => ?_)
      · refine t_run 1 rfl ?_
        refine t_gR k87_27 (by first | assumption | exact Nat.le_of_ble_eq_true rfl | omega) ⟨rfl, rfl, rfl⟩ rfl ?_
        refine t_run 3 rfl ?_
        refine t_gR k87_33 (by first | assumption | exact Nat.le_of_ble_eq_true rfl | omega) ⟨rfl, rfl, rfl⟩ rfl ?_
        refine t_pR k87_36 (by first | assumption | exact Nat.le_of_ble_eq_true rfl | omega) ⟨rfl, rfl⟩ (Nat.le_of_ble_eq_true rfl) ?_
        refine t_run 2 rfl ?_
        refine t_pR k87_41 (by first | assumption | exact Nat.le_of_ble_eq_true rfl | omega) ⟨rfl, rfl⟩ (Nat.le_of_ble_eq_true rfl) ?_
        exact t7
      · exact absurd rfl h21
    · rw [at_ 5 0 (ls_ 5 0 (by omega) (by decide)), uF_r, pk_us]; rfl
    · obtain ⟨nw, n1, n2, _⟩ := h.2.2.2.2.2
      refine ⟨nw, n1, ?_, k2, Nat.zero_le _, fun j hj => absurd hj (Nat.not_lt_zero j)⟩
      rw [k3, uF_k (by decide), q2.1 29 0 (by simp [dRd])]
      exact n2
    · refine ((q2.1.mo (fun k m e => ?_)).tr (FrD.rf.u (D := dCl) (k := 5) (n := 0) (i := 1) (v := 0) rfl)).tr (k5.mo (fun k m e => ?_))
      · simp only [decide_eq_false_iff_not] at e
        simp only [dRd, Bool.or_eq_false_iff, Bool.and_eq_false_iff, decide_eq_false_iff_not]
        omega
      · simp only [decide_eq_false_iff_not] at e
        exact ls_ k m (by omega) (by omega)
    · intro k hk
      funext m
      exact q2.2 k m (by omega) (Or.inl (by omega))
theorem a_land_true (hO : OrcA E.2.2) (h : CInv F G true o) (hw : WF o) (hd : 100 ≤ d) : Te E d 87 0 [some (vr 1 0), none, none, none] [] x F G true (some (vi (q_land o))) (QLd (n_land o) F G x) := by
  have ht := hw.2.2.2.2.2.2.1
  obtain ⟨F1, G1, t1, q1⟩ := c_rdLand (E := E) (d := d - 1) (x := x) (b := true) (G := G) (l := 0) (by decide) (by omega) h.1 hw.2.2.2.2.2.2
  cases ez : ldL (gT o) 1000 (tB (gT o) 0) begB with
  | inl f =>
    have hf := ldL_f ht 1000 (tB (gT o) 0) begB f (tB_le (Nat.zero_le _)).2 beg_wf ez
    rw [ez] at q1 t1
    have q1 : CFr 0 F G F1 G1 := q1
    have eq : q_land o = faV (.inl f : Nat ⊕ LB) := by simp only [q_land]; rw [ez]
    rw [eq, show n_land o = ((0, (gT o).2), o.2) by simp only [n_land]; rw [ez]]
    refine ⟨(cC x, uF F1 5 0 1 0, G1, Rs true), x, true, _, _, ?_, Ag.rf, rfl, CInv.sp (b := true) h (q1.tr ⟨FrD.rf.u rfl, fun _ _ _ _ => rfl⟩) (by rw [uF_r, pk_us])⟩
    refine t_run 1 rfl ?_
    refine t_gR k87_1 (by first | assumption | exact Nat.le_of_ble_eq_true rfl | omega) ⟨rfl, rfl, rfl⟩ rfl ?_
    refine t_run 1 rfl ?_
    refine t_gR k87_5 (by first | assumption | exact Nat.le_of_ble_eq_true rfl | omega) ⟨rfl, rfl, rfl⟩ rfl ?_
    refine t_call 2 k87_8 (by omega) (Nat.le_of_ble_eq_true rfl) rfl (Nat.le_of_ble_eq_true rfl) (Nat.le_of_ble_eq_true rfl) (recv_ok rfl (by first | assumption | exact Nat.le_of_ble_eq_true rfl | omega)) rfl t1 rfl ?_
    refine t_run 2 rfl ?_
    refine t_gR k87_13 (by first | assumption | exact Nat.le_of_ble_eq_true rfl | omega) ⟨rfl, rfl, rfl⟩ rfl ?_
    refine t_run 1 rfl ?_
    refine t_pI k87_17 (by first | assumption | exact Nat.le_of_ble_eq_true rfl | omega) ⟨rfl, rfl⟩ ?_
    refine t_run 1 rfl ?_
    refine t_if_eq k87_21 (fun h21 => ?_) (fun h21 => ?_)
    · exact absurd h21 (fa_0 hf ht)
    · refine t_run 1 rfl ?_
      exact t_ir k87_25 rfl (by rfl)
  | inr B =>
    have hB := ldL_wf ht 1000 (tB (gT o) 0) begB B (tB_le (Nat.zero_le _)).2 beg_wf ez
    rw [ez] at q1 t1
    obtain ⟨q1, q2⟩ := (show CLb F1 G1 0 B ∧ CFr 0 F G F1 G1 from q1)
    rw [show q_land o = 0 by simp only [q_land]; rw [ez]; rfl, show n_land o = ((0, (gT o).2), bN B, toLA B, begC (toLA B), (fun j => (false, (gM o j).2)), []) by simp only [n_land]; rw [ez]]
    have hd5 : D5 F1 G1 (uF F1 5 0 1 0) G1 := ⟨FrD.rf.u rfl, fun _ _ => rfl⟩
    have hB2 := q1.d5 hd5
    have hL2 : CL (uF F1 5 0 1 0) (lx (!true)) (toLA B) := CL_of hB2 hB
    obtain ⟨F5, G5, t5, e5, k1, k2, k3, k4, k5⟩ := c_land44 (E := E) (d := d) (x := x) (u := 0) (l2 := 1) (G := G1) (b := !true) (by omega) hL2 (wfL_of hB.1)
    subst e5
    obtain ⟨t6, t7, a7⟩ := t_ag hO (Ag_sw (F := uF F1 5 0 1 0) (G := G5) (x := x) true) t5
    have at_ : ∀ k m, dLs k m = false → F5 k m = uF F1 5 0 1 0 k m := fun k m e => k5 k m e
    have ls_ : ∀ k m, (k < 19 ∨ 29 < k ∨ (19 ≤ k ∧ k ≤ 22 ∧ m ≠ 1) ∨ (k = 23 ∧ m = 0) ∨ (24 ≤ k ∧ k ≤ 28 ∧ m ≠ 0)) → k ≠ 18 → dLs k m = false := fun k m e1 e2 => by
      simp only [dLs, Bool.or_eq_false_iff, Bool.and_eq_false_iff, decide_eq_false_iff_not]
      refine ⟨⟨dSc_no (by omega) e2 (by omega) (by omega), by omega⟩, by omega⟩
    refine ⟨t6, x, !true, F5, G5, ?_, a7, rfl, ⟨⟨?_, Nat.zero_le _, fun i hi => absurd hi (by show ¬ i < 0; omega)⟩, hL2.fr (fun k a c => at_ k _ (ls_ k _ (by omega) (by omega))), CNm_of hB2, k1, fun j hj => ⟨k4 j hj, fun e => absurd e (by simp)⟩, ?_⟩, ?_, ?_⟩
    · refine t_run 1 rfl ?_
      refine t_gR k87_1 (by first | assumption | exact Nat.le_of_ble_eq_true rfl | omega) ⟨rfl, rfl, rfl⟩ rfl ?_
      refine t_run 1 rfl ?_
      refine t_gR k87_5 (by first | assumption | exact Nat.le_of_ble_eq_true rfl | omega) ⟨rfl, rfl, rfl⟩ rfl ?_
      refine t_call 2 k87_8 (by omega) (Nat.le_of_ble_eq_true rfl) rfl (Nat.le_of_ble_eq_true rfl) (Nat.le_of_ble_eq_true rfl) (recv_ok rfl (by first | assumption | exact Nat.le_of_ble_eq_true rfl | omega)) rfl t1 rfl ?_
      refine t_run 2 rfl ?_
      refine t_gR k87_13 (by first | assumption | exact Nat.le_of_ble_eq_true rfl | omega) ⟨rfl, rfl, rfl⟩ rfl ?_
      refine t_run 1 rfl ?_
      refine t_pI k87_17 (by first | assumption | exact Nat.le_of_ble_eq_true rfl | omega) ⟨rfl, rfl⟩ ?_
      refine t_run 1 rfl ?_
      refine t_if_eq k87_21 (fun h21 => ?_) (fun h21 => ?_)
      · refine t_run 1 rfl ?_
        refine t_gR k87_27 (by first | assumption | exact Nat.le_of_ble_eq_true rfl | omega) ⟨rfl, rfl, rfl⟩ rfl ?_
        refine t_run 3 rfl ?_
        refine t_gR k87_33 (by first | assumption | exact Nat.le_of_ble_eq_true rfl | omega) ⟨rfl, rfl, rfl⟩ rfl ?_
        refine t_pR k87_36 (by first | assumption | exact Nat.le_of_ble_eq_true rfl | omega) ⟨rfl, rfl⟩ (Nat.le_of_ble_eq_true rfl) ?_
        refine t_run 2 rfl ?_
        refine t_pR k87_41 (by first | assumption | exact Nat.le_of_ble_eq_true rfl | omega) ⟨rfl, rfl⟩ (Nat.le_of_ble_eq_true rfl) ?_
        exact t7
      · exact absurd rfl h21
    · rw [at_ 5 0 (ls_ 5 0 (by omega) (by decide)), uF_r, pk_us]; rfl
    · obtain ⟨nw, n1, n2, _⟩ := h.2.2.2.2.2
      refine ⟨nw, n1, ?_, k2, Nat.zero_le _, fun j hj => absurd hj (Nat.not_lt_zero j)⟩
      rw [k3, uF_k (by decide), q2.1 29 0 (by simp [dRd])]
      exact n2
    · refine ((q2.1.mo (fun k m e => ?_)).tr (FrD.rf.u (D := dCl) (k := 5) (n := 0) (i := 1) (v := 0) rfl)).tr (k5.mo (fun k m e => ?_))
      · simp only [decide_eq_false_iff_not] at e
        simp only [dRd, Bool.or_eq_false_iff, Bool.and_eq_false_iff, decide_eq_false_iff_not]
        omega
      · simp only [decide_eq_false_iff_not] at e
        exact ls_ k m (by omega) (by omega)
    · intro k hk
      funext m
      exact q2.2 k m (by omega) (Or.inl (by omega))
theorem a_land (hO : OrcA E.2.2) (h : CInv F G b o) (hw : WF o) (hd : 100 ≤ d) : Te E d 87 0 [some (vr 1 0), none, none, none] [] x F G b (some (vi (q_land o))) (QLd (n_land o) F G x) := by
  cases b
  · exact a_land_false hO h hw hd
  · exact a_land_true hO h hw hd
theorem CInv.wk {F F2 : FT} {G G2 : GT} (h : CInv F G b o) (hf : WFr F G F2 G2) (h1 : F2 5 0 1 = 0) : CPost b ((0, (gT o).2), o.2) F G F2 G2 := by
  obtain ⟨i1, i2, i3, i4, i5, i6⟩ := h
  refine ⟨⟨⟨h1, Nat.zero_le _, fun i hi => absurd hi (by show ¬ i < 0; omega)⟩, i2.fr (fun k a c => hf.at (by omega) (by omega)), ?_, i4.fr (fun k a c => hf.at (by omega) (by omega)) (fun k a c => hf.at (by omega) (by omega)), i5.fr (fun m _ => hf.at (by decide) (by omega)) (fun k m a c e f => hf.at (by omega) (by omega)) (fun k m a c e => hf.at (by omega) (by omega)), i6.fr (fun k m a c e f => hf.at (by omega) (by omega)) (hf.at (by decide) (by omega))⟩, hf.1.mo (fun k m e => ?_), fun k hk => hf.2 k (by omega)⟩
  · obtain ⟨j1, j2⟩ := i3
    refine ⟨?_, ?_⟩
    · rw [hf.2 10 (by decide)]; exact j1
    · rw [hf.2 12 (by decide)]; exact j2
  · simp only [decide_eq_false_iff_not] at e
    simp only [dRw, Bool.or_eq_false_iff, Bool.and_eq_false_iff, decide_eq_false_iff_not]
    omega
theorem a_week (h : CInv F G b o) (hw : WF o) (hd : 100 ≤ d) : Td E d 88 0 [some (vr 1 0), none] [] x F G b (some (vi (q_week o))) (CPost b (n_week o) F G) := by
  have ht := hw.2.2.2.2.2.2.1
  have hA := hw.1
  have hw0 : wfK (gA o) w00 := ⟨by decide, fun i hi => absurd hi (by show ¬ i < 0; omega)⟩
  have u5 : ∀ {F1 : FT} {G1 : GT}, WFr F G F1 G1 → WFr F G (uF F1 5 0 1 0) G1 := fun q => q.tr ⟨FrD.rf.u rfl, fun _ _ => rfl⟩
  cases ez : ldW (gT o) (gA o) (gN o) 1000 (tB (gT o) 0) w00 with
  | inl f =>
    have hf := ldW_f 1000 (tB (gT o) 0) w00 f (tB_le (Nat.zero_le _)).2 hw0 ez
    rw [show q_week o = faV (.inl f : Nat ⊕ WK) by simp only [q_week]; rw [ez], show n_week o = ((0, (gT o).2), o.2) by simp only [n_week]; rw [ez]]
    refine d_run 1 rfl ?_
    refine d_gR k88_1 (by first | assumption | exact Nat.le_of_ble_eq_true rfl | omega) ⟨rfl, rfl, rfl⟩ rfl ?_
    refine d_run 1 rfl ?_
    refine d_gR k88_5 (by first | assumption | exact Nat.le_of_ble_eq_true rfl | omega) ⟨rfl, rfl, rfl⟩ (Rs_land _) ?_
    refine d_run 1 rfl ?_
    refine d_gR k88_9 (by first | assumption | exact Nat.le_of_ble_eq_true rfl | omega) ⟨rfl, rfl, rfl⟩ rfl ?_
    refine d_call 3 k88_12 (by omega) (Nat.le_of_ble_eq_true rfl) rfl (Nat.le_of_ble_eq_true rfl) (Nat.le_of_ble_eq_true rfl) (recv_ok rfl (by first | assumption | exact Nat.le_of_ble_eq_true rfl | omega)) rfl (c_rdWeek (lx2 b) (by omega) hA.1 hA.2.1 hw.2.2.2.2.2.1 h.1 hw.2.2.2.2.2.2 h.2.1.1 h.2.1.2.1 h.2.2.1) rfl ?_
    intro F1 G1 q1
    rw [ez] at q1
    rw [ez]
    refine d_run 2 rfl ?_
    refine d_gR k88_17 (by first | assumption | exact Nat.le_of_ble_eq_true rfl | omega) ⟨rfl, rfl, rfl⟩ rfl ?_
    refine d_run 1 rfl ?_
    refine d_pI k88_21 (by first | assumption | exact Nat.le_of_ble_eq_true rfl | omega) ⟨rfl, rfl⟩ ?_
    refine d_run 1 rfl ?_
    refine d_if_ne k88_25 (fun h25 => ?_) (fun h25 => ?_)
    · refine d_run 1 rfl ?_
      refine d_ir k88_43 rfl (by rfl) ?_
      exact CInv.wk h (u5 q1) (by rw [uF_r, pk_us])
    · exact absurd h25 (fa_0 hf ht)
  | inr wk =>
    rw [show q_week o = 0 by simp only [q_week]; rw [ez]; rfl, show n_week o = ((0, (gT o).2), gN o, gA o, (gS o, wk, gTl o), gM o, gP o) by simp only [n_week]; rw [ez]]
    refine d_run 1 rfl ?_
    refine d_gR k88_1 (by first | assumption | exact Nat.le_of_ble_eq_true rfl | omega) ⟨rfl, rfl, rfl⟩ rfl ?_
    refine d_run 1 rfl ?_
    refine d_gR k88_5 (by first | assumption | exact Nat.le_of_ble_eq_true rfl | omega) ⟨rfl, rfl, rfl⟩ (Rs_land _) ?_
    refine d_run 1 rfl ?_
    refine d_gR k88_9 (by first | assumption | exact Nat.le_of_ble_eq_true rfl | omega) ⟨rfl, rfl, rfl⟩ rfl ?_
    refine d_call 3 k88_12 (by omega) (Nat.le_of_ble_eq_true rfl) rfl (Nat.le_of_ble_eq_true rfl) (Nat.le_of_ble_eq_true rfl) (recv_ok rfl (by first | assumption | exact Nat.le_of_ble_eq_true rfl | omega)) rfl (c_rdWeek (lx2 b) (by omega) hA.1 hA.2.1 hw.2.2.2.2.2.1 h.1 hw.2.2.2.2.2.2 h.2.1.1 h.2.1.2.1 h.2.2.1) rfl ?_
    intro F1 G1 q1
    rw [ez] at q1
    rw [ez]
    refine d_run 2 rfl ?_
    refine d_gR k88_17 (by first | assumption | exact Nat.le_of_ble_eq_true rfl | omega) ⟨rfl, rfl, rfl⟩ rfl ?_
    refine d_run 1 rfl ?_
    refine d_pI k88_21 (by first | assumption | exact Nat.le_of_ble_eq_true rfl | omega) ⟨rfl, rfl⟩ ?_
    obtain ⟨q1, q2⟩ := (show CW F1 0 wk ∧ WFr F G F1 G1 from q1)
    have hp := CInv.wk h (u5 q2) (by rw [uF_r, pk_us])
    have hW0 : CW (uF F1 5 0 1 0) 0 wk := q1.fr (fun k a c => by rw [uF_k (by omega)])
    refine d_run 1 rfl ?_
    refine d_if_ne k88_25 (fun h25 => ?_) (fun h25 => ?_)
    · exact absurd rfl h25
    · refine d_run 1 rfl ?_
      refine d_gR k88_29 (by first | assumption | exact Nat.le_of_ble_eq_true rfl | omega) ⟨rfl, rfl, rfl⟩ rfl ?_
      refine d_gR k88_32 (by first | assumption | exact Nat.le_of_ble_eq_true rfl | omega | exact Nat.lt_of_lt_of_le (m := 5) (by omega) (Nat.le_of_ble_eq_true rfl)) ⟨rfl, rfl, rfl⟩ rfl ?_
      refine d_run 1 rfl ?_
      refine d_gR k88_36 (by first | assumption | exact Nat.le_of_ble_eq_true rfl | omega) ⟨rfl, rfl, rfl⟩ rfl ?_
      refine d_call 2 k88_39 (by omega) (Nat.le_of_ble_eq_true rfl) rfl (Nat.le_of_ble_eq_true rfl) (Nat.le_of_ble_eq_true rfl) (recv_ok rfl (by first | assumption | exact Nat.le_of_ble_eq_true rfl | omega | exact Nat.lt_of_lt_of_le (m := 6) (by omega) (Nat.le_of_ble_eq_true rfl))) rfl (a_copyW (n := 1) (m := 0) (by omega) (by omega) (by omega) (by omega) hW0) rfl ?_
      rintro F2 G2 ⟨rfl, k1, f2⟩
      refine d_run 1 rfl ?_
      refine d_ir k88_43 rfl (by rfl) ?_
      have at_ : ∀ k m, (k < 19 ∨ 22 < k ∨ m ≠ 1) → F2 k m = uF F1 5 0 1 0 k m := fun k m e => f2 k m (by simp only [dWk, Bool.and_eq_false_iff, decide_eq_false_iff_not]; omega)
      obtain ⟨⟨i1, i2, i3, i4, i5, i6⟩, j2, j3⟩ := hp
      refine ⟨⟨i1.fr (at_ 5 0 (by omega)) (at_ 6 0 (by omega)), i2.fr (fun k a c => at_ k _ (by omega)), i3, ⟨i4.1.fr (fun k a c => at_ k _ (by omega)), k1, ?_⟩, i5.fr (fun m _ => at_ 23 m (by omega)) (fun k m a c e f => at_ k m (by omega)) (fun k m a c e => at_ k m (by omega)), i6.fr (fun k m a c e f => at_ k m (by omega)) (at_ 29 0 (by omega))⟩, j2.tr (f2.mo (fun k m e => ?_)), j3⟩
      · show eqR 6 (F2 24 0) _
        rw [at_ 24 0 (by omega)]
        exact i4.2.2
      · simp only [decide_eq_false_iff_not] at e
        simp only [dWk, Bool.and_eq_false_iff, decide_eq_false_iff_not]
        omega
end T8
