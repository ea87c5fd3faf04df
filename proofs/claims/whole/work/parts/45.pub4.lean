/-! MARK, STOPS, AUGUST, JUDGED OF THE CLASS -/
def stopN (A : LA) (p : ST → Bool) : Nat → Nat → ST → Int32
  | 0, _, _ => -1
  | k + 1, n, s => if p s = true then nI n else stopN A p k (n + 1) (hourA A s)
def q_stops (o : SG) (u : Int32) : Int32 := if isN u (lP (gA o)) = true then stopN (gA o) (fun s => sitA s (ix u)) 100 0 (gS o) else -1
def allP (P : Nat) : Int32 := (1 <<< (nI P &&& 31)) - 1
def q_august (o : SG) : Int32 := stopN (gA o) (fun s => decide (bset (sitA s) (lP (gA o)) = allP (lP (gA o)))) 100 0 (gS o)
/-- a line of a week: whether it can be, what stands behind it -/
def linG (A : LA) (w : WK) (s : ST) (i : Nat) : Bool := if w.2 0 i = 0 then cwkA A s (ix (w.2 1 i)) (ix (w.2 2 i)) else if w.2 0 i = 1 then cwdA A s (ix (w.2 1 i)) (ix (w.2 2 i)) else if w.2 0 i = 2 then bit (sSn s) (ix (w.2 1 i)) else true
def linS (A : LA) (w : WK) (s : ST) (i : Nat) : ST := if linG A w s i = true then (if w.2 0 i = 0 then wlkA s (ix (w.2 1 i)) (ix (w.2 2 i)) else if w.2 0 i = 1 then turnA A s (ix (w.2 1 i)) (ix (w.2 2 i)) else if w.2 0 i = 2 then repA s (ix (w.2 1 i)) else hourA A s) else s
def jdF (A : LA) (w : WK) (i : Nat) (j : ST × (Int32 × Int32)) : ST × (Int32 × Int32) := (linS A w j.1 i, if (!linG A w j.1 i && decide (j.2.1 = -1)) = true then nI i else j.2.1, if (decide (¬ sSp (linS A w j.1 i) = sSp j.1) && decide (j.2.2 = -1)) = true then nI i else j.2.2)
def q_judged (o : SG) (u : Int32) : Int32 := if isW2 u 0 2 = true then (if u = 0 then (lpN (jdF (gA o) (gW o)) 0 (gW o).1 (begA (gA o), -1, -1)).2.1 else if u = 1 then (lpN (jdF (gA o) (gW o)) 0 (gW o).1 (begA (gA o), -1, -1)).2.2 else bset (sitA (lpN (jdF (gA o) (gW o)) 0 (gW o).1 (begA (gA o), -1, -1)).1) (lP (gA o))) else -2
/-- windings snap at most one watch each -/
def upSp (s t : SV) (m : Nat) : Prop := ∃ k, k ≤ m ∧ t.2.2.2.2 = s.2.2.2.2 + nI k
theorem upSp.rf {s : SV} : upSp s s 0 := ⟨0, Nat.le_refl _, (Int32.add_zero _).symm⟩
theorem upSp.tr {s t v : SV} {m n : Nat} (h : upSp s t m) (h2 : upSp t v n) : upSp s v (m + n) := by
  obtain ⟨a, ha, e⟩ := h
  obtain ⟨c, hc, e2⟩ := h2
  exact ⟨a + c, by omega, by rw [e2, e, Int32.add_assoc, nI_add]⟩
theorem tn_sp {LW : LWT} {ki at_ : Nat → Int32} {P : Nat} {snap : Int32} {w o : Nat} {s : SV} : upSp s (tn LW ki at_ P snap w o s) 1 := by
  unfold tn
  split
  · exact ⟨0, by omega, (Int32.add_zero _).symm⟩
  · exact ⟨1, by omega, rfl⟩
theorem wl_sp {LW : LWT} {ki kn at_ : Nat → Int32} {P : Nat} {so snap : Int32} {w o : Nat} {s : SV} : upSp s (wl LW ki kn at_ P so snap w o s) 1 := by
  unfold wl
  split
  · exact tn_sp
  · exact ⟨0, by omega, (Int32.add_zero _).symm⟩
theorem inr_sp {LW : LWT} {ki kn at_ : Nat → Int32} {P : Nat} {so snap : Int32} {a : Nat} : ∀ (k b : Nat) (s : SV), upSp s (inr LW ki kn at_ P so snap a b k s) (2 * k)
  | 0, _, _ => upSp.rf
  | k + 1, b, s => by
    obtain ⟨c, hc, e⟩ := (wl_sp.tr wl_sp).tr (inr_sp (LW := LW) (ki := ki) (kn := kn) (at_ := at_) (P := P) (so := so) (snap := snap) (a := a) k (b + 1) (wl LW ki kn at_ P so snap b a (wl LW ki kn at_ P so snap a b s)))
    exact ⟨c, by omega, e⟩
theorem otr_sp {LW : LWT} {ki kn at_ : Nat → Int32} {P : Nat} {so snap : Int32} : ∀ (k a : Nat) (s : SV), upSp s (otr LW ki kn at_ P so snap a k s) (2 * P * k)
  | 0, _, _ => upSp.rf
  | k + 1, a, s => by
    obtain ⟨c, hc, e⟩ := (inr_sp (LW := LW) (ki := ki) (kn := kn) (at_ := at_) (P := P) (so := so) (snap := snap) (a := a) (P - (a + 1)) (a + 1) s).tr (otr_sp (LW := LW) (ki := ki) (kn := kn) (at_ := at_) (P := P) (so := so) (snap := snap) k (a + 1) _)
    refine ⟨c, ?_, e⟩
    have : 2 * P * (k + 1) = 2 * P * k + 2 * P := by rw [Nat.mul_add, Nat.mul_one]
    omega
theorem hourA_sp {A : LA} {s : ST} (hP : lP A ≤ 6) : upSp (sV s) (sV (hourA A s)) 72 := by
  obtain ⟨c, hc, e⟩ := otr_sp (LW := lW A) (ki := lKi A) (kn := lKn A) (at_ := sAt s) (P := lP A) (so := lSo A) (snap := lSp A) (lP A) 0 (sV s)
  refine ⟨c, Nat.le_trans hc ?_, e⟩
  have : 2 * lP A * lP A ≤ 2 * 6 * 6 := Nat.mul_le_mul (by omega) hP
  omega
theorem linS_sp {A : LA} {w : WK} {s : ST} {i : Nat} (hP : lP A ≤ 6) : upSp (sV s) (sV (linS A w s i)) 72 := by
  have z : upSp (sV s) (sV s) 72 := ⟨0, by omega, (Int32.add_zero _).symm⟩
  unfold linS
  split
  · split
    · exact z
    · split
      · obtain ⟨c, hc, e⟩ := tn_sp (LW := lW A) (ki := lKi A) (at_ := sAt s) (P := lP A) (snap := lSp A) (w := ix (w.2 1 i)) (o := ix (w.2 2 i)) (s := sV s)
        exact ⟨c, by omega, e⟩
      · split
        · exact z
        · exact hourA_sp hP
  · exact z
/-- what may stand behind a line -/
theorem linS_wf {A : LA} {w : WK} {s : ST} {i : Nat} (hA : wfL A) (hw : wfK A w) (h : wfS A s) (hi : i < w.1) : wfS A (linS A w s i) := by
  have h6 := hA.2.1
  have h5 := hA.1
  unfold linS
  split
  · rename_i hg
    unfold linG at hg
    rcases hw.2 i hi with ⟨e0, p, q, hp, hq, e1, e2⟩ | ⟨e0, p, q, hp, hq, _, e1, e2⟩ | ⟨e0, p, hp, e1⟩ | e0
    · rw [if_pos e0, e1, e2, ix_nI (by omega), ix_nI (by omega)]
      exact wfS_wlk h hq
    · have n0 : ¬ w.2 0 i = 0 := by rw [e0]; decide
      rw [if_neg n0, if_pos e0, e1, e2, ix_nI (by omega), ix_nI (by omega)] at hg ⊢
      refine wfS_turn hA h hp hq ?_
      simp only [cwdA, cwd, Bool.and_eq_true] at hg
      simpa using hg.1.2
    · have n0 : ¬ w.2 0 i = 0 := by rw [e0]; decide
      have n1 : ¬ w.2 0 i = 1 := by rw [e0]; decide
      rw [if_neg n0, if_neg n1, if_pos e0, e1, ix_nI (by omega)]
      exact wfS_rep hA h hp
    · have n0 : ¬ w.2 0 i = 0 := by rw [e0]; decide
      have n1 : ¬ w.2 0 i = 1 := by rw [e0]; decide
      have n2 : ¬ w.2 0 i = 2 := by rw [e0]; decide
      rw [if_neg n0, if_neg n1, if_neg n2]
      exact wfS_hour hA h
  · exact h
section P5
variable {E : EV} {d x : Nat} {F : FT} {G : GT} {b : Bool} {o : SG} {u v w : Int32}
theorem l_stops (hw : WF o) (hd : 100 ≤ d) {p : Nat} (hp : p < lP (gA o)) : ∀ (r i : Nat) (iv : Int32) (s : ST) (F : FT), iv = nI i → i + r = 100 → CInv F G b o → CS F 21 (lP (gA o)) s → Td E d 99 26 [some (vr 1 0), some (vi (nI p)), some (vi iv)] [] x F G b (some (vi (stopN (gA o) (fun s => sitA s p) r i s))) (CPost b o F G) := by
  intro r
  induction r with
  | zero =>
    intro i iv s F hiv hir h hT
    subst hiv
    have hi : i = 100 := by omega
    have hL := h.2.1
    have hA := hw.1
    have hS := h.2.2.2.1.1
    have hwS := hw.2.1.1
    have hP6 := hA.2.1
    have hS5 := hA.1
    refine d_run 2 rfl ?_
    refine d_ic_gt k99_29 (fun h29 => ?_) (fun h29 => ?_)
    · refine d_run 1 rfl ?_
      refine d_ir k99_64 rfl (by rfl) ?_
      exact CPost.q h FrD.rf
    · exact absurd (le_nI h29 (b := 99) rfl (by omega) (by omega)) (by omega)
  | succ r ih =>
    intro i iv s F hiv hir h hT
    subst hiv
    have hi : i < 100 := by omega
    have hL := h.2.1
    have hA := hw.1
    have hS := h.2.2.2.1.1
    have hwS := hw.2.1.1
    have hP6 := hA.2.1
    have hS5 := hA.1
    refine d_run 2 rfl ?_
    refine d_ic_gt k99_29 (fun h29 => ?_) (fun h29 => ?_)
    · exact absurd (gt_nI h29 (b := 99) rfl (by omega) (by omega)) (by omega)
    · refine d_run 1 rfl ?_
      refine d_gR k99_33 (by first | assumption | exact Nat.le_of_ble_eq_true rfl | omega) ⟨rfl, rfl, rfl⟩ rfl ?_
      refine d_run 1 rfl ?_
      refine d_callT 2 k99_37 (by omega) (Nat.le_of_ble_eq_true rfl) rfl (Nat.le_of_ble_eq_true rfl) (Nat.le_of_ble_eq_true rfl) (recv_ok rfl (by first | assumption | exact Nat.le_of_ble_eq_true rfl | omega | exact Nat.lt_of_lt_of_le (m := 27) (by omega) (Nat.le_of_ble_eq_true rfl))) rfl (a_sits (n := 21) (by omega) hT hp hP6 (by omega)) rfl ?_
      refine d_if_eq k99_40 (fun h40 => ?_) (fun h40 => ?_)
      · rw [b2i0] at h40
        refine d_run 1 rfl ?_
        refine d_gR k99_46 (by first | assumption | exact Nat.le_of_ble_eq_true rfl | omega) ⟨rfl, rfl, rfl⟩ rfl ?_
        refine d_run 1 rfl ?_
        refine d_gR k99_50 (by first | assumption | exact Nat.le_of_ble_eq_true rfl | omega) ⟨rfl, rfl, rfl⟩ (Rs_land _) ?_
        refine d_call 2 k99_53 (by omega) (Nat.le_of_ble_eq_true rfl) rfl (Nat.le_of_ble_eq_true rfl) (Nat.le_of_ble_eq_true rfl) (recv_ok rfl (by first | assumption | exact Nat.le_of_ble_eq_true rfl | omega | exact Nat.lt_of_lt_of_le (m := 27) (by omega) (Nat.le_of_ble_eq_true rfl))) rfl (a_hour (n := 21) (by omega) (lx2 b) hL hA hT (by omega)) rfl ?_
        rintro F1 G1 ⟨rfl, k1, f1⟩
        refine d_run 3 rfl ?_
        rw [show stopN (gA o) (fun s => sitA s p) (r + 1) i s = stopN (gA o) (fun s => sitA s p) r (i + 1) (hourA (gA o) s) by simp [stopN, h40]]
        exact td_mo (ih (i + 1) _ _ F1 (nI_1 i) (by omega) (h.fr (dSt_Q (by omega) f1) (fun _ _ => rfl)) k1) (fun F2 G2 e => e.q2 (dSt_Q (by omega) f1))
      · rw [b2i0, Bool.not_eq_false] at h40
        refine d_run 1 rfl ?_
        refine d_ir k99_44 rfl (by simp [stopN, h40]) ?_
        exact CPost.q h FrD.rf
theorem l_august (hw : WF o) (hd : 100 ≤ d) : ∀ (r i : Nat) (iv : Int32) (s : ST) (F : FT), iv = nI i → i + r = 100 → CInv F G b o → CS F 21 (lP (gA o)) s → Td E d 100 28 [some (vr 1 0), some (vi (allP (lP (gA o)))), some (vi iv)] [] x F G b (some (vi (stopN (gA o) (fun s => decide (bset (sitA s) (lP (gA o)) = allP (lP (gA o)))) r i s))) (CPost b o F G) := by
  intro r
  induction r with
  | zero =>
    intro i iv s F hiv hir h hT
    subst hiv
    have hi : i = 100 := by omega
    have hL := h.2.1
    have hA := hw.1
    have hS := h.2.2.2.1.1
    have hwS := hw.2.1.1
    have hP6 := hA.2.1
    have hS5 := hA.1
    refine d_run 2 rfl ?_
    refine d_ic_gt k100_31 (fun h31 => ?_) (fun h31 => ?_)
    · refine d_run 1 rfl ?_
      refine d_ir k100_70 rfl (by rfl) ?_
      exact CPost.q h FrD.rf
    · exact absurd (le_nI h31 (b := 99) rfl (by omega) (by omega)) (by omega)
  | succ r ih =>
    intro i iv s F hiv hir h hT
    subst hiv
    have hi : i < 100 := by omega
    have hL := h.2.1
    have hA := hw.1
    have hS := h.2.2.2.1.1
    have hwS := hw.2.1.1
    have hP6 := hA.2.1
    have hS5 := hA.1
    refine d_run 2 rfl ?_
    refine d_ic_gt k100_31 (fun h31 => ?_) (fun h31 => ?_)
    · exact absurd (gt_nI h31 (b := 99) rfl (by omega) (by omega)) (by omega)
    · refine d_run 1 rfl ?_
      refine d_gR k100_35 (by first | assumption | exact Nat.le_of_ble_eq_true rfl | omega) ⟨rfl, rfl, rfl⟩ rfl ?_
      refine d_run 1 rfl ?_
      refine d_gR k100_39 (by first | assumption | exact Nat.le_of_ble_eq_true rfl | omega) ⟨rfl, rfl, rfl⟩ (Rs_land _) ?_
      refine d_callT 2 k100_42 (by omega) (Nat.le_of_ble_eq_true rfl) rfl (Nat.le_of_ble_eq_true rfl) (Nat.le_of_ble_eq_true rfl) (recv_ok rfl (by first | assumption | exact Nat.le_of_ble_eq_true rfl | omega | exact Nat.lt_of_lt_of_le (m := 27) (by omega) (Nat.le_of_ble_eq_true rfl))) rfl (a_sitters (n := 21) (by omega) (lx2 b) hL hA hT (by omega)) rfl ?_
      refine d_run 1 rfl ?_
      refine d_ic_ne k100_46 (fun h46 => ?_) (fun h46 => ?_)
      · refine d_run 1 rfl ?_
        refine d_gR k100_52 (by first | assumption | exact Nat.le_of_ble_eq_true rfl | omega) ⟨rfl, rfl, rfl⟩ rfl ?_
        refine d_run 1 rfl ?_
        refine d_gR k100_56 (by first | assumption | exact Nat.le_of_ble_eq_true rfl | omega) ⟨rfl, rfl, rfl⟩ (Rs_land _) ?_
        refine d_call 2 k100_59 (by omega) (Nat.le_of_ble_eq_true rfl) rfl (Nat.le_of_ble_eq_true rfl) (Nat.le_of_ble_eq_true rfl) (recv_ok rfl (by first | assumption | exact Nat.le_of_ble_eq_true rfl | omega | exact Nat.lt_of_lt_of_le (m := 27) (by omega) (Nat.le_of_ble_eq_true rfl))) rfl (a_hour (n := 21) (by omega) (lx2 b) hL hA hT (by omega)) rfl ?_
        rintro F1 G1 ⟨rfl, k1, f1⟩
        refine d_run 3 rfl ?_
        rw [show stopN (gA o) (fun s => decide (bset (sitA s) (lP (gA o)) = allP (lP (gA o)))) (r + 1) i s = stopN (gA o) (fun s => decide (bset (sitA s) (lP (gA o)) = allP (lP (gA o)))) r (i + 1) (hourA (gA o) s) by simp [stopN, h46]]
        exact td_mo (ih (i + 1) _ _ F1 (nI_1 i) (by omega) (h.fr (dSt_Q (by omega) f1) (fun _ _ => rfl)) k1) (fun F2 G2 e => e.q2 (dSt_Q (by omega) f1))
      · refine d_run 1 rfl ?_
        refine d_ir k100_50 rfl (by simp [stopN, h46]) ?_
        exact CPost.q h FrD.rf
theorem a_stops (h : CInv F G b o) (hw : WF o) (hd : 100 ≤ d) : Td E d 99 0 [some (vr 1 0), some (vi u), none] [] x F G b (some (vi (q_stops o u))) (CPost b (o) F G) := by
  have hL := h.2.1
  have hA := hw.1
  have hS := h.2.2.2.1.1
  have hwS := hw.2.1.1
  have hP6 := hA.2.1
  have hS5 := hA.1
  by_cases hN : isN u (lP (gA o)) = true
  · obtain ⟨p, hp, rfl⟩ := isN_ex hN (by omega)
    rw [show q_stops o (nI p) = stopN (gA o) (fun s => sitA s p) 100 0 (gS o) by simp [q_stops, hN, ix_nI (show p < 100000 by omega)]]
    refine d_run 2 rfl ?_
    refine d_callT 2 k99_2 (by omega) (Nat.le_of_ble_eq_true rfl) rfl (Nat.le_of_ble_eq_true rfl) (Nat.le_of_ble_eq_true rfl) (recv_ok rfl (by first | assumption | exact Nat.le_of_ble_eq_true rfl | omega)) rfl (a_isP hL) rfl ?_
    rw [hN]
    refine d_if_ne k99_5 (fun h5 => ?_) (fun h5 => ?_)
    · refine d_run 1 rfl ?_
      refine d_gR k99_11 (by first | assumption | exact Nat.le_of_ble_eq_true rfl | omega) ⟨rfl, rfl, rfl⟩ rfl ?_
      refine d_run 1 rfl ?_
      refine d_gR k99_15 (by first | assumption | exact Nat.le_of_ble_eq_true rfl | omega) ⟨rfl, rfl, rfl⟩ rfl ?_
      refine d_gR k99_18 (by first | assumption | exact Nat.le_of_ble_eq_true rfl | omega | exact Nat.lt_of_lt_of_le (m := 5) (by omega) (Nat.le_of_ble_eq_true rfl)) ⟨rfl, rfl, rfl⟩ rfl ?_
      refine d_call 2 k99_21 (by omega) (Nat.le_of_ble_eq_true rfl) rfl (Nat.le_of_ble_eq_true rfl) (Nat.le_of_ble_eq_true rfl) (recv_ok rfl (by first | assumption | exact Nat.le_of_ble_eq_true rfl | omega | exact Nat.lt_of_lt_of_le (m := 27) (by omega) (Nat.le_of_ble_eq_true rfl))) rfl (a_copyS (n := 21) (m := 0) (by omega) (by omega) (by omega) (by omega) hP6 hS) rfl ?_
      rintro F1 G1 ⟨rfl, k1, f1⟩
      refine d_run 2 rfl ?_
      exact td_mo (l_stops hw hd hp 100 0 _ _ F1 rfl (by omega) (h.fr (dSt_Q (by omega) f1) (fun _ _ => rfl)) k1) (fun F2 G2 e => e.q2 (dSt_Q (by omega) f1))
    · exact absurd h5 (by decide)
  · have hN : isN u (lP (gA o)) = false := by simpa using hN
    rw [show q_stops o u = -1 by simp [q_stops, hN]]
    refine d_run 2 rfl ?_
    refine d_callT 2 k99_2 (by omega) (Nat.le_of_ble_eq_true rfl) rfl (Nat.le_of_ble_eq_true rfl) (Nat.le_of_ble_eq_true rfl) (recv_ok rfl (by first | assumption | exact Nat.le_of_ble_eq_true rfl | omega)) rfl (a_isP hL) rfl ?_
    rw [hN]
    refine d_if_ne k99_5 (fun h5 => ?_) (fun h5 => ?_)
    · exact absurd h5 (by decide)
    · refine d_run 1 rfl ?_
      refine d_ir k99_9 rfl (by rfl) ?_
      exact CPost.q h FrD.rf
theorem a_august (h : CInv F G b o) (hw : WF o) (hd : 100 ≤ d) : Td E d 100 0 [some (vr 1 0), none, none] [] x F G b (some (vi (q_august o))) (CPost b (o) F G) := by
  have hL := h.2.1
  have hA := hw.1
  have hS := h.2.2.2.1.1
  have hwS := hw.2.1.1
  have hP6 := hA.2.1
  have hS5 := hA.1
  refine d_run 2 rfl ?_
  refine d_gR k100_2 (by first | assumption | exact Nat.le_of_ble_eq_true rfl | omega) ⟨rfl, rfl, rfl⟩ (Rs_land _) ?_
  refine d_gI k100_5 (by first | assumption | exact lx2 _ | exact Nat.le_of_ble_eq_true rfl | omega | exact Nat.lt_of_lt_of_le (m := 2) (by omega) (Nat.le_of_ble_eq_true rfl)) ⟨rfl, rfl, Or.inl rfl⟩ ?_
  rw [hL.2.1]
  refine d_run 5 rfl ?_
  refine d_gR k100_13 (by first | assumption | exact Nat.le_of_ble_eq_true rfl | omega) ⟨rfl, rfl, rfl⟩ rfl ?_
  refine d_run 1 rfl ?_
  refine d_gR k100_17 (by first | assumption | exact Nat.le_of_ble_eq_true rfl | omega) ⟨rfl, rfl, rfl⟩ rfl ?_
  refine d_gR k100_20 (by first | assumption | exact Nat.le_of_ble_eq_true rfl | omega | exact Nat.lt_of_lt_of_le (m := 5) (by omega) (Nat.le_of_ble_eq_true rfl)) ⟨rfl, rfl, rfl⟩ rfl ?_
  refine d_call 2 k100_23 (by omega) (Nat.le_of_ble_eq_true rfl) rfl (Nat.le_of_ble_eq_true rfl) (Nat.le_of_ble_eq_true rfl) (recv_ok rfl (by first | assumption | exact Nat.le_of_ble_eq_true rfl | omega | exact Nat.lt_of_lt_of_le (m := 27) (by omega) (Nat.le_of_ble_eq_true rfl))) rfl (a_copyS (n := 21) (m := 0) (by omega) (by omega) (by omega) (by omega) hP6 hS) rfl ?_
  rintro F1 G1 ⟨rfl, k1, f1⟩
  refine d_run 2 rfl ?_
  exact td_mo (l_august hw hd 100 0 _ _ F1 rfl (by omega) (h.fr (dSt_Q (by omega) f1) (fun _ _ => rfl)) k1) (fun F2 G2 e => e.q2 (dSt_Q (by omega) f1))
theorem a_line (h : CInv F G b o) (hw : WF o) (hd : 50 ≤ d) {s : ST} (hT : CS F 21 (lP (gA o)) s) (hwT : wfS (gA o) s) {i : Nat} (hi : i < (gW o).1) : Td E d 118 0 [some (vr 1 0), some (vr 19 1), some (vi (nI i)), none, none] [] x F G b (some (vi (b2i (linG (gA o) (gW o) s i)))) (fun F2 G2 => G2 = G ∧ CS F2 21 (lP (gA o)) (linS (gA o) (gW o) s i) ∧ FrD (dSt 21) F F2) := by
  have hL := h.2.1
  have hA := hw.1
  have hS := h.2.2.2.1.1
  have hwS := hw.2.1.1
  have hP6 := hA.2.1
  have hS5 := hA.1
  obtain ⟨hK0, hK1, e20, e21, e22⟩ := h.2.2.2.1.2.1
  have hK1 : (gW o).1 ≤ 40 := hK1
  have c0 : F 20 1 i = (gW o).2 0 i := e20 i hi
  have c1 : F 21 1 i = (gW o).2 1 i := e21 i hi
  have c2 : F 22 1 i = (gW o).2 2 i := e22 i hi
  rcases hw.2.1.2.1.2 i hi with ⟨e0, p, q, hp, hq, e1, e2⟩ | ⟨e0, p, q, hp, hq, _, e1, e2⟩ | ⟨e0, p, hp, e1⟩ | e0
  · have hg : linG (gA o) (gW o) s i = cwkA (gA o) s p q := by simp [linG, e0, e1, ix_nI (show p < 100000 by omega), e2, ix_nI (show q < 100000 by omega)]
    have hs : linS (gA o) (gW o) s i = if cwkA (gA o) s p q = true then wlkA s p q else s := by simp only [linS, hg]; simp [e0, e1, ix_nI (show p < 100000 by omega), e2, ix_nI (show q < 100000 by omega)]
    rw [hg, hs]
    refine d_run 1 rfl ?_
    refine d_gR k118_1 (by first | assumption | exact Nat.le_of_ble_eq_true rfl | omega | exact Nat.lt_of_lt_of_le (m := 6) (by omega) (Nat.le_of_ble_eq_true rfl)) ⟨rfl, rfl, rfl⟩ rfl ?_
    refine d_run 1 rfl ?_
    refine d_ia (N := 40) k118_5 (by decide) (by first | assumption | exact Nat.le_of_ble_eq_true rfl | omega | exact Nat.lt_of_lt_of_le (m := 6) (by omega) (Nat.le_of_ble_eq_true rfl)) ⟨⟨rfl, rfl⟩, rfl, rfl⟩ (by first | assumption | omega) rfl ?_
    rw [c1, e1]
    refine d_run 2 rfl ?_
    refine d_gR k118_8 (by first | assumption | exact Nat.le_of_ble_eq_true rfl | omega | exact Nat.lt_of_lt_of_le (m := 6) (by omega) (Nat.le_of_ble_eq_true rfl)) ⟨rfl, rfl, rfl⟩ rfl ?_
    refine d_run 1 rfl ?_
    refine d_ia (N := 40) k118_12 (by decide) (by first | assumption | exact Nat.le_of_ble_eq_true rfl | omega | exact Nat.lt_of_lt_of_le (m := 6) (by omega) (Nat.le_of_ble_eq_true rfl)) ⟨⟨rfl, rfl⟩, rfl, rfl⟩ (by first | assumption | omega) rfl ?_
    rw [c2, e2]
    refine d_run 2 rfl ?_
    refine d_gR k118_16 (by first | assumption | exact Nat.le_of_ble_eq_true rfl | omega | exact Nat.lt_of_lt_of_le (m := 6) (by omega) (Nat.le_of_ble_eq_true rfl)) ⟨rfl, rfl, rfl⟩ rfl ?_
    refine d_run 1 rfl ?_
    refine d_ia (N := 40) k118_20 (by decide) (by first | assumption | exact Nat.le_of_ble_eq_true rfl | omega | exact Nat.lt_of_lt_of_le (m := 6) (by omega) (Nat.le_of_ble_eq_true rfl)) ⟨⟨rfl, rfl⟩, rfl, rfl⟩ (by first | assumption | omega) rfl ?_
    rw [c0, e0]
    refine d_sw k118_21 rfl (q1 := 48) (by decide) ?_
    refine d_run 1 rfl ?_
    refine d_gR k118_49 (by first | assumption | exact Nat.le_of_ble_eq_true rfl | omega) ⟨rfl, rfl, rfl⟩ rfl ?_
    refine d_run 1 rfl ?_
    refine d_gR k118_53 (by first | assumption | exact Nat.le_of_ble_eq_true rfl | omega) ⟨rfl, rfl, rfl⟩ (Rs_land _) ?_
    refine d_run 2 rfl ?_
    refine d_call 4 k118_59 (by omega) (Nat.le_of_ble_eq_true rfl) rfl (Nat.le_of_ble_eq_true rfl) (Nat.le_of_ble_eq_true rfl) (recv_ok rfl (by first | assumption | exact Nat.le_of_ble_eq_true rfl | omega | exact Nat.lt_of_lt_of_le (m := 27) (by omega) (Nat.le_of_ble_eq_true rfl))) rfl (a_walkIf (n := 21) (by omega) (lx2 b) hL hA hT hwT hp (by omega)) rfl ?_
    rintro F1 G1 ⟨rfl, k1, f1⟩
    refine d_ib k118_62 (by rfl) ?_
    exact ⟨rfl, k1, f1⟩
  · have hg : linG (gA o) (gW o) s i = cwdA (gA o) s p q := by simp [linG, e0, e1, ix_nI (show p < 100000 by omega), e2, ix_nI (show q < 100000 by omega)]
    have hs : linS (gA o) (gW o) s i = if cwdA (gA o) s p q = true then turnA (gA o) s p q else s := by simp only [linS, hg]; simp [e0, e1, ix_nI (show p < 100000 by omega), e2, ix_nI (show q < 100000 by omega)]
    rw [hg, hs]
    refine d_run 1 rfl ?_
    refine d_gR k118_1 (by first | assumption | exact Nat.le_of_ble_eq_true rfl | omega | exact Nat.lt_of_lt_of_le (m := 6) (by omega) (Nat.le_of_ble_eq_true rfl)) ⟨rfl, rfl, rfl⟩ rfl ?_
    refine d_run 1 rfl ?_
    refine d_ia (N := 40) k118_5 (by decide) (by first | assumption | exact Nat.le_of_ble_eq_true rfl | omega | exact Nat.lt_of_lt_of_le (m := 6) (by omega) (Nat.le_of_ble_eq_true rfl)) ⟨⟨rfl, rfl⟩, rfl, rfl⟩ (by first | assumption | omega) rfl ?_
    rw [c1, e1]
    refine d_run 2 rfl ?_
    refine d_gR k118_8 (by first | assumption | exact Nat.le_of_ble_eq_true rfl | omega | exact Nat.lt_of_lt_of_le (m := 6) (by omega) (Nat.le_of_ble_eq_true rfl)) ⟨rfl, rfl, rfl⟩ rfl ?_
    refine d_run 1 rfl ?_
    refine d_ia (N := 40) k118_12 (by decide) (by first | assumption | exact Nat.le_of_ble_eq_true rfl | omega | exact Nat.lt_of_lt_of_le (m := 6) (by omega) (Nat.le_of_ble_eq_true rfl)) ⟨⟨rfl, rfl⟩, rfl, rfl⟩ (by first | assumption | omega) rfl ?_
    rw [c2, e2]
    refine d_run 2 rfl ?_
    refine d_gR k118_16 (by first | assumption | exact Nat.le_of_ble_eq_true rfl | omega | exact Nat.lt_of_lt_of_le (m := 6) (by omega) (Nat.le_of_ble_eq_true rfl)) ⟨rfl, rfl, rfl⟩ rfl ?_
    refine d_run 1 rfl ?_
    refine d_ia (N := 40) k118_20 (by decide) (by first | assumption | exact Nat.le_of_ble_eq_true rfl | omega | exact Nat.lt_of_lt_of_le (m := 6) (by omega) (Nat.le_of_ble_eq_true rfl)) ⟨⟨rfl, rfl⟩, rfl, rfl⟩ (by first | assumption | omega) rfl ?_
    rw [c0, e0]
    refine d_sw k118_21 rfl (q1 := 63) (by decide) ?_
    refine d_run 1 rfl ?_
    refine d_gR k118_64 (by first | assumption | exact Nat.le_of_ble_eq_true rfl | omega) ⟨rfl, rfl, rfl⟩ rfl ?_
    refine d_run 1 rfl ?_
    refine d_gR k118_68 (by first | assumption | exact Nat.le_of_ble_eq_true rfl | omega) ⟨rfl, rfl, rfl⟩ (Rs_land _) ?_
    refine d_run 2 rfl ?_
    refine d_callT 4 k118_74 (by omega) (Nat.le_of_ble_eq_true rfl) rfl (Nat.le_of_ble_eq_true rfl) (Nat.le_of_ble_eq_true rfl) (recv_ok rfl (by first | assumption | exact Nat.le_of_ble_eq_true rfl | omega | exact Nat.lt_of_lt_of_le (m := 27) (by omega) (Nat.le_of_ble_eq_true rfl))) rfl (a_canWind (n := 21) (by omega) (lx2 b) hL hA hT hp hq (by omega)) rfl ?_
    refine d_if_ne k118_77 (fun h77 => ?_) (fun h77 => ?_)
    · rw [b2i0, Bool.not_eq_false] at h77
      rw [if_pos h77, h77]
      refine d_run 1 rfl ?_
      refine d_gR k118_83 (by first | assumption | exact Nat.le_of_ble_eq_true rfl | omega) ⟨rfl, rfl, rfl⟩ rfl ?_
      refine d_run 1 rfl ?_
      refine d_gR k118_87 (by first | assumption | exact Nat.le_of_ble_eq_true rfl | omega) ⟨rfl, rfl, rfl⟩ (Rs_land _) ?_
      refine d_run 2 rfl ?_
      refine d_call 4 k118_93 (by omega) (Nat.le_of_ble_eq_true rfl) rfl (Nat.le_of_ble_eq_true rfl) (Nat.le_of_ble_eq_true rfl) (recv_ok rfl (by first | assumption | exact Nat.le_of_ble_eq_true rfl | omega | exact Nat.lt_of_lt_of_le (m := 27) (by omega) (Nat.le_of_ble_eq_true rfl))) rfl (a_turn (n := 21) (by omega) (lx2 b) hL hA hT hp hq (by omega)) rfl ?_
      rintro F1 G1 ⟨rfl, k1, f1⟩
      refine d_run 1 rfl ?_
      refine d_ib k118_97 (by rfl) ?_
      exact ⟨rfl, k1, f1⟩
    · rw [b2i0] at h77
      rw [if_neg (by simp [h77]), h77]
      refine d_run 1 rfl ?_
      refine d_ib k118_81 (by rfl) ?_
      exact ⟨rfl, hT, FrD.rf⟩
  · have hg : linG (gA o) (gW o) s i = bit (sSn s) p := by simp [linG, e0, e1, ix_nI (show p < 100000 by omega)]
    have hs : linS (gA o) (gW o) s i = if bit (sSn s) p = true then repA s p else s := by simp only [linS, hg]; simp [e0, e1, ix_nI (show p < 100000 by omega)]
    rw [hg, hs]
    refine d_run 1 rfl ?_
    refine d_gR k118_1 (by first | assumption | exact Nat.le_of_ble_eq_true rfl | omega | exact Nat.lt_of_lt_of_le (m := 6) (by omega) (Nat.le_of_ble_eq_true rfl)) ⟨rfl, rfl, rfl⟩ rfl ?_
    refine d_run 1 rfl ?_
    refine d_ia (N := 40) k118_5 (by decide) (by first | assumption | exact Nat.le_of_ble_eq_true rfl | omega | exact Nat.lt_of_lt_of_le (m := 6) (by omega) (Nat.le_of_ble_eq_true rfl)) ⟨⟨rfl, rfl⟩, rfl, rfl⟩ (by first | assumption | omega) rfl ?_
    rw [c1, e1]
    refine d_run 2 rfl ?_
    refine d_gR k118_8 (by first | assumption | exact Nat.le_of_ble_eq_true rfl | omega | exact Nat.lt_of_lt_of_le (m := 6) (by omega) (Nat.le_of_ble_eq_true rfl)) ⟨rfl, rfl, rfl⟩ rfl ?_
    refine d_run 1 rfl ?_
    refine d_ia (N := 40) k118_12 (by decide) (by first | assumption | exact Nat.le_of_ble_eq_true rfl | omega | exact Nat.lt_of_lt_of_le (m := 6) (by omega) (Nat.le_of_ble_eq_true rfl)) ⟨⟨rfl, rfl⟩, rfl, rfl⟩ (by first | assumption | omega) rfl ?_
    rw [c2]
    refine d_run 2 rfl ?_
    refine d_gR k118_16 (by first | assumption | exact Nat.le_of_ble_eq_true rfl | omega | exact Nat.lt_of_lt_of_le (m := 6) (by omega) (Nat.le_of_ble_eq_true rfl)) ⟨rfl, rfl, rfl⟩ rfl ?_
    refine d_run 1 rfl ?_
    refine d_ia (N := 40) k118_20 (by decide) (by first | assumption | exact Nat.le_of_ble_eq_true rfl | omega | exact Nat.lt_of_lt_of_le (m := 6) (by omega) (Nat.le_of_ble_eq_true rfl)) ⟨⟨rfl, rfl⟩, rfl, rfl⟩ (by first | assumption | omega) rfl ?_
    rw [c0, e0]
    refine d_sw k118_21 rfl (q1 := 98) (by decide) ?_
    refine d_run 1 rfl ?_
    refine d_gR k118_99 (by first | assumption | exact Nat.le_of_ble_eq_true rfl | omega) ⟨rfl, rfl, rfl⟩ rfl ?_
    refine d_run 1 rfl ?_
    refine d_callT 2 k118_103 (by omega) (Nat.le_of_ble_eq_true rfl) rfl (Nat.le_of_ble_eq_true rfl) (Nat.le_of_ble_eq_true rfl) (recv_ok rfl (by first | assumption | exact Nat.le_of_ble_eq_true rfl | omega | exact Nat.lt_of_lt_of_le (m := 27) (by omega) (Nat.le_of_ble_eq_true rfl))) rfl (a_snapped (n := 21) (by omega) hT) rfl ?_
    refine d_if_ne k118_106 (fun h106 => ?_) (fun h106 => ?_)
    · rw [b2i0, Bool.not_eq_false] at h106
      rw [if_pos h106, h106]
      refine d_run 1 rfl ?_
      refine d_gR k118_112 (by first | assumption | exact Nat.le_of_ble_eq_true rfl | omega) ⟨rfl, rfl, rfl⟩ rfl ?_
      refine d_run 1 rfl ?_
      refine d_call 2 k118_116 (by omega) (Nat.le_of_ble_eq_true rfl) rfl (Nat.le_of_ble_eq_true rfl) (Nat.le_of_ble_eq_true rfl) (recv_ok rfl (by first | assumption | exact Nat.le_of_ble_eq_true rfl | omega | exact Nat.lt_of_lt_of_le (m := 27) (by omega) (Nat.le_of_ble_eq_true rfl))) rfl (a_repair (n := 21) (by omega) hT hP6 hp) rfl ?_
      rintro F1 G1 ⟨rfl, k1, f1⟩
      refine d_run 1 rfl ?_
      refine d_ib k118_120 (by rfl) ?_
      exact ⟨rfl, k1, f1⟩
    · rw [b2i0] at h106
      rw [if_neg (by simp [h106]), h106]
      refine d_run 1 rfl ?_
      refine d_ib k118_110 (by rfl) ?_
      exact ⟨rfl, hT, FrD.rf⟩
  · have hg : linG (gA o) (gW o) s i = true := by simp [linG, e0]
    have hs : linS (gA o) (gW o) s i = if true = true then hourA (gA o) s else s := by simp only [linS, hg]; simp [e0]
    rw [hg, hs]
    refine d_run 1 rfl ?_
    refine d_gR k118_1 (by first | assumption | exact Nat.le_of_ble_eq_true rfl | omega | exact Nat.lt_of_lt_of_le (m := 6) (by omega) (Nat.le_of_ble_eq_true rfl)) ⟨rfl, rfl, rfl⟩ rfl ?_
    refine d_run 1 rfl ?_
    refine d_ia (N := 40) k118_5 (by decide) (by first | assumption | exact Nat.le_of_ble_eq_true rfl | omega | exact Nat.lt_of_lt_of_le (m := 6) (by omega) (Nat.le_of_ble_eq_true rfl)) ⟨⟨rfl, rfl⟩, rfl, rfl⟩ (by first | assumption | omega) rfl ?_
    rw [c1]
    refine d_run 2 rfl ?_
    refine d_gR k118_8 (by first | assumption | exact Nat.le_of_ble_eq_true rfl | omega | exact Nat.lt_of_lt_of_le (m := 6) (by omega) (Nat.le_of_ble_eq_true rfl)) ⟨rfl, rfl, rfl⟩ rfl ?_
    refine d_run 1 rfl ?_
    refine d_ia (N := 40) k118_12 (by decide) (by first | assumption | exact Nat.le_of_ble_eq_true rfl | omega | exact Nat.lt_of_lt_of_le (m := 6) (by omega) (Nat.le_of_ble_eq_true rfl)) ⟨⟨rfl, rfl⟩, rfl, rfl⟩ (by first | assumption | omega) rfl ?_
    rw [c2]
    refine d_run 2 rfl ?_
    refine d_gR k118_16 (by first | assumption | exact Nat.le_of_ble_eq_true rfl | omega | exact Nat.lt_of_lt_of_le (m := 6) (by omega) (Nat.le_of_ble_eq_true rfl)) ⟨rfl, rfl, rfl⟩ rfl ?_
    refine d_run 1 rfl ?_
    refine d_ia (N := 40) k118_20 (by decide) (by first | assumption | exact Nat.le_of_ble_eq_true rfl | omega | exact Nat.lt_of_lt_of_le (m := 6) (by omega) (Nat.le_of_ble_eq_true rfl)) ⟨⟨rfl, rfl⟩, rfl, rfl⟩ (by first | assumption | omega) rfl ?_
    rw [c0, e0]
    refine d_sw k118_21 rfl (q1 := 121) (by decide) ?_
    refine d_run 1 rfl ?_
    refine d_gR k118_122 (by first | assumption | exact Nat.le_of_ble_eq_true rfl | omega) ⟨rfl, rfl, rfl⟩ rfl ?_
    refine d_run 1 rfl ?_
    refine d_gR k118_126 (by first | assumption | exact Nat.le_of_ble_eq_true rfl | omega) ⟨rfl, rfl, rfl⟩ (Rs_land _) ?_
    refine d_call 2 k118_129 (by omega) (Nat.le_of_ble_eq_true rfl) rfl (Nat.le_of_ble_eq_true rfl) (Nat.le_of_ble_eq_true rfl) (recv_ok rfl (by first | assumption | exact Nat.le_of_ble_eq_true rfl | omega | exact Nat.lt_of_lt_of_le (m := 27) (by omega) (Nat.le_of_ble_eq_true rfl))) rfl (a_hour (n := 21) (by omega) (lx2 b) hL hA hT (by omega)) rfl ?_
    rintro F1 G1 ⟨rfl, k1, f1⟩
    refine d_run 2 rfl ?_
    refine d_ib k118_134 (by rfl) ?_
    exact ⟨rfl, k1, f1⟩
theorem lt_sp {a k : Nat} {u v : Int32} (hu : u = nI a) (hv : v = u + nI k) (ha : a + k ≤ 100000) : (u < v) = (¬ v = u) := by
  subst hu
  rw [nI_add] at hv
  subst hv
  apply propext
  rw [← Int32.not_le, nI_leI (by omega) (by omega), nI_eq (by omega) (by omega)]
  omega
theorem l_judged (hw : WF o) (hd : 100 ≤ d) (hu : isW2 u 0 2 = true) : ∀ (r i : Nat) (iv : Int32) (j : ST × (Int32 × Int32)) (F : FT), iv = nI i → i + r = (gW o).1 → CInv F G b o → CS F 21 (lP (gA o)) j.1 → wfS (gA o) j.1 → (∃ c, c ≤ 72 * i ∧ sSp j.1 = nI c) → Td E d 98 30 [some (vr 1 0), some (vi u), some (vi j.2.1), some (vi j.2.2), some (vi iv), none] [] x F G b (some (vi (if u = 0 then (lpN (jdF (gA o) (gW o)) i r j).2.1 else if u = 1 then (lpN (jdF (gA o) (gW o)) i r j).2.2 else bset (sitA (lpN (jdF (gA o) (gW o)) i r j).1) (lP (gA o))))) (CPost b o F G) := by
  intro r
  induction r with
  | zero =>
    intro i iv j F hiv hir h hT hwT hsp
    subst hiv
    have hL := h.2.1
    have hA := hw.1
    have hS := h.2.2.2.1.1
    have hwS := hw.2.1.1
    have hP6 := hA.2.1
    have hS5 := hA.1
    obtain ⟨hK0, hK1, e20, e21, e22⟩ := h.2.2.2.1.2.1
    have hK1 : (gW o).1 ≤ 40 := hK1
    have hK0 : F 19 1 3 = nI (gW o).1 := hK0
    have hi : i = (gW o).1 := by omega
    simp only [lpN]
    refine d_run 2 rfl ?_
    refine d_gR k98_33 (by first | assumption | exact Nat.le_of_ble_eq_true rfl | omega) ⟨rfl, rfl, rfl⟩ rfl ?_
    refine d_gR k98_36 (by first | assumption | exact Nat.le_of_ble_eq_true rfl | omega | exact Nat.lt_of_lt_of_le (m := 5) (by omega) (Nat.le_of_ble_eq_true rfl)) ⟨rfl, rfl, rfl⟩ rfl ?_
    refine d_gI k98_39 (by first | assumption | exact Nat.le_of_ble_eq_true rfl | omega | exact Nat.lt_of_lt_of_le (m := 6) (by omega) (Nat.le_of_ble_eq_true rfl)) ⟨rfl, rfl, Or.inl rfl⟩ ?_
    refine d_ic_ge k98_42 (fun h42 => ?_) (fun h42 => ?_)
    · refine d_run 1 rfl ?_
      refine d_if_ne k98_105 (fun h105 => ?_) (fun h105 => ?_)
      · refine d_run 2 rfl ?_
        refine d_ic_ne k98_112 (fun h112 => ?_) (fun h112 => ?_)
        · refine d_run 1 rfl ?_
          refine d_gR k98_120 (by first | assumption | exact Nat.le_of_ble_eq_true rfl | omega) ⟨rfl, rfl, rfl⟩ rfl ?_
          refine d_run 1 rfl ?_
          refine d_gR k98_124 (by first | assumption | exact Nat.le_of_ble_eq_true rfl | omega) ⟨rfl, rfl, rfl⟩ (Rs_land _) ?_
          refine d_callT 2 k98_127 (by omega) (Nat.le_of_ble_eq_true rfl) rfl (Nat.le_of_ble_eq_true rfl) (Nat.le_of_ble_eq_true rfl) (recv_ok rfl (by first | assumption | exact Nat.le_of_ble_eq_true rfl | omega | exact Nat.lt_of_lt_of_le (m := 27) (by omega) (Nat.le_of_ble_eq_true rfl))) rfl (a_sitters (n := 21) (by omega) (lx2 b) hL hA hT (by omega)) rfl ?_
          refine d_ir k98_130 rfl (by simp_all) ?_
          exact CPost.q h FrD.rf
        · refine d_run 2 rfl ?_
          refine d_ir k98_130 rfl (by simp_all) ?_
          exact CPost.q h FrD.rf
      · refine d_run 1 rfl ?_
        refine d_ir k98_109 rfl (by simp [h105]) ?_
        exact CPost.q h FrD.rf
    · exact absurd (lt_nI h42 hK0 (by omega) (by omega)) (by omega)
  | succ r ih =>
    intro i iv j F hiv hir h hT hwT hsp
    subst hiv
    have hL := h.2.1
    have hA := hw.1
    have hS := h.2.2.2.1.1
    have hwS := hw.2.1.1
    have hP6 := hA.2.1
    have hS5 := hA.1
    obtain ⟨hK0, hK1, e20, e21, e22⟩ := h.2.2.2.1.2.1
    have hK1 : (gW o).1 ≤ 40 := hK1
    have hK0 : F 19 1 3 = nI (gW o).1 := hK0
    have hi : i < (gW o).1 := by omega
    obtain ⟨kk, hkk, ek⟩ := linS_sp (A := gA o) (w := gW o) (s := j.1) (i := i) hP6
    obtain ⟨c, hc, e⟩ := hsp
    have hlt : (sSp j.1 < sSp (linS (gA o) (gW o) j.1 i)) = (¬ sSp (linS (gA o) (gW o) j.1 i) = sSp j.1) := lt_sp e ek (by omega)
    have hsp2 : ∃ c, c ≤ 72 * (i + 1) ∧ sSp (linS (gA o) (gW o) j.1 i) = nI c := ⟨c + kk, by omega, by rw [← nI_add, ← e]; exact ek⟩
    simp only [lpN]
    refine d_run 2 rfl ?_
    refine d_gR k98_33 (by first | assumption | exact Nat.le_of_ble_eq_true rfl | omega) ⟨rfl, rfl, rfl⟩ rfl ?_
    refine d_gR k98_36 (by first | assumption | exact Nat.le_of_ble_eq_true rfl | omega | exact Nat.lt_of_lt_of_le (m := 5) (by omega) (Nat.le_of_ble_eq_true rfl)) ⟨rfl, rfl, rfl⟩ rfl ?_
    refine d_gI k98_39 (by first | assumption | exact Nat.le_of_ble_eq_true rfl | omega | exact Nat.lt_of_lt_of_le (m := 6) (by omega) (Nat.le_of_ble_eq_true rfl)) ⟨rfl, rfl, Or.inl rfl⟩ ?_
    refine d_ic_ge k98_42 (fun h42 => ?_) (fun h42 => ?_)
    · exact absurd (ge_nI h42 hK0 (by omega) (by omega)) (by omega)
    · refine d_run 1 rfl ?_
      refine d_gR k98_46 (by first | assumption | exact Nat.le_of_ble_eq_true rfl | omega) ⟨rfl, rfl, rfl⟩ rfl ?_
      refine d_gI k98_49 (by first | assumption | exact Nat.le_of_ble_eq_true rfl | omega | exact Nat.lt_of_lt_of_le (m := 27) (by omega) (Nat.le_of_ble_eq_true rfl)) ⟨rfl, rfl, Or.inl rfl⟩ ?_
      rw [show F 25 21 6 = sSp j.1 from hT.2.2.2.2.2.2.trans (Int32.add_zero _)]
      refine d_run 3 rfl ?_
      refine d_gR k98_56 (by first | assumption | exact Nat.le_of_ble_eq_true rfl | omega) ⟨rfl, rfl, rfl⟩ rfl ?_
      refine d_gR k98_59 (by first | assumption | exact Nat.le_of_ble_eq_true rfl | omega | exact Nat.lt_of_lt_of_le (m := 5) (by omega) (Nat.le_of_ble_eq_true rfl)) ⟨rfl, rfl, rfl⟩ rfl ?_
      refine d_run 1 rfl ?_
      refine d_call 3 k98_64 (by omega) (Nat.le_of_ble_eq_true rfl) rfl (Nat.le_of_ble_eq_true rfl) (Nat.le_of_ble_eq_true rfl) (recv_ok rfl (by first | assumption | exact Nat.le_of_ble_eq_true rfl | omega)) rfl (a_line h hw (by omega) hT hwT hi) rfl ?_
      rintro F1 G1 ⟨rfl, k1, f1⟩
      have g6 : F1 25 21 6 = sSp (linS (gA o) (gW o) j.1 i) := k1.2.2.2.2.2.2.trans (Int32.add_zero _)
      refine d_if_ne k98_67 (fun h67 => ?_) (fun h67 => ?_)
      · refine d_run 1 rfl ?_
        refine d_gR k98_79 (by first | assumption | exact Nat.le_of_ble_eq_true rfl | omega) ⟨rfl, rfl, rfl⟩ rfl ?_
        refine d_gI k98_82 (by first | assumption | exact Nat.le_of_ble_eq_true rfl | omega | exact Nat.lt_of_lt_of_le (m := 27) (by omega) (Nat.le_of_ble_eq_true rfl)) ⟨rfl, rfl, Or.inl rfl⟩ ?_
        rw [g6]
        refine d_run 1 rfl ?_
        refine d_ic_le k98_87 (fun h87 => ?_) (fun h87 => ?_)
        · have e87 : sSp (linS (gA o) (gW o) j.1 i) = sSp j.1 := Decidable.not_not.mp (fun e => absurd h87 (Int32.not_le.mpr (cast hlt.symm e)))
          clear h87
          refine d_run 2 rfl ?_
          refine d_dr111110 ?_
          have k9 := ih (i + 1) _ (jdF (gA o) (gW o) i j) F1 (nI_1 i) (by omega) (h.fr (dSt_Q (by omega) f1) (fun _ _ => rfl)) k1 (linS_wf hA hw.2.1.2.1 hwT hi) hsp2
          have k8 := td_mo k9 (fun F2 G2 e => e.q2 (dSt_Q (by omega) f1))
          clear k9 ek hlt e hsp2 g6
          (try simp only [b2i0] at *)
          refine cast ?_ k8
          congr 1
          simp only [jdF]
          simp_all
        · have e87 : ¬ sSp (linS (gA o) (gW o) j.1 i) = sSp j.1 := cast hlt (Int32.not_le.mp h87)
          clear h87
          refine d_run 2 rfl ?_
          refine d_ic_ne k98_92 (fun h92 => ?_) (fun h92 => ?_)
          · refine d_run 2 rfl ?_
            refine d_dr111110 ?_
            have k9 := ih (i + 1) _ (jdF (gA o) (gW o) i j) F1 (nI_1 i) (by omega) (h.fr (dSt_Q (by omega) f1) (fun _ _ => rfl)) k1 (linS_wf hA hw.2.1.2.1 hwT hi) hsp2
            have k8 := td_mo k9 (fun F2 G2 e => e.q2 (dSt_Q (by omega) f1))
            clear k9 ek hlt e hsp2 g6
            (try simp only [b2i0] at *)
            refine cast ?_ k8
            congr 1
            simp only [jdF]
            simp_all
          · refine d_run 2 rfl ?_
            refine d_run 2 rfl ?_
            refine d_dr111110 ?_
            have k9 := ih (i + 1) _ (jdF (gA o) (gW o) i j) F1 (nI_1 i) (by omega) (h.fr (dSt_Q (by omega) f1) (fun _ _ => rfl)) k1 (linS_wf hA hw.2.1.2.1 hwT hi) hsp2
            have k8 := td_mo k9 (fun F2 G2 e => e.q2 (dSt_Q (by omega) f1))
            clear k9 ek hlt e hsp2 g6
            (try simp only [b2i0] at *)
            refine cast ?_ k8
            congr 1
            simp only [jdF]
            simp_all
      · refine d_run 2 rfl ?_
        refine d_ic_ne k98_72 (fun h72 => ?_) (fun h72 => ?_)
        · refine d_run 1 rfl ?_
          refine d_gR k98_79 (by first | assumption | exact Nat.le_of_ble_eq_true rfl | omega) ⟨rfl, rfl, rfl⟩ rfl ?_
          refine d_gI k98_82 (by first | assumption | exact Nat.le_of_ble_eq_true rfl | omega | exact Nat.lt_of_lt_of_le (m := 27) (by omega) (Nat.le_of_ble_eq_true rfl)) ⟨rfl, rfl, Or.inl rfl⟩ ?_
          rw [g6]
          refine d_run 1 rfl ?_
          refine d_ic_le k98_87 (fun h87 => ?_) (fun h87 => ?_)
          · have e87 : sSp (linS (gA o) (gW o) j.1 i) = sSp j.1 := Decidable.not_not.mp (fun e => absurd h87 (Int32.not_le.mpr (cast hlt.symm e)))
            clear h87
            refine d_run 2 rfl ?_
            refine d_dr111110 ?_
            have k9 := ih (i + 1) _ (jdF (gA o) (gW o) i j) F1 (nI_1 i) (by omega) (h.fr (dSt_Q (by omega) f1) (fun _ _ => rfl)) k1 (linS_wf hA hw.2.1.2.1 hwT hi) hsp2
            have k8 := td_mo k9 (fun F2 G2 e => e.q2 (dSt_Q (by omega) f1))
            clear k9 ek hlt e hsp2 g6
            (try simp only [b2i0] at *)
            refine cast ?_ k8
            congr 1
            simp only [jdF]
            simp_all
          · have e87 : ¬ sSp (linS (gA o) (gW o) j.1 i) = sSp j.1 := cast hlt (Int32.not_le.mp h87)
            clear h87
            refine d_run 2 rfl ?_
            refine d_ic_ne k98_92 (fun h92 => ?_) (fun h92 => ?_)
            · refine d_run 2 rfl ?_
              refine d_dr111110 ?_
              have k9 := ih (i + 1) _ (jdF (gA o) (gW o) i j) F1 (nI_1 i) (by omega) (h.fr (dSt_Q (by omega) f1) (fun _ _ => rfl)) k1 (linS_wf hA hw.2.1.2.1 hwT hi) hsp2
              have k8 := td_mo k9 (fun F2 G2 e => e.q2 (dSt_Q (by omega) f1))
              clear k9 ek hlt e hsp2 g6
              (try simp only [b2i0] at *)
              refine cast ?_ k8
              congr 1
              simp only [jdF]
              simp_all
            · refine d_run 2 rfl ?_
              refine d_run 2 rfl ?_
              refine d_dr111110 ?_
              have k9 := ih (i + 1) _ (jdF (gA o) (gW o) i j) F1 (nI_1 i) (by omega) (h.fr (dSt_Q (by omega) f1) (fun _ _ => rfl)) k1 (linS_wf hA hw.2.1.2.1 hwT hi) hsp2
              have k8 := td_mo k9 (fun F2 G2 e => e.q2 (dSt_Q (by omega) f1))
              clear k9 ek hlt e hsp2 g6
              (try simp only [b2i0] at *)
              refine cast ?_ k8
              congr 1
              simp only [jdF]
              simp_all
        · refine d_run 3 rfl ?_
          refine d_gR k98_79 (by first | assumption | exact Nat.le_of_ble_eq_true rfl | omega) ⟨rfl, rfl, rfl⟩ rfl ?_
          refine d_gI k98_82 (by first | assumption | exact Nat.le_of_ble_eq_true rfl | omega | exact Nat.lt_of_lt_of_le (m := 27) (by omega) (Nat.le_of_ble_eq_true rfl)) ⟨rfl, rfl, Or.inl rfl⟩ ?_
          rw [g6]
          refine d_run 1 rfl ?_
          refine d_ic_le k98_87 (fun h87 => ?_) (fun h87 => ?_)
          · have e87 : sSp (linS (gA o) (gW o) j.1 i) = sSp j.1 := Decidable.not_not.mp (fun e => absurd h87 (Int32.not_le.mpr (cast hlt.symm e)))
            clear h87
            refine d_run 2 rfl ?_
            refine d_dr111110 ?_
            have k9 := ih (i + 1) _ (jdF (gA o) (gW o) i j) F1 (nI_1 i) (by omega) (h.fr (dSt_Q (by omega) f1) (fun _ _ => rfl)) k1 (linS_wf hA hw.2.1.2.1 hwT hi) hsp2
            have k8 := td_mo k9 (fun F2 G2 e => e.q2 (dSt_Q (by omega) f1))
            clear k9 ek hlt e hsp2 g6
            (try simp only [b2i0] at *)
            refine cast ?_ k8
            congr 1
            simp only [jdF]
            simp_all
          · have e87 : ¬ sSp (linS (gA o) (gW o) j.1 i) = sSp j.1 := cast hlt (Int32.not_le.mp h87)
            clear h87
            refine d_run 2 rfl ?_
            refine d_ic_ne k98_92 (fun h92 => ?_) (fun h92 => ?_)
            · refine d_run 2 rfl ?_
              refine d_dr111110 ?_
              have k9 := ih (i + 1) _ (jdF (gA o) (gW o) i j) F1 (nI_1 i) (by omega) (h.fr (dSt_Q (by omega) f1) (fun _ _ => rfl)) k1 (linS_wf hA hw.2.1.2.1 hwT hi) hsp2
              have k8 := td_mo k9 (fun F2 G2 e => e.q2 (dSt_Q (by omega) f1))
              clear k9 ek hlt e hsp2 g6
              (try simp only [b2i0] at *)
              refine cast ?_ k8
              congr 1
              simp only [jdF]
              simp_all
            · refine d_run 2 rfl ?_
              refine d_run 2 rfl ?_
              refine d_dr111110 ?_
              have k9 := ih (i + 1) _ (jdF (gA o) (gW o) i j) F1 (nI_1 i) (by omega) (h.fr (dSt_Q (by omega) f1) (fun _ _ => rfl)) k1 (linS_wf hA hw.2.1.2.1 hwT hi) hsp2
              have k8 := td_mo k9 (fun F2 G2 e => e.q2 (dSt_Q (by omega) f1))
              clear k9 ek hlt e hsp2 g6
              (try simp only [b2i0] at *)
              refine cast ?_ k8
              congr 1
              simp only [jdF]
              simp_all
theorem a_judged (h : CInv F G b o) (hw : WF o) (hd : 100 ≤ d) : Td E d 98 0 [some (vr 1 0), some (vi u), none, none, none, none] [] x F G b (some (vi (q_judged o u))) (CPost b (o) F G) := by
  have hL := h.2.1
  have hA := hw.1
  have hS := h.2.2.2.1.1
  have hwS := hw.2.1.1
  have hP6 := hA.2.1
  have hS5 := hA.1
  by_cases hu : isW2 u 0 2 = true
  · have h0 : 0 ≤ u := by simp only [isW2, Bool.and_eq_true, decide_eq_true_eq] at hu; exact hu.1
    have h2 : u ≤ 2 := by simp only [isW2, Bool.and_eq_true, decide_eq_true_eq] at hu; exact hu.2
    rw [show q_judged o u = _ by simp only [q_judged]; rw [if_pos hu]]
    refine d_run 1 rfl ?_
    refine d_if_lt k98_1 (fun h1 => ?_) (fun h1 => ?_)
    · exact absurd h1 (Int32.not_lt.mpr h0)
    · refine d_run 2 rfl ?_
      refine d_ic_le k98_6 (fun h6 => ?_) (fun h6 => ?_)
      · refine d_run 5 rfl ?_
        refine d_gR k98_17 (by first | assumption | exact Nat.le_of_ble_eq_true rfl | omega) ⟨rfl, rfl, rfl⟩ rfl ?_
        refine d_run 1 rfl ?_
        refine d_gR k98_21 (by first | assumption | exact Nat.le_of_ble_eq_true rfl | omega) ⟨rfl, rfl, rfl⟩ (Rs_land _) ?_
        refine d_call 2 k98_24 (by omega) (Nat.le_of_ble_eq_true rfl) rfl (Nat.le_of_ble_eq_true rfl) (Nat.le_of_ble_eq_true rfl) (recv_ok rfl (by first | assumption | exact Nat.le_of_ble_eq_true rfl | omega | exact Nat.lt_of_lt_of_le (m := 27) (by omega) (Nat.le_of_ble_eq_true rfl))) rfl (a_begS (n := 21) (by omega) (lx2 b) hL hA (by omega)) rfl ?_
        rintro F1 G1 ⟨rfl, k1, f1⟩
        refine d_run 2 rfl ?_
        exact td_mo (l_judged hw hd hu (gW o).1 0 _ (begA (gA o), -1, -1) F1 rfl (by omega) (h.fr (dSt_Q (by omega) f1) (fun _ _ => rfl)) k1 (wfS_beg hA) ⟨0, by omega, rfl⟩) (fun F2 G2 e => e.q2 (dSt_Q (by omega) f1))
      · exact absurd h2 h6
  · have h0 : ¬ (0 ≤ u ∧ u ≤ 2) := by simpa [isW2] using hu
    rw [show q_judged o u = -2 by simp only [q_judged]; rw [if_neg hu]]
    refine d_run 1 rfl ?_
    refine d_if_lt k98_1 (fun h1 => ?_) (fun h1 => ?_)
    · refine d_run 1 rfl ?_
      refine d_ir k98_11 rfl (by rfl) ?_
      exact CPost.q h FrD.rf
    · refine d_run 2 rfl ?_
      refine d_ic_le k98_6 (fun h6 => ?_) (fun h6 => ?_)
      · exact absurd ⟨Int32.not_lt.mp h1, h6⟩ h0
      · refine d_run 1 rfl ?_
        refine d_ir k98_11 rfl (by rfl) ?_
        exact CPost.q h FrD.rf
end P5
