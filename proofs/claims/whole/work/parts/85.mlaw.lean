/-! THE REFERENCE READS A LAW: its steps -/
def d53 (k : Nat) : Bool := decide (k = 40) || (decide (52 ≤ k) && decide (k ≤ 54))
/-- what reading a law may change -/
def MFw (F : FT) (G : GT) (F2 : FT) (G2 : GT) : Prop := (∀ i, (i ≠ 4 ∧ i ≠ 5 ∧ i ≠ 6 ∧ i ≠ 8 ∧ i ≠ 9 ∧ i ≠ 21) → F2 40 0 i = F 40 0 i) ∧ FrK d53 F F2 ∧ (∀ i, i < 1000 → F2 52 0 i = F 52 0 i) ∧ (∀ k, k ≠ 40 → G2 k = G k) ∧ ∀ j, j ≠ 7 → G2 40 0 j = G 40 0 j
theorem MFw.rf {F : FT} {G : GT} : MFw F G F G := ⟨fun _ _ => rfl, FrK.rf, fun _ _ => rfl, fun _ _ => rfl, fun _ _ => rfl⟩
theorem MFw.tr {F F1 F2 : FT} {G G1 G2 : GT} (h : MFw F G F1 G1) (h2 : MFw F1 G1 F2 G2) : MFw F G F2 G2 := ⟨fun i a => (h2.1 i a).trans (h.1 i a), h.2.1.tr h2.2.1, fun i a => (h2.2.2.1 i a).trans (h.2.2.1 i a), fun k a => (h2.2.2.2.1 k a).trans (h.2.2.2.1 k a), fun k a => (h2.2.2.2.2 k a).trans (h.2.2.2.2 k a)⟩
theorem MFw.u {F F1 : FT} {G G1 : GT} {k i : Nat} {v : Int32} (h : MFw F G F1 G1) (hi : (k = 40 ∧ (i = 9 ∨ i = 21)) ∨ (k = 52 ∧ 1000 ≤ i) ∨ k = 53 ∨ k = 54) : MFw F G (uF F1 k 0 i v) G1 := h.tr ⟨fun j a => uF_q (by omega), FrK.rf.u (by rcases hi with ⟨rfl, _⟩ | ⟨rfl, _⟩ | rfl | rfl <;> rfl), fun j a => uF_q (by omega), fun _ _ => rfl, fun _ _ => rfl⟩
theorem d53_40 {F F2 : FT} (h : FrK d40 F F2) : FrK d53 F F2 := h.mo (fun k e => by
  simp only [d53, Bool.or_eq_false_iff] at e
  exact e.1)
theorem MNx.w {F F2 : FT} {G G2 : GT} (h : MNx F G F2 G2) : MFw F G F2 G2 := ⟨fun i a => h.1 i a.1 a.2.1 a.2.2.1 a.2.2.2.1, d53_40 h.2.1, fun i _ => by rw [h.2.1 52 rfl], h.2.2.1, h.2.2.2⟩
/-- codes so far -/
def MLp (F : FT) (fc : List Int32) : Prop := F 40 0 21 = nI (1000 + fc.length) ∧ ∀ i (hi : i < fc.length), F 52 0 (1000 + i) = fc[i]
theorem MLp.fr {F F2 : FT} {fc : List Int32} (h : MLp F fc) (h1 : F2 40 0 21 = F 40 0 21) (h2 : F2 52 0 = F 52 0) : MLp F2 fc := by
  unfold MLp
  rw [h1, h2]
  exact h
theorem MLp.nx {F F2 : FT} {G G2 : GT} {fc : List Int32} (h : MLp F fc) (n : MNx F G F2 G2) : MLp F2 fc := h.fr (n.1 21 (by decide) (by decide) (by decide) (by decide)) (by rw [n.2.1 52 rfl])
theorem MLp.ad {F : FT} {fc : List Int32} {v : Int32} (h : MLp F fc) : MLp (uF (uF F 52 0 (1000 + fc.length) v) 40 0 21 (nI (1000 + fc.length + 1))) (fc ++ [v]) := by
  refine ⟨by rw [uF_e, List.length_append]; rfl, fun i hi => ?_⟩
  rw [uF_q (by omega)]
  by_cases e : i = fc.length
  · subst e
    rw [uF_e, List.getElem_append_right (Nat.le_refl _)]
    simp
  · rw [uF_q (by omega)]
    rw [List.length_append] at hi
    have hi2 : i < fc.length := by simp at hi; omega
    rw [List.getElem_append_left hi2]
    exact h.2 i hi2
/-- what is open -/
def MSk (F : FT) : Bool → List (Bool × Bool) → Prop
  | c, [] => F 54 0 0 = b2i c
  | c, (k, c1) :: st => F 54 0 (st.length + 1) = b2i c ∧ F 53 0 (st.length + 1) = (if k = true then 1 else 2) ∧ MSk F c1 st
theorem MSk.c {F : FT} {c : Bool} {st : List (Bool × Bool)} (h : MSk F c st) : F 54 0 st.length = b2i c := by
  cases st with
  | nil => exact h
  | cons a st => exact h.1
theorem MSk.fr {F F2 : FT} : ∀ {c : Bool} {st : List (Bool × Bool)}, MSk F c st → (∀ i, i ≤ st.length → F2 53 0 i = F 53 0 i) → (∀ i, i ≤ st.length → F2 54 0 i = F 54 0 i) → MSk F2 c st
  | _, [], h, _, h2 => (h2 0 (Nat.le_refl _)).trans h
  | _, (_, _) :: st, h, h1, h2 => ⟨(h2 _ (Nat.le_refl _)).trans h.1, (h1 _ (Nat.le_refl _)).trans h.2.1, h.2.2.fr (fun i a => h1 i (Nat.le_succ_of_le a)) (fun i a => h2 i (Nat.le_succ_of_le a))⟩
theorem MSk.k {F : FT} {c : Bool} {st : List (Bool × Bool)} {k i : Nat} {v : Int32} (h : MSk F c st) (hk : k ≠ 53 ∧ k ≠ 54) : MSk (uF F k 0 i v) c st := h.fr (fun j _ => uF_q (by omega)) (fun j _ => uF_q (by omega))
theorem MSk.nx {F F2 : FT} {G G2 : GT} {c : Bool} {st : List (Bool × Bool)} (h : MSk F c st) (n : MNx F G F2 G2) : MSk F2 c st := h.fr (fun j _ => by rw [n.2.1 53 rfl]) (fun j _ => by rw [n.2.1 54 rfl])
theorem MSk.sc {F : FT} {c c2 : Bool} {st : List (Bool × Bool)} (h : MSk F c st) : MSk (uF F 54 0 st.length (b2i c2)) c2 st := by
  cases st with
  | nil => exact uF_e
  | cons a st =>
    obtain ⟨k, c1⟩ := a
    exact ⟨uF_e, (uF_q (by omega)).trans h.2.1, h.2.2.fr (fun j _ => uF_q (by omega)) (fun j hj => uF_q (by simp only [List.length_cons]; omega))⟩
theorem MSk.pu {F : FT} {c k : Bool} {st : List (Bool × Bool)} {v : Int32} (h : MSk F c st) (hv : v = (if k = true then 1 else 2)) : MSk (uF (uF F 53 0 (st.length + 1) v) 54 0 (st.length + 1) 0) false ((k, c) :: st) := ⟨uF_e, by rw [uF_q (by omega), uF_e, hv], h.fr (fun j hj => by rw [uF_q (by omega), uF_q (by omega)]) (fun j hj => by rw [uF_q (by omega), uF_q (by omega)])⟩
theorem pn_le : ∀ {c : Bool} {st : List (Bool × Bool)}, (pn c st).2.length ≤ st.length
  | _, [] => Nat.le_refl _
  | c, (k, c1) :: st => by
    simp only [pn]
    split
    · exact Nat.le_succ_of_le pn_le
    · exact Nat.le_refl _
theorem MSk.pn {F : FT} : ∀ {c : Bool} {st : List (Bool × Bool)}, MSk F c st → MSk F (pn c st).1 (pn c st).2
  | _, [], h => h
  | c, (k, c1) :: st, h => by
    simp only [Jvm.Pilot.CStrangeWindingLaw_law_r4901_60b9c8.pn]
    split
    · exact h.2.2.pn
    · exact h
def fctI (t : TP) (p : Nat) : Int32 := if isWd t p 16 = true then 1 else if isWd t p 17 = true then 2 else if isWd t p 18 = true then 3 else if isWd t p 19 = true then 4 else 0
theorem wd_K {t : TP} {p n : Nat} (h : isWd t p n = true) : tK t p = 1 := by
  simp only [isWd, Bool.and_eq_true, decide_eq_true_eq] at h
  exact h.1
theorem isPt_f {t : TP} {p : Nat} : isPt t p = (isWd t p 15 || isSg t p 40 || decide (¬ fctI t p = 0) || decide (tK t p = 2)) := by
  have key : decide (¬ vcode t p = -5) = (decide (¬ fctI t p = 0) || decide (tK t p = 2)) := by
    by_cases h2 : tK t p = 2
    · rw [decide_eq_true h2, Bool.or_true, decide_eq_true_eq]
      simp only [vcode]
      rw [if_pos h2]
      have hv := tV_le h2
      intro e
      exact absurd (e ▸ nn_nI (show tV t p ≤ 100000 by omega)) (by decide)
    · rw [decide_eq_false h2, Bool.or_false]
      refine decide_eq_decide.mpr ?_
      unfold vcode fctI
      rw [if_neg h2]
      split
      · decide
      · split
        · decide
        · split
          · decide
          · split <;> decide
  simp only [isPt]
  rw [key]
  simp only [Bool.or_assoc]
theorem vfl_f {t : TP} {p : Nat} (h : isPt t p = true) (h3 : (isWd t p 15 || isSg t p 40) = false) : vflat t p = (if fctI t p = 0 then nI (100 + tV t p) else fctI t p) ∧ (fctI t p = 0 → tK t p = 2) := by
  rw [isPt_f, h3, Bool.false_or, Bool.or_eq_true, decide_eq_true_eq, decide_eq_true_eq] at h
  by_cases h2 : tK t p = 2
  · have hf : ∀ n, isWd t p n = false := fun n => by
      simp only [isWd]
      rw [decide_eq_false (show ¬ tK t p = 1 by omega), Bool.false_and]
    refine ⟨?_, fun _ => h2⟩
    simp only [vflat, fctI, hf]
    rw [if_pos h2]
    rfl
  · have h1 : ¬ fctI t p = 0 := h.resolve_right h2
    refine ⟨?_, fun e => absurd e h1⟩
    rw [if_neg h1]
    simp only [vflat]
    rw [if_neg h2]
    simp only [fctI] at h1 ⊢
    split
    · rfl
    · split
      · rfl
      · split
        · rfl
        · split
          · rfl
          · simp_all
theorem fctI_le {t : TP} {p : Nat} : (fctI t p ≤ 0) = (fctI t p = 0) := by
  apply propext
  unfold fctI
  split
  · decide
  · split
    · decide
    · split
      · decide
      · split <;> decide
section TE
variable {E : EV} {d x p n : Nat} {F : FT} {G : GT} {b : Bool} {t : TP} {B : LB} {u v w : Int32}
theorem m_puts {fc : List Int32} (h : MLp F fc) (hl : fc.length < 1000) : Tm E d 139 0 [some (vr 40 0), some (vi v)] [] (cC x) F G (Rs b) none (cC x, uF (uF F 52 0 (1000 + fc.length) v) 40 0 21 (nI (1000 + fc.length + 1)), G, Rs b) := by
  have h1 := h.1
  refine t_run 1 rfl ?_
  refine t_gR k139_1 (by first | assumption | exact Nat.le_of_ble_eq_true rfl | omega) ⟨rfl, rfl, rfl⟩ rfl ?_
  refine t_run 1 rfl ?_
  refine t_gI k139_5 (by first | assumption | exact Nat.le_of_ble_eq_true rfl | omega) ⟨rfl, rfl, Or.inl rfl⟩ ?_
  rw [h1]
  refine t_run 1 rfl ?_
  refine t_is (N := 2000) (j := 1000 + fc.length) k139_9 (by first | assumption | exact Nat.le_of_ble_eq_true rfl | omega) ⟨rfl, rfl⟩ (show 1000 + fc.length < 2000 by omega) rfl ?_
  refine t_run 2 rfl ?_
  refine t_gI k139_12 (by first | assumption | exact Nat.le_of_ble_eq_true rfl | omega) ⟨rfl, rfl, Or.inl rfl⟩ ?_
  rw [uF_q (by omega), h1]
  refine t_run 2 rfl ?_
  rw [show ibop 0 (nI (1000 + fc.length)) 1 = nI (1000 + fc.length + 1) from nI_1 _]
  refine t_pI k139_17 (by first | assumption | exact Nat.le_of_ble_eq_true rfl | omega) ⟨rfl, rfl⟩ ?_
  exact t_ret k139_20
theorem m_fact (h : MRd F G t p) : Tm E d 140 0 [some (vr 40 0)] [] (cC x) F G (Rs b) (some (vi (fctI t p))) (cC x, F, G, Rs b) := by
  have hk4 := tK_4 (t := t) (p := p)
  obtain ⟨a0, a1, a2, a3, a4, a5, a6, a7, a8, a9, a10, a11, a12, a13, a14, a15, a16, a17, a18, a19, a20, a21, a22, a23⟩ := kw27
  refine t_run 1 rfl ?_
  refine t_gI k140_1 (by first | assumption | exact Nat.le_of_ble_eq_true rfl | omega) ⟨rfl, rfl, Or.inl rfl⟩ ?_
  rw [h.2.2.2.1]
  refine t_run 1 rfl ?_
  refine t_ic_eq k140_5 (fun h5 => ?_) (fun h5 => ?_)
  · have e5 : tK t p = 1 := nI_inj (b := 1) h5 (by omega) (by omega)
    have hG := h.2.2.2.2.1 e5
    refine t_run 1 rfl ?_
    refine t_gL k140_11 (by first | assumption | exact Nat.le_of_ble_eq_true rfl | omega) ⟨rfl, rfl, rfl⟩ ?_
    rw [hG]
    refine t_run 2 rfl ?_
    refine t_if_ne k140_18 (fun h18 => ?_) (fun h18 => ?_)
    · have e18 : isWd t p 16 = false := Bool.eq_false_iff.mpr (fun e => h18 ((lg_cmp_eq _ _).mpr ((w27_w e5 (by decide) (by decide) (by decide) a20).mpr e)))
      refine t_run 1 rfl ?_
      refine t_gL k140_24 (by first | assumption | exact Nat.le_of_ble_eq_true rfl | omega) ⟨rfl, rfl, rfl⟩ ?_
      rw [hG]
      refine t_run 2 rfl ?_
      refine t_if_ne k140_31 (fun h31 => ?_) (fun h31 => ?_)
      · have e31 : isWd t p 17 = false := Bool.eq_false_iff.mpr (fun e => h31 ((lg_cmp_eq _ _).mpr ((w27_w e5 (by decide) (by decide) (by decide) a21).mpr e)))
        refine t_run 1 rfl ?_
        refine t_gL k140_37 (by first | assumption | exact Nat.le_of_ble_eq_true rfl | omega) ⟨rfl, rfl, rfl⟩ ?_
        rw [hG]
        refine t_run 2 rfl ?_
        refine t_if_ne k140_44 (fun h44 => ?_) (fun h44 => ?_)
        · have e44 : isWd t p 18 = false := Bool.eq_false_iff.mpr (fun e => h44 ((lg_cmp_eq _ _).mpr ((w27_w e5 (by decide) (by decide) (by decide) a22).mpr e)))
          refine t_run 1 rfl ?_
          refine t_gL k140_52 (by first | assumption | exact Nat.le_of_ble_eq_true rfl | omega) ⟨rfl, rfl, rfl⟩ ?_
          rw [hG]
          refine t_run 2 rfl ?_
          refine t_if_ne k140_59 (fun h59 => ?_) (fun h59 => ?_)
          · have e59 : isWd t p 19 = false := Bool.eq_false_iff.mpr (fun e => h59 ((lg_cmp_eq _ _).mpr ((w27_w e5 (by decide) (by decide) (by decide) a23).mpr e)))
            refine t_run 1 rfl ?_
            exact t_ir k140_67 rfl (by simp [fctI, *])
          · have e59 : isWd t p 19 = true := (w27_w e5 (by decide) (by decide) (by decide) a23).mp ((lg_cmp_eq _ _).mp h59)
            refine t_run 2 rfl ?_
            exact t_ir k140_67 rfl (by simp [fctI, *])
        · have e44 : isWd t p 18 = true := (w27_w e5 (by decide) (by decide) (by decide) a22).mp ((lg_cmp_eq _ _).mp h44)
          refine t_run 2 rfl ?_
          exact t_ir k140_67 rfl (by simp [fctI, *])
      · have e31 : isWd t p 17 = true := (w27_w e5 (by decide) (by decide) (by decide) a21).mp ((lg_cmp_eq _ _).mp h31)
        refine t_run 1 rfl ?_
        exact t_ir k140_35 rfl (by simp [fctI, *])
    · have e18 : isWd t p 16 = true := (w27_w e5 (by decide) (by decide) (by decide) a20).mp ((lg_cmp_eq _ _).mp h18)
      refine t_run 1 rfl ?_
      exact t_ir k140_22 rfl (by simp [fctI, *])
  · have e5 : ¬ tK t p = 1 := fun e => h5 (by rw [e]; rfl)
    have hf : ∀ n, isWd t p n = false := fun n => by
      simp only [isWd]
      rw [decide_eq_false e5, Bool.false_and]
    rw [show fctI t p = 0 by simp [fctI, hf]]
    refine t_run 1 rfl ?_
    exact t_ir k140_9 rfl (by rfl)
theorem rd_pt {a3 a4 a5 : Option PV} {r : Option PV} {Q : FT → GT → Prop} (hd : 5 ≤ d) (h : MRd F G t p) (kk : isPt t p = true → Td E d 141 65 [some (vr 40 0), some (vi u), some (vi 1), some (vi (fctI t p)), some (vi (b2i (isWd t p 15))), some (vi (b2i (isSg t p 40)))] [] x F G b r Q) (k0 : isPt t p = false → Td E d 141 59 [some (vr 40 0), some (vi u), some (vi 1), some (vi (fctI t p)), some (vi (b2i (isWd t p 15))), some (vi (b2i (isSg t p 40)))] [] x F G b r Q) : Td E d 141 11 [some (vr 40 0), some (vi u), some (vi 1), a3, a4, a5] [] x F G b r Q := by
  have hk4 := tK_4 (t := t) (p := p)
  obtain ⟨a100, a101, a102, a103, a104, a105, a106, a107, a108, a109, a110, a111, a112, a113, a114, a115, a116, a117, a118, a119, a120, a121, a122, a123⟩ := kw27
  refine d_run 1 rfl ?_
  refine d_if_eq k141_12 (fun h12 => ?_) (fun h12 => ?_)
  · exact absurd h12 (by decide)
  · refine d_run 1 rfl ?_
    refine d_callT 1 k141_16 (by omega) (Nat.le_of_ble_eq_true rfl) rfl (Nat.le_of_ble_eq_true rfl) (Nat.le_of_ble_eq_true rfl) (recv_ok rfl (by first | assumption | exact Nat.le_of_ble_eq_true rfl | omega)) rfl (m_fact h) rfl ?_
    refine d_run 3 rfl ?_
    refine d_callT 2 k141_24 (by omega) (Nat.le_of_ble_eq_true rfl) rfl (Nat.le_of_ble_eq_true rfl) (Nat.le_of_ble_eq_true rfl) (recv_ok rfl (by first | assumption | exact Nat.le_of_ble_eq_true rfl | omega)) rfl (m_isWd (n := 15) a117 (by decide) (by decide) (by decide) h) rfl ?_
    refine d_run 3 rfl ?_
    refine d_callT 2 k141_32 (by omega) (Nat.le_of_ble_eq_true rfl) rfl (Nat.le_of_ble_eq_true rfl) (Nat.le_of_ble_eq_true rfl) (recv_ok rfl (by first | assumption | exact Nat.le_of_ble_eq_true rfl | omega)) rfl (m_isSg (c := 40) (by decide) h) rfl ?_
    refine d_run 2 rfl ?_
    refine d_if_ne k141_38 (fun h38 => ?_) (fun h38 => ?_)
    · have e38 : ¬ fctI t p = 0 := by simpa using h38
      exact kk (by rw [isPt_f]; simp [*])
    · have e38 : fctI t p = 0 := by simpa using h38
      refine d_run 1 rfl ?_
      refine d_if_ne k141_43 (fun h43 => ?_) (fun h43 => ?_)
      · rw [b2i0, Bool.not_eq_false] at h43
        exact kk (by rw [isPt_f]; simp [*])
      · rw [b2i0] at h43
        refine d_run 1 rfl ?_
        refine d_if_ne k141_48 (fun h48 => ?_) (fun h48 => ?_)
        · rw [b2i0, Bool.not_eq_false] at h48
          exact kk (by rw [isPt_f]; simp [*])
        · rw [b2i0] at h48
          refine d_run 1 rfl ?_
          refine d_gI k141_52 (by first | assumption | exact Nat.le_of_ble_eq_true rfl | omega) ⟨rfl, rfl, Or.inl rfl⟩ ?_
          rw [h.2.2.2.1]
          refine d_run 1 rfl ?_
          refine d_ic_eq k141_56 (fun h56 => ?_) (fun h56 => ?_)
          · have e56 : tK t p = 2 := nI_inj (b := 2) h56 (by omega) (by omega)
            exact kk (by rw [isPt_f]; simp [*])
          · have e56 : ¬ tK t p = 2 := fun e => h56 (by rw [e]; rfl)
            exact k0 (by rw [isPt_f]; simp [*])
theorem le0_z {a : Nat} (h : nI a ≤ 0) (ha : a ≤ 100) : a = 0 := by
  have := (nI_leI (a := a) (b := 0) (by omega) (by omega)).mp h
  omega
theorem z_le0 {a : Nat} (h : ¬ nI a ≤ 0) (ha : a ≤ 100) : 0 < a := by
  apply Decidable.byContradiction
  intro e
  exact h ((nI_leI (a := a) (b := 0) (by omega) (by omega)).mpr (by omega))
theorem rd_pop152 {a2 a3 a4 a5 : Option PV} {r : Option PV} {Q : FT → GT → Prop} : ∀ (st : List (Bool × Bool)) (c : Bool), st.length ≤ 5 → MSk F c st → Td E d 141 172 [some (vr 40 0), some (vi (nI (pn c st).2.length)), a2, a3, a4, a5] [] x F G b r Q → Td E d 141 152 [some (vr 40 0), some (vi (nI st.length)), a2, a3, a4, a5] [] x F G b r Q
  | [], c, hs, h, kk => by
    refine d_run 1 rfl ?_
    refine d_if_le k141_153 (fun h153 => ?_) (fun h153 => ?_)
    · exact kk
    · exact absurd (z_le0 (a := 0) h153 (by decide)) (by decide)
  | (kd, c1) :: st, c, hs, h, kk => by
    have hs : st.length + 1 ≤ 5 := hs
    show Td E d 141 152 [some (vr 40 0), some (vi (nI (st.length + 1))), a2, a3, a4, a5] [] x F G b r Q
    refine d_run 1 rfl ?_
    refine d_if_le k141_153 (fun h153 => ?_) (fun h153 => ?_)
    · exact absurd (le0_z h153 (by omega)) (by omega)
    · refine d_run 1 rfl ?_
      refine d_gR k141_157 (by first | assumption | exact Nat.le_of_ble_eq_true rfl | omega) ⟨rfl, rfl, rfl⟩ rfl ?_
      refine d_run 1 rfl ?_
      refine d_ia (N := 7) (j := st.length + 1) k141_161 (by decide) (by first | assumption | exact Nat.le_of_ble_eq_true rfl | omega) ⟨⟨rfl, rfl⟩, rfl, rfl⟩ (show st.length + 1 < 7 by omega) rfl ?_
      rw [h.2.1]
      refine d_run 1 rfl ?_
      refine d_ic_ne k141_163 (fun h163 => ?_) (fun h163 => ?_)
      · have ek : kd = false := by
          cases kd with
          | true => exact absurd rfl h163
          | false => rfl
        subst ek
        exact kk
      · have ek : kd = true := by
          cases kd with
          | false => exact absurd h163 (by decide)
          | true => rfl
        subst ek
        refine d_run 2 rfl ?_
        rw [show nI (st.length + 1) + -1 = nI st.length from nI_p1 (by omega)]
        exact rd_pop152 st c1 (by omega) h.2.2 kk
theorem rd_pop379 {a2 a3 a4 a5 : Option PV} {r : Option PV} {Q : FT → GT → Prop} : ∀ (st : List (Bool × Bool)) (c : Bool), st.length ≤ 5 → MSk F c st → Td E d 141 424 [some (vr 40 0), some (vi (nI (pn c st).2.length)), a2, a3, a4, a5] [] x F G b r Q → Td E d 141 379 [some (vr 40 0), some (vi (nI st.length)), a2, a3, a4, a5] [] x F G b r Q
  | [], c, hs, h, kk => by
    refine d_run 1 rfl ?_
    refine d_if_le k141_380 (fun h380 => ?_) (fun h380 => ?_)
    · exact kk
    · exact absurd (z_le0 (a := 0) h380 (by decide)) (by decide)
  | (kd, c1) :: st, c, hs, h, kk => by
    have hs : st.length + 1 ≤ 5 := hs
    show Td E d 141 379 [some (vr 40 0), some (vi (nI (st.length + 1))), a2, a3, a4, a5] [] x F G b r Q
    refine d_run 1 rfl ?_
    refine d_if_le k141_380 (fun h380 => ?_) (fun h380 => ?_)
    · exact absurd (le0_z h380 (by omega)) (by omega)
    · refine d_run 1 rfl ?_
      refine d_gR k141_384 (by first | assumption | exact Nat.le_of_ble_eq_true rfl | omega) ⟨rfl, rfl, rfl⟩ rfl ?_
      refine d_run 1 rfl ?_
      refine d_ia (N := 7) (j := st.length + 1) k141_388 (by decide) (by first | assumption | exact Nat.le_of_ble_eq_true rfl | omega) ⟨⟨rfl, rfl⟩, rfl, rfl⟩ (show st.length + 1 < 7 by omega) rfl ?_
      rw [h.2.1]
      refine d_run 1 rfl ?_
      refine d_ic_ne k141_390 (fun h390 => ?_) (fun h390 => ?_)
      · have ek : kd = false := by
          cases kd with
          | true => exact absurd rfl h390
          | false => rfl
        subst ek
        exact kk
      · have ek : kd = true := by
          cases kd with
          | false => exact absurd h390 (by decide)
          | true => rfl
        subst ek
        refine d_run 2 rfl ?_
        rw [show nI (st.length + 1) + -1 = nI st.length from nI_p1 (by omega)]
        exact rd_pop379 st c1 (by omega) h.2.2 kk
end TE
