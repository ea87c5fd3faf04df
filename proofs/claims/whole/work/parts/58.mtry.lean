/-! TRIALS IN THE REFERENCE: the state laid aside; FRESH, STOPS, AUGUST, JUDGED -/
def MT (F0 F : FT) (P : Nat) (s : ST) : Prop := rowS (F 70 0) P s ∧ (∀ i, i < 50 → F 71 0 i = F0 70 0 i) ∧ (∀ i, i ≠ 50 → F 40 0 i = F0 40 0 i) ∧ FrK dMk F0 F ∧ F 74 = F0 74
theorem MT.ml {F0 F : FT} {P : Nat} {s : ST} {A : LA} (h : MT F0 F P s) (hL : ML F0 A) : ML F A := hL.fr (fun k a b => h.2.2.2.1 k (dMk_no (by omega)))
theorem d70_k {F F2 : FT} (h : FrK (fun k => decide (k = 70)) F F2) : FrK dMk F F2 := h.mo (fun k e => by
  simp only [dMk, Bool.or_eq_false_iff] at e
  exact e.1.1.1.1.1.2)
theorem d71_k {F F2 : FT} (h : FrK (fun k => decide (k = 71)) F F2) : FrK dMk F F2 := h.mo (fun k e => by
  simp only [dMk, Bool.or_eq_false_iff] at e
  exact e.1.1.2)
theorem MT.fin {F0 F F2 : FT} {G0 G2 : GT} {o : SG} {P : Nat} {s : ST} (h : MInv F0 G0 o) (hw : WF o) (hT : MT F0 F P s) (q1 : ∀ j, j < 50 → F2 70 0 (0 + j) = F 71 0 (0 + j)) (q3 : FrK (fun k => decide (k = 70)) F F2) (hG : ∀ k, k ≠ 40 → G2 k = G0 k) : MPost o F0 G0 F2 G2 :=
  MPost.q h hw (hT.2.2.2.1.tr (d70_k q3)) (by rw [q3 40 rfl]; exact hT.2.2.1 1 (by decide)) (by rw [q3 40 rfl]; exact hT.2.2.1 49 (by decide)) (by rw [q3 74 rfl]; exact hT.2.2.2.2) (fun i hi => by have := q1 i hi; rw [Nat.zero_add] at this; rw [this]; exact hT.2.1 i hi) hG
theorem MT.beg {F F1 : FT} {P : Nat} {s : ST} (hS : rowS (F 70 0) P s) (q1 : ∀ j, j < 50 → F1 71 0 (0 + j) = F 70 0 (0 + j)) (q3 : FrK (fun k => decide (k = 71)) F F1) : MT F F1 P s := by
  refine ⟨?_, fun i hi => ?_, fun i _ => ?_, d71_k q3, q3 74 rfl⟩
  · rw [q3 70 rfl]; exact hS
  · have := q1 i hi
    rwa [Nat.zero_add] at this
  · rw [q3 40 rfl]
theorem MT.st {F0 F F2 : FT} {P : Nat} {s t : ST} (hT : MT F0 F P s) (m : MQp F P s t F2) : MT F0 F2 P t := by
  refine ⟨m.1, fun i hi => ?_, fun i hi => ?_, hT.2.2.2.1.tr (dMH_k m.2.2.2), ?_⟩
  · rw [m.2.2.2 71 rfl]; exact hT.2.1 i hi
  · rw [m.2.2.1 i hi]; exact hT.2.2.1 i hi
  · rw [m.2.2.2 74 rfl]; exact hT.2.2.2.2
theorem MT.u50 {F0 F : FT} {P : Nat} {s : ST} {v : Int32} (hT : MT F0 F P s) : MT F0 (uF F 40 0 50 v) P s := by
  refine ⟨?_, fun i hi => ?_, fun i hi => ?_, hT.2.2.2.1.u rfl, ?_⟩
  · rw [uF_k (by decide)]; exact hT.1
  · rw [uF_k (by decide)]; exact hT.2.1 i hi
  · rw [uF_r, pk_un hi]; exact hT.2.2.1 i hi
  · rw [uF_k (by decide)]; exact hT.2.2.2.2
section M11
variable {E : EV} {d x : Nat} {F : FT} {G : GT} {b : Bool} {o : SG} {u v w : Int32} {A : LA} {s : ST}
theorem l_fr1 {R : Option PV} {QQ : FT → GT → Prop} {F0 : FT} : ∀ (r i : Nat) (iv : Int32) (F : FT), iv = nI i → i + r = 50 → (∀ j, j < i → F 70 0 j = 0) → FrK (fun k => decide (k = 70)) F0 F → (∀ F2, (∀ j, j < 50 → F2 70 0 j = 0) → FrK (fun k => decide (k = 70)) F0 F2 → Td E d 171 21 [some (vr 40 0), none] [] x F2 G b R (QQ)) → Td E d 171 2 [some (vr 40 0), some (vi iv)] [] x F G b R (QQ) := by
  intro r
  induction r with
  | zero =>
    intro i iv F hiv hir q1 q3 kk
    subst hiv
    refine d_run 2 rfl ?_
    refine d_ic_ge k171_5 (fun h5 => ?_) (fun h5 => ?_)
    · refine d_dr10 ?_
      exact kk F (fun j hj => q1 j (by omega)) q3
    · exact absurd (lt_nI h5 (b := 50) rfl (by omega) (by omega)) (by omega)
  | succ r ih =>
    intro i iv F hiv hir q1 q3 kk
    subst hiv
    refine d_run 2 rfl ?_
    refine d_ic_ge k171_5 (fun h5 => ?_) (fun h5 => ?_)
    · exact absurd (ge_nI h5 (b := 50) rfl (by omega) (by omega)) (by omega)
    · refine d_run 1 rfl ?_
      refine d_gR k171_9 (by first | assumption | exact Nat.le_of_ble_eq_true rfl | omega) ⟨rfl, rfl, rfl⟩ rfl ?_
      refine d_run 2 rfl ?_
      refine d_is (N := 50) k171_14 (by first | assumption | exact Nat.le_of_ble_eq_true rfl | omega) ⟨rfl, rfl⟩ (show i < 50 by omega) rfl ?_
      refine d_run 2 rfl ?_
      refine ih (i + 1) _ _ (nI_1 i) (by omega) (fun j hj => ?_) (q3.u rfl) kk
      rw [uF_r]
      by_cases e : j = i
      · subst e
        exact pk_us
      · rw [pk_un e]
        exact q1 j (by omega)
theorem l_fr2 {F0 : FT} (hL : ML F0 A) (hA : wfL A) : ∀ (r i : Nat) (iv : Int32) (F : FT), iv = nI i → i + r = lP A → ((∀ j, j < i → F 70 0 (2 + j) = lHm A j) ∧ (∀ j, j < i → F 70 0 (8 + j) = lLf A j) ∧ (∀ j, i ≤ j → j < 6 → F 70 0 (8 + j) = 0) ∧ F 70 0 0 = 0 ∧ F 70 0 1 = 0 ∧ ∀ j, j < 36 → F 70 0 (14 + j) = 0) → FrK (fun k => decide (k = 70)) F0 F → Td E d 171 23 [some (vr 40 0), some (vi iv)] [] x F G b none (fun F2 G2 => G2 = G ∧ rowS (F2 70 0) (lP A) (begA A) ∧ FrK (fun k => decide (k = 70)) F0 F2) := by
  intro r
  induction r with
  | zero =>
    intro i iv F hiv hir q1 q3
    subst hiv
    have hP6 := hA.2.1
    refine d_run 2 rfl ?_
    refine d_gR k171_25 (by first | assumption | exact Nat.le_of_ble_eq_true rfl | omega) ⟨rfl, rfl, rfl⟩ rfl ?_
    refine d_run 1 rfl ?_
    refine d_ia (N := 8) (j := 1) k171_29 (by decide) (by first | assumption | exact Nat.le_of_ble_eq_true rfl | omega) ⟨⟨rfl, rfl⟩, rfl, rfl⟩ (by decide) rfl ?_
    refine d_ic_ge k171_30 (fun h30 => ?_) (fun h30 => ?_)
    · refine d_ret k171_68 ?_
      obtain ⟨a1, a2, a3, a4, a5, a6⟩ := q1
      exact ⟨rfl, ⟨a4, a5, fun p hp => a1 p (by omega), fun p hp => a2 p (by omega), fun p h1 h2 => a3 p (by omega) h2, a6⟩, q3⟩
    · exact absurd (lt_nI h30 (b := lP A) (by rw [q3 42 rfl]; exact hL.2.1) (by omega) (by omega)) (by omega)
  | succ r ih =>
    intro i iv F hiv hir q1 q3
    subst hiv
    have hP6 := hA.2.1
    refine d_run 2 rfl ?_
    refine d_gR k171_25 (by first | assumption | exact Nat.le_of_ble_eq_true rfl | omega) ⟨rfl, rfl, rfl⟩ rfl ?_
    refine d_run 1 rfl ?_
    refine d_ia (N := 8) (j := 1) k171_29 (by decide) (by first | assumption | exact Nat.le_of_ble_eq_true rfl | omega) ⟨⟨rfl, rfl⟩, rfl, rfl⟩ (by decide) rfl ?_
    refine d_ic_ge k171_30 (fun h30 => ?_) (fun h30 => ?_)
    · exact absurd (ge_nI h30 (b := lP A) (by rw [q3 42 rfl]; exact hL.2.1) (by omega) (by omega)) (by omega)
    · refine d_run 1 rfl ?_
      refine d_gR k171_34 (by first | assumption | exact Nat.le_of_ble_eq_true rfl | omega) ⟨rfl, rfl, rfl⟩ rfl ?_
      refine d_run 4 rfl ?_
      refine d_gR k171_41 (by first | assumption | exact Nat.le_of_ble_eq_true rfl | omega) ⟨rfl, rfl, rfl⟩ rfl ?_
      refine d_run 1 rfl ?_
      refine d_ia (N := 12) k171_45 (by decide) (by first | assumption | exact Nat.le_of_ble_eq_true rfl | omega) ⟨⟨rfl, rfl⟩, rfl, rfl⟩ (by first | assumption | omega) rfl ?_
      rw [q3 47 rfl, hL.2.2.2.2.2.2.1 i (by omega)]
      refine d_is (N := 50) (j := 2 + i) k171_46 (by first | assumption | exact Nat.le_of_ble_eq_true rfl | omega) ⟨rfl, rfl⟩ (show 2 + i < 50 by omega) (nI_add 2 _) ?_
      refine d_run 1 rfl ?_
      refine d_gR k171_48 (by first | assumption | exact Nat.le_of_ble_eq_true rfl | omega) ⟨rfl, rfl, rfl⟩ rfl ?_
      refine d_run 4 rfl ?_
      refine d_gR k171_56 (by first | assumption | exact Nat.le_of_ble_eq_true rfl | omega) ⟨rfl, rfl, rfl⟩ rfl ?_
      refine d_run 1 rfl ?_
      refine d_ia (N := 12) k171_60 (by decide) (by first | assumption | exact Nat.le_of_ble_eq_true rfl | omega) ⟨⟨rfl, rfl⟩, rfl, rfl⟩ (by first | assumption | omega) rfl ?_
      rw [uF_k (by decide), q3 48 rfl, hL.2.2.2.2.2.2.2.1 i (by omega)]
      refine d_is (N := 50) (j := 8 + i) k171_61 (by first | assumption | exact Nat.le_of_ble_eq_true rfl | omega) ⟨rfl, rfl⟩ (show 8 + i < 50 by omega) (nI_add 8 _) ?_
      refine d_run 2 rfl ?_
      refine ih (i + 1) _ _ (nI_1 i) (by omega) ?_ ((q3.u rfl).u rfl)
      obtain ⟨a1, a2, a3, a4, a5, a6⟩ := q1
      refine ⟨fun j hj => ?_, fun j hj => ?_, fun j h1 h2 => ?_, ?_, ?_, fun j hj => ?_⟩
      · rw [uF_r, pk_un (by omega), uF_r]
        by_cases e : j = i
        · subst e
          exact pk_us
        · rw [pk_un (by omega)]
          exact a1 j (by omega)
      · rw [uF_r]
        by_cases e : j = i
        · subst e
          exact pk_us
        · rw [pk_un (by omega), uF_r, pk_un (by omega)]
          exact a2 j (by omega)
      · rw [uF_r, pk_un (by omega), uF_r, pk_un (by omega)]
        exact a3 j (by omega) h2
      · rw [uF_r, pk_un (by omega), uF_r, pk_un (by omega)]
        exact a4
      · rw [uF_r, pk_un (by omega), uF_r, pk_un (by omega)]
        exact a5
      · rw [uF_r, pk_un (by omega), uF_r, pk_un (by omega)]
        exact a6 j hj
theorem b_fresh (hL : ML F A) (hA : wfL A) : Td E d 171 0 [some (vr 40 0), none] [] x F G b none (fun F2 G2 => G2 = G ∧ rowS (F2 70 0) (lP A) (begA A) ∧ FrK (fun k => decide (k = 70)) F F2) := by
  refine d_run 2 rfl ?_
  refine l_fr1 (F0 := F) 50 0 _ F rfl (by omega) (fun j hj => absurd hj (by omega)) FrK.rf ?_
  intro F2 q1 q3
  refine d_run 2 rfl ?_
  refine l_fr2 (F0 := F) hL hA (lP A) 0 _ F2 rfl (by omega) ⟨fun j hj => absurd hj (by omega), fun j hj => absurd hj (by omega), fun j _ h2 => q1 _ (by omega), q1 _ (by omega), q1 _ (by omega), fun j hj => q1 _ (by omega)⟩ q3
theorem st_end {F0 : FT} (h : MInv F0 G o) (hw : WF o) (hd : 80 ≤ d) {P i : Nat} (hT : MT F0 F P s) (hi : i ≤ 100) : Td E d 205 55 [some (vr 40 0), some (vi u), some (vi (nI i))] [] x F G b (some (vi (if i = 100 then -1 else nI i))) (MPost o F0 G) := by
  refine d_run 1 rfl ?_
  refine d_gR k205_56 (by first | assumption | exact Nat.le_of_ble_eq_true rfl | omega) ⟨rfl, rfl, rfl⟩ rfl ?_
  refine d_run 2 rfl ?_
  refine d_gR k205_61 (by first | assumption | exact Nat.le_of_ble_eq_true rfl | omega) ⟨rfl, rfl, rfl⟩ rfl ?_
  refine d_run 1 rfl ?_
  refine d_call 4 k205_65 (by omega) (Nat.le_of_ble_eq_true rfl) rfl (Nat.le_of_ble_eq_true rfl) (Nat.le_of_ble_eq_true rfl) recv_st rfl (b_cp71_70 (a := 0) (c := 0) (by omega) (by omega)) rfl ?_
  rintro F2 G2 ⟨rfl, q1, q2, q3⟩
  refine d_run 2 rfl ?_
  refine d_ic_ne k205_71 (fun h71 => ?_) (fun h71 => ?_)
  · have e1 : ¬ i = 100 := fun e => h71 (by rw [e]; rfl)
    rw [if_neg e1]
    refine d_run 1 rfl ?_
    refine d_ir k205_79 rfl (by rfl) ?_
    exact hT.fin h hw q1 q3 (fun _ _ => rfl)
  · have e1 : i = 100 := nI_inj (b := 100) h71 (by omega) (by omega)
    rw [if_pos e1]
    refine d_run 2 rfl ?_
    refine d_ir k205_79 rfl (by rfl) ?_
    exact hT.fin h hw q1 q3 (fun _ _ => rfl)
theorem au_end {F0 : FT} (h : MInv F0 G o) (hw : WF o) (hd : 80 ≤ d) {P i : Nat} (hT : MT F0 F P s) (hi : i ≤ 100) : Td E d 206 54 [some (vr 40 0), some (vi (nI i))] [] x F G b (some (vi (if i = 100 then -1 else nI i))) (MPost o F0 G) := by
  refine d_run 1 rfl ?_
  refine d_gR k206_55 (by first | assumption | exact Nat.le_of_ble_eq_true rfl | omega) ⟨rfl, rfl, rfl⟩ rfl ?_
  refine d_run 2 rfl ?_
  refine d_gR k206_60 (by first | assumption | exact Nat.le_of_ble_eq_true rfl | omega) ⟨rfl, rfl, rfl⟩ rfl ?_
  refine d_run 1 rfl ?_
  refine d_call 4 k206_64 (by omega) (Nat.le_of_ble_eq_true rfl) rfl (Nat.le_of_ble_eq_true rfl) (Nat.le_of_ble_eq_true rfl) recv_st rfl (b_cp71_70 (a := 0) (c := 0) (by omega) (by omega)) rfl ?_
  rintro F2 G2 ⟨rfl, q1, q2, q3⟩
  refine d_run 2 rfl ?_
  refine d_ic_ne k206_70 (fun h70 => ?_) (fun h70 => ?_)
  · have e1 : ¬ i = 100 := fun e => h70 (by rw [e]; rfl)
    rw [if_neg e1]
    refine d_run 1 rfl ?_
    refine d_ir k206_78 rfl (by rfl) ?_
    exact hT.fin h hw q1 q3 (fun _ _ => rfl)
  · have e1 : i = 100 := nI_inj (b := 100) h70 (by omega) (by omega)
    rw [if_pos e1]
    refine d_run 2 rfl ?_
    refine d_ir k206_78 rfl (by rfl) ?_
    exact hT.fin h hw q1 q3 (fun _ _ => rfl)
theorem l_mstops {F0 : FT} (h : MInv F0 G o) (hw : WF o) (hd : 80 ≤ d) {p : Nat} (hp : p < lP (gA o)) : ∀ (r i : Nat) (iv : Int32) (s : ST) (F : FT), iv = nI i → i + r = 100 → MT F0 F (lP (gA o)) s → wfS (gA o) s → Td E d 205 30 [some (vr 40 0), some (vi (nI p)), some (vi iv)] [] x F G b (some (vi (stopN (gA o) (fun s => sitA s p) r i s))) (MPost o F0 G) := by
  intro r
  induction r with
  | zero =>
    intro i iv s F hiv hir hT hwT
    subst hiv
    have hi : i = 100 := by omega
    have hL := hT.ml h.2.1
    have hA := hw.1
    have hP6 := hA.2.1
    have hS5 := hA.1
    refine d_run 2 rfl ?_
    refine d_ic_ge k205_33 (fun h33 => ?_) (fun h33 => ?_)
    · have k := st_end (u := nI p) (E := E) (x := x) (b := b) h hw hd hT (i := i) (by omega)
      rw [if_pos hi] at k
      exact k
    · exact absurd (lt_nI h33 (b := 100) rfl (by omega) (by omega)) (by omega)
  | succ r ih =>
    intro i iv s F hiv hir hT hwT
    subst hiv
    have hi : i < 100 := by omega
    have hL := hT.ml h.2.1
    have hA := hw.1
    have hP6 := hA.2.1
    have hS5 := hA.1
    refine d_run 2 rfl ?_
    refine d_ic_ge k205_33 (fun h33 => ?_) (fun h33 => ?_)
    · exact absurd (ge_nI h33 (b := 100) rfl (by omega) (by omega)) (by omega)
    · refine d_run 2 rfl ?_
      refine d_callT 2 k205_38 (by omega) (Nat.le_of_ble_eq_true rfl) rfl (Nat.le_of_ble_eq_true rfl) (Nat.le_of_ble_eq_true rfl) (recv_ok rfl (by first | assumption | exact Nat.le_of_ble_eq_true rfl | omega)) rfl (b_sits hA hT.1 hp (by omega)) rfl ?_
      refine d_if_ne k205_41 (fun h41 => ?_) (fun h41 => ?_)
      · rw [b2i0, Bool.not_eq_false] at h41
        rw [show stopN (gA o) (fun s => sitA s p) (r + 1) i s = nI i by simp [stopN, h41]]
        have k := st_end (u := nI p) (E := E) (x := x) (b := b) h hw hd hT (i := i) (by omega)
        rw [if_neg (show ¬ i = 100 by omega)] at k
        exact k
      · rw [b2i0] at h41
        refine d_run 1 rfl ?_
        refine d_call 1 k205_45 (by omega) (Nat.le_of_ble_eq_true rfl) rfl (Nat.le_of_ble_eq_true rfl) (Nat.le_of_ble_eq_true rfl) (recv_ok rfl (by first | assumption | exact Nat.le_of_ble_eq_true rfl | omega)) rfl (b_passes hL hA hT.1 hwT (by omega)) rfl ?_
        rintro F1 G1 ⟨rfl, m1⟩
        refine d_run 3 rfl ?_
        rw [show stopN (gA o) (fun s => sitA s p) (r + 1) i s = stopN (gA o) (fun s => sitA s p) r (i + 1) (hourA (gA o) s) by simp [stopN, h41]]
        exact ih (i + 1) _ _ F1 (nI_1 i) (by omega) (hT.st m1) (wfS_hour hA hwT)
theorem l_maug {F0 : FT} (h : MInv F0 G o) (hw : WF o) (hd : 80 ≤ d) : ∀ (r i : Nat) (iv : Int32) (s : ST) (F : FT), iv = nI i → i + r = 100 → MT F0 F (lP (gA o)) s → wfS (gA o) s → Td E d 206 20 [some (vr 40 0), some (vi iv)] [] x F G b (some (vi (stopN (gA o) (fun s => decide (bset (sitA s) (lP (gA o)) = allP (lP (gA o)))) r i s))) (MPost o F0 G) := by
  intro r
  induction r with
  | zero =>
    intro i iv s F hiv hir hT hwT
    subst hiv
    have hi : i = 100 := by omega
    have hL := hT.ml h.2.1
    have hA := hw.1
    have hP6 := hA.2.1
    have hS5 := hA.1
    refine d_run 2 rfl ?_
    refine d_ic_ge k206_23 (fun h23 => ?_) (fun h23 => ?_)
    · have k := au_end (E := E) (x := x) (b := b) h hw hd hT (i := i) (by omega)
      rw [if_pos hi] at k
      exact k
    · exact absurd (lt_nI h23 (b := 100) rfl (by omega) (by omega)) (by omega)
  | succ r ih =>
    intro i iv s F hiv hir hT hwT
    subst hiv
    have hi : i < 100 := by omega
    have hL := hT.ml h.2.1
    have hA := hw.1
    have hP6 := hA.2.1
    have hS5 := hA.1
    refine d_run 2 rfl ?_
    refine d_ic_ge k206_23 (fun h23 => ?_) (fun h23 => ?_)
    · exact absurd (ge_nI h23 (b := 100) rfl (by omega) (by omega)) (by omega)
    · refine d_run 1 rfl ?_
      refine d_callT 1 k206_27 (by omega) (Nat.le_of_ble_eq_true rfl) rfl (Nat.le_of_ble_eq_true rfl) (Nat.le_of_ble_eq_true rfl) (recv_ok rfl (by first | assumption | exact Nat.le_of_ble_eq_true rfl | omega)) rfl (b_sitting hL hA hT.1 (by omega)) rfl ?_
      refine d_run 2 rfl ?_
      refine d_gR k206_32 (by first | assumption | exact Nat.le_of_ble_eq_true rfl | omega) ⟨rfl, rfl, rfl⟩ rfl ?_
      refine d_run 1 rfl ?_
      refine d_ia (N := 8) (j := 1) k206_36 (by decide) (by first | assumption | exact Nat.le_of_ble_eq_true rfl | omega) ⟨⟨rfl, rfl⟩, rfl, rfl⟩ (by decide) rfl ?_
      rw [hL.2.1]
      refine d_run 3 rfl ?_
      rw [show ibop 1 (ibop 6 1 (nI (lP (gA o)))) 1 = allP (lP (gA o)) from rfl]
      refine d_ic_eq k206_40 (fun h40 => ?_) (fun h40 => ?_)
      · rw [show stopN (gA o) (fun s => decide (bset (sitA s) (lP (gA o)) = allP (lP (gA o)))) (r + 1) i s = nI i by simp [stopN, h40]]
        have k := au_end (E := E) (x := x) (b := b) h hw hd hT (i := i) (by omega)
        rw [if_neg (show ¬ i = 100 by omega)] at k
        exact k
      · refine d_run 1 rfl ?_
        refine d_call 1 k206_44 (by omega) (Nat.le_of_ble_eq_true rfl) rfl (Nat.le_of_ble_eq_true rfl) (Nat.le_of_ble_eq_true rfl) (recv_ok rfl (by first | assumption | exact Nat.le_of_ble_eq_true rfl | omega)) rfl (b_passes hL hA hT.1 hwT (by omega)) rfl ?_
        rintro F1 G1 ⟨rfl, m1⟩
        refine d_run 3 rfl ?_
        rw [show stopN (gA o) (fun s => decide (bset (sitA s) (lP (gA o)) = allP (lP (gA o)))) (r + 1) i s = stopN (gA o) (fun s => decide (bset (sitA s) (lP (gA o)) = allP (lP (gA o)))) r (i + 1) (hourA (gA o) s) by simp [stopN, h40]]
        exact ih (i + 1) _ _ F1 (nI_1 i) (by omega) (hT.st m1) (wfS_hour hA hwT)
theorem e_stops0 (h : MInv F G o) (hw : WF o) (hd : 90 ≤ d) : Td E d 205 5 [some (vr 40 0), some (vi u), none] [] x F G b (some (vi (q_stops o u))) (MPost (o) F G) := by
  have hL := h.2.1
  have hA := hw.1
  have hS := h.2.2.2.1.1
  have hwS := hw.2.1.1
  have hP6 := hA.2.1
  have hS5 := hA.1
  by_cases hN : isN u (lP (gA o)) = true
  · obtain ⟨p, hp, rfl⟩ := isN_ex hN (by omega)
    rw [show q_stops o (nI p) = stopN (gA o) (fun s => sitA s p) 100 0 (gS o) by simp [q_stops, hN, ix_nI (show p < 100000 by omega)]]
    refine d_run 2 rfl ?_
    refine d_callT 2 k205_7 (by omega) (Nat.le_of_ble_eq_true rfl) rfl (Nat.le_of_ble_eq_true rfl) (Nat.le_of_ble_eq_true rfl) (recv_ok rfl (by first | assumption | exact Nat.le_of_ble_eq_true rfl | omega)) rfl (e_isP hL) rfl ?_
    rw [hN]
    refine d_if_ne k205_10 (fun h10 => ?_) (fun h10 => ?_)
    · refine d_run 1 rfl ?_
      refine d_gR k205_16 (by first | assumption | exact Nat.le_of_ble_eq_true rfl | omega) ⟨rfl, rfl, rfl⟩ rfl ?_
      refine d_run 2 rfl ?_
      refine d_gR k205_21 (by first | assumption | exact Nat.le_of_ble_eq_true rfl | omega) ⟨rfl, rfl, rfl⟩ rfl ?_
      refine d_run 1 rfl ?_
      refine d_call 4 k205_25 (by omega) (Nat.le_of_ble_eq_true rfl) rfl (Nat.le_of_ble_eq_true rfl) (Nat.le_of_ble_eq_true rfl) recv_st rfl (b_cp70_71 (a := 0) (c := 0) (by omega) (by omega)) rfl ?_
      rintro F1 G1 ⟨rfl, q1, q2, q3⟩
      have hT := MT.beg hS q1 q3
      refine d_run 2 rfl ?_
      exact l_mstops h hw (by omega) hp 100 0 _ _ F1 rfl (by omega) hT hwS
    · exact absurd h10 (by decide)
  · have hN : isN u (lP (gA o)) = false := by simpa using hN
    rw [show q_stops o u = -1 by simp [q_stops, hN]]
    refine d_run 2 rfl ?_
    refine d_callT 2 k205_7 (by omega) (Nat.le_of_ble_eq_true rfl) rfl (Nat.le_of_ble_eq_true rfl) (Nat.le_of_ble_eq_true rfl) (recv_ok rfl (by first | assumption | exact Nat.le_of_ble_eq_true rfl | omega)) rfl (e_isP hL) rfl ?_
    rw [hN]
    refine d_if_ne k205_10 (fun h10 => ?_) (fun h10 => ?_)
    · exact absurd rfl h10
    · refine d_run 1 rfl ?_
      refine d_ir k205_14 rfl (by rfl) ?_
      exact MPost.q0 h
theorem e_stops (h : MInv F G o) (hw : WF o) (hd : 90 ≤ d) : Td E d 205 0 [some (vr 40 0), some (vi u), none] [] x F G b (some (vi (q_stops o u))) (MPost (o) F G) := by
  refine d_run 2 rfl ?_
  refine d_pI k205_2 (by first | assumption | exact Nat.le_of_ble_eq_true rfl | omega) ⟨rfl, rfl⟩ ?_
  exact MPost.th h hw (fun h => e_stops0 h hw hd)
theorem e_august0 (h : MInv F G o) (hw : WF o) (hd : 90 ≤ d) : Td E d 206 5 [some (vr 40 0), none] [] x F G b (some (vi (q_august o))) (MPost (o) F G) := by
  have hL := h.2.1
  have hA := hw.1
  have hS := h.2.2.2.1.1
  have hwS := hw.2.1.1
  have hP6 := hA.2.1
  have hS5 := hA.1
  refine d_run 1 rfl ?_
  refine d_gR k206_6 (by first | assumption | exact Nat.le_of_ble_eq_true rfl | omega) ⟨rfl, rfl, rfl⟩ rfl ?_
  refine d_run 2 rfl ?_
  refine d_gR k206_11 (by first | assumption | exact Nat.le_of_ble_eq_true rfl | omega) ⟨rfl, rfl, rfl⟩ rfl ?_
  refine d_run 1 rfl ?_
  refine d_call 4 k206_15 (by omega) (Nat.le_of_ble_eq_true rfl) rfl (Nat.le_of_ble_eq_true rfl) (Nat.le_of_ble_eq_true rfl) recv_st rfl (b_cp70_71 (a := 0) (c := 0) (by omega) (by omega)) rfl ?_
  rintro F1 G1 ⟨rfl, q1, q2, q3⟩
  have hT := MT.beg hS q1 q3
  refine d_run 2 rfl ?_
  exact l_maug h hw (by omega) 100 0 _ _ F1 rfl (by omega) hT hwS
theorem e_august (h : MInv F G o) (hw : WF o) (hd : 90 ≤ d) : Td E d 206 0 [some (vr 40 0), none] [] x F G b (some (vi (q_august o))) (MPost (o) F G) := by
  refine d_run 2 rfl ?_
  refine d_pI k206_2 (by first | assumption | exact Nat.le_of_ble_eq_true rfl | omega) ⟨rfl, rfl⟩ ?_
  exact MPost.th h hw (fun h => e_august0 h hw hd)
theorem b_goes {F0 : FT} (h : MInv F0 G o) (hw : WF o) (hd : 50 ≤ d) (hT : MT F0 F (lP (gA o)) s) (hwT : wfS (gA o) s) {i : Nat} (hi : i < (gW o).1) : Td E d 203 0 [some (vr 40 0), some (vi (nI i)), none, none, none] [] x F G b (some (vi (b2i (linG (gA o) (gW o) s i)))) (fun F2 G2 => G2 = G ∧ MQp F (lP (gA o)) s (linS (gA o) (gW o) s i) F2) := by
  have hL := hT.ml h.2.1
  have hA := hw.1
  have hP6 := hA.2.1
  have hS5 := hA.1
  have hK := h.2.2.2.1.2.1
  obtain ⟨hK0, hK1, hK2⟩ := hK
  have hK1 : (gW o).1 ≤ 40 := hK1
  have hf : ∀ k, 66 ≤ k → k ≤ 68 → F k = F0 k := fun k a c => hT.2.2.2.1 k (dMk_no (by omega))
  obtain ⟨c0, c1, c2⟩ := hK2 i hi
  rw [Nat.mul_zero, Nat.zero_add] at c0 c1 c2
  rw [← hf 66 (by omega) (by omega)] at c0
  rw [← hf 67 (by omega) (by omega)] at c1
  rw [← hf 68 (by omega) (by omega)] at c2
  have hQ0 : MQp F (lP (gA o)) s s F := ⟨hT.1, by rw [Int32.sub_self, Int32.add_zero], fun _ _ => rfl, FrK.rf⟩
  rcases hw.2.1.2.1.2 i hi with ⟨e0, p, q, hp, hq, e1, e2⟩ | ⟨e0, p, q, hp, hq, _, e1, e2⟩ | ⟨e0, p, hp, e1⟩ | e0
  · have hg : linG (gA o) (gW o) s i = cwkA (gA o) s p q := by simp [linG, e0, e1, ix_nI (show p < 100000 by omega), e2, ix_nI (show q < 100000 by omega)]
    have hs : linS (gA o) (gW o) s i = if cwkA (gA o) s p q = true then wlkA s p q else s := by simp only [linS, hg]; simp [e0, e1, ix_nI (show p < 100000 by omega), e2, ix_nI (show q < 100000 by omega)]
    rw [hg, hs]
    rw [e1] at c1
    rw [e2] at c2
    have c1 := c1 (by rw [e0]; decide)
    have c2 := c2 (by rw [e0]; decide)
    refine d_run 1 rfl ?_
    refine d_gR k203_1 (by first | assumption | exact Nat.le_of_ble_eq_true rfl | omega) ⟨rfl, rfl, rfl⟩ rfl ?_
    refine d_run 1 rfl ?_
    refine d_ia (N := 240) k203_5 (by decide) (by first | assumption | exact Nat.le_of_ble_eq_true rfl | omega) ⟨⟨rfl, rfl⟩, rfl, rfl⟩ (show i < 240 by omega) rfl ?_
    rw [c0, e0]
    refine d_run 2 rfl ?_
    refine d_gR k203_8 (by first | assumption | exact Nat.le_of_ble_eq_true rfl | omega) ⟨rfl, rfl, rfl⟩ rfl ?_
    refine d_run 1 rfl ?_
    refine d_ia (N := 240) k203_12 (by decide) (by first | assumption | exact Nat.le_of_ble_eq_true rfl | omega) ⟨⟨rfl, rfl⟩, rfl, rfl⟩ (show i < 240 by omega) rfl ?_
    rw [c1]
    refine d_run 2 rfl ?_
    refine d_gR k203_15 (by first | assumption | exact Nat.le_of_ble_eq_true rfl | omega) ⟨rfl, rfl, rfl⟩ rfl ?_
    refine d_run 1 rfl ?_
    refine d_ia (N := 240) k203_19 (by decide) (by first | assumption | exact Nat.le_of_ble_eq_true rfl | omega) ⟨⟨rfl, rfl⟩, rfl, rfl⟩ (show i < 240 by omega) rfl ?_
    rw [c2]
    refine d_run 2 rfl ?_
    refine d_if_ne k203_23 (fun h23 => ?_) (fun h23 => ?_)
    · exact absurd rfl h23
    · refine d_run 3 rfl ?_
      refine d_callT 3 k203_30 (by omega) (Nat.le_of_ble_eq_true rfl) rfl (Nat.le_of_ble_eq_true rfl) (Nat.le_of_ble_eq_true rfl) (recv_ok rfl (by first | assumption | exact Nat.le_of_ble_eq_true rfl | omega)) rfl (b_canWalk hL hA hT.1 hwT hp (by omega)) rfl ?_
      refine d_if_ne k203_33 (fun h33 => ?_) (fun h33 => ?_)
      · rw [b2i0, Bool.not_eq_false] at h33
        rw [h33]
        refine d_run 1 rfl ?_
        refine d_gR k203_39 (by first | assumption | exact Nat.le_of_ble_eq_true rfl | omega) ⟨rfl, rfl, rfl⟩ rfl ?_
        refine d_run 4 rfl ?_
        refine d_is (N := 50) k203_47 (by first | assumption | exact Nat.le_of_ble_eq_true rfl | omega) ⟨rfl, rfl⟩ (by first | assumption | omega) (nI_add 2 _) ?_
        refine d_run 2 rfl ?_
        refine d_ib k203_116 (by rfl) ?_
        exact ⟨rfl, b_wlk hA hT.1 hp⟩
      · rw [b2i0] at h33
        rw [h33]
        refine d_run 1 rfl ?_
        refine d_ib k203_37 (by rfl) ?_
        exact ⟨rfl, hQ0⟩
  · have hg : linG (gA o) (gW o) s i = cwdA (gA o) s p q := by simp [linG, e0, e1, ix_nI (show p < 100000 by omega), e2, ix_nI (show q < 100000 by omega)]
    have hs : linS (gA o) (gW o) s i = if cwdA (gA o) s p q = true then turnA (gA o) s p q else s := by simp only [linS, hg]; simp [e0, e1, ix_nI (show p < 100000 by omega), e2, ix_nI (show q < 100000 by omega)]
    rw [hg, hs]
    rw [e1] at c1
    rw [e2] at c2
    have c1 := c1 (by rw [e0]; decide)
    have c2 := c2 (by rw [e0]; decide)
    refine d_run 1 rfl ?_
    refine d_gR k203_1 (by first | assumption | exact Nat.le_of_ble_eq_true rfl | omega) ⟨rfl, rfl, rfl⟩ rfl ?_
    refine d_run 1 rfl ?_
    refine d_ia (N := 240) k203_5 (by decide) (by first | assumption | exact Nat.le_of_ble_eq_true rfl | omega) ⟨⟨rfl, rfl⟩, rfl, rfl⟩ (show i < 240 by omega) rfl ?_
    rw [c0, e0]
    refine d_run 2 rfl ?_
    refine d_gR k203_8 (by first | assumption | exact Nat.le_of_ble_eq_true rfl | omega) ⟨rfl, rfl, rfl⟩ rfl ?_
    refine d_run 1 rfl ?_
    refine d_ia (N := 240) k203_12 (by decide) (by first | assumption | exact Nat.le_of_ble_eq_true rfl | omega) ⟨⟨rfl, rfl⟩, rfl, rfl⟩ (show i < 240 by omega) rfl ?_
    rw [c1]
    refine d_run 2 rfl ?_
    refine d_gR k203_15 (by first | assumption | exact Nat.le_of_ble_eq_true rfl | omega) ⟨rfl, rfl, rfl⟩ rfl ?_
    refine d_run 1 rfl ?_
    refine d_ia (N := 240) k203_19 (by decide) (by first | assumption | exact Nat.le_of_ble_eq_true rfl | omega) ⟨⟨rfl, rfl⟩, rfl, rfl⟩ (show i < 240 by omega) rfl ?_
    rw [c2]
    refine d_run 2 rfl ?_
    refine d_if_ne k203_23 (fun h23 => ?_) (fun h23 => ?_)
    · refine d_run 2 rfl ?_
      refine d_ic_ne k203_53 (fun h53 => ?_) (fun h53 => ?_)
      · exact absurd rfl h53
      · refine d_run 3 rfl ?_
        refine d_callT 3 k203_60 (by omega) (Nat.le_of_ble_eq_true rfl) rfl (Nat.le_of_ble_eq_true rfl) (Nat.le_of_ble_eq_true rfl) (recv_ok rfl (by first | assumption | exact Nat.le_of_ble_eq_true rfl | omega)) rfl (b_might hL hA hT.1 hp hq (by omega)) rfl ?_
        refine d_if_eq k203_63 (fun h63 => ?_) (fun h63 => ?_)
        · rw [b2i0] at h63
          rw [cwd_mwdA, h63, Bool.false_and]
          refine d_run 1 rfl ?_
          refine d_ib k203_76 (by rfl) ?_
          exact ⟨rfl, hQ0⟩
        · rw [b2i0, Bool.not_eq_false] at h63
          rw [cwd_mwdA, h63, Bool.true_and]
          refine d_run 2 rfl ?_
          refine d_callT 2 k203_69 (by omega) (Nat.le_of_ble_eq_true rfl) rfl (Nat.le_of_ble_eq_true rfl) (Nat.le_of_ble_eq_true rfl) (recv_ok rfl (by first | assumption | exact Nat.le_of_ble_eq_true rfl | omega)) rfl (b_canBe hL hA hT.1 hq (by omega)) rfl ?_
          refine d_if_ne k203_72 (fun h72 => ?_) (fun h72 => ?_)
          · rw [b2i0, Bool.not_eq_false] at h72
            rw [h72]
            refine d_run 3 rfl ?_
            refine d_call 3 k203_81 (by omega) (Nat.le_of_ble_eq_true rfl) rfl (Nat.le_of_ble_eq_true rfl) (Nat.le_of_ble_eq_true rfl) (recv_ok rfl (by first | assumption | exact Nat.le_of_ble_eq_true rfl | omega)) rfl (b_winds hL hA hT.1 hp hq (by omega)) rfl ?_
            rintro F2 G2 ⟨rfl, m2⟩
            refine d_run 2 rfl ?_
            refine d_ib k203_116 (by rfl) ?_
            exact ⟨rfl, m2⟩
          · rw [b2i0] at h72
            rw [h72]
            refine d_run 1 rfl ?_
            refine d_ib k203_76 (by rfl) ?_
            exact ⟨rfl, hQ0⟩
    · exact absurd h23 (by decide)
  · have hg : linG (gA o) (gW o) s i = bit (sSn s) p := by simp [linG, e0, e1, ix_nI (show p < 100000 by omega)]
    have hs : linS (gA o) (gW o) s i = if bit (sSn s) p = true then repA s p else s := by simp only [linS, hg]; simp [e0, e1, ix_nI (show p < 100000 by omega)]
    rw [hg, hs]
    rw [e1] at c1
    have c1 := c1 (by rw [e0]; decide)
    refine d_run 1 rfl ?_
    refine d_gR k203_1 (by first | assumption | exact Nat.le_of_ble_eq_true rfl | omega) ⟨rfl, rfl, rfl⟩ rfl ?_
    refine d_run 1 rfl ?_
    refine d_ia (N := 240) k203_5 (by decide) (by first | assumption | exact Nat.le_of_ble_eq_true rfl | omega) ⟨⟨rfl, rfl⟩, rfl, rfl⟩ (show i < 240 by omega) rfl ?_
    rw [c0, e0]
    refine d_run 2 rfl ?_
    refine d_gR k203_8 (by first | assumption | exact Nat.le_of_ble_eq_true rfl | omega) ⟨rfl, rfl, rfl⟩ rfl ?_
    refine d_run 1 rfl ?_
    refine d_ia (N := 240) k203_12 (by decide) (by first | assumption | exact Nat.le_of_ble_eq_true rfl | omega) ⟨⟨rfl, rfl⟩, rfl, rfl⟩ (show i < 240 by omega) rfl ?_
    rw [c1]
    refine d_run 2 rfl ?_
    refine d_gR k203_15 (by first | assumption | exact Nat.le_of_ble_eq_true rfl | omega) ⟨rfl, rfl, rfl⟩ rfl ?_
    refine d_run 1 rfl ?_
    refine d_ia (N := 240) k203_19 (by decide) (by first | assumption | exact Nat.le_of_ble_eq_true rfl | omega) ⟨⟨rfl, rfl⟩, rfl, rfl⟩ (show i < 240 by omega) rfl ?_
    refine d_run 2 rfl ?_
    refine d_if_ne k203_23 (fun h23 => ?_) (fun h23 => ?_)
    · refine d_run 2 rfl ?_
      refine d_ic_ne k203_53 (fun h53 => ?_) (fun h53 => ?_)
      · refine d_run 2 rfl ?_
        refine d_ic_ne k203_89 (fun h89 => ?_) (fun h89 => ?_)
        · exact absurd rfl h89
        · refine d_run 2 rfl ?_
          refine d_callT 2 k203_94 (by omega) (Nat.le_of_ble_eq_true rfl) rfl (Nat.le_of_ble_eq_true rfl) (Nat.le_of_ble_eq_true rfl) (recv_ok rfl (by first | assumption | exact Nat.le_of_ble_eq_true rfl | omega)) rfl (b_snapped hT.1) rfl ?_
          refine d_if_ne k203_97 (fun h97 => ?_) (fun h97 => ?_)
          · rw [b2i0, Bool.not_eq_false] at h97
            rw [h97]
            refine d_run 2 rfl ?_
            refine d_call 2 k203_104 (by omega) (Nat.le_of_ble_eq_true rfl) rfl (Nat.le_of_ble_eq_true rfl) (Nat.le_of_ble_eq_true rfl) (recv_ok rfl (by first | assumption | exact Nat.le_of_ble_eq_true rfl | omega)) rfl (b_mends hA hT.1 hp) rfl ?_
            rintro F2 G2 ⟨rfl, m2⟩
            refine d_run 2 rfl ?_
            refine d_ib k203_116 (by rfl) ?_
            exact ⟨rfl, m2⟩
          · rw [b2i0] at h97
            rw [h97]
            refine d_run 1 rfl ?_
            refine d_ib k203_101 (by rfl) ?_
            exact ⟨rfl, hQ0⟩
      · exact absurd h53 (by decide)
    · exact absurd h23 (by decide)
  · have hg : linG (gA o) (gW o) s i = true := by simp [linG, e0]
    have hs : linS (gA o) (gW o) s i = if true = true then hourA (gA o) s else s := by simp only [linS, hg]; simp [e0]
    rw [hg, hs]
    refine d_run 1 rfl ?_
    refine d_gR k203_1 (by first | assumption | exact Nat.le_of_ble_eq_true rfl | omega) ⟨rfl, rfl, rfl⟩ rfl ?_
    refine d_run 1 rfl ?_
    refine d_ia (N := 240) k203_5 (by decide) (by first | assumption | exact Nat.le_of_ble_eq_true rfl | omega) ⟨⟨rfl, rfl⟩, rfl, rfl⟩ (show i < 240 by omega) rfl ?_
    rw [c0, e0]
    refine d_run 2 rfl ?_
    refine d_gR k203_8 (by first | assumption | exact Nat.le_of_ble_eq_true rfl | omega) ⟨rfl, rfl, rfl⟩ rfl ?_
    refine d_run 1 rfl ?_
    refine d_ia (N := 240) k203_12 (by decide) (by first | assumption | exact Nat.le_of_ble_eq_true rfl | omega) ⟨⟨rfl, rfl⟩, rfl, rfl⟩ (show i < 240 by omega) rfl ?_
    refine d_run 2 rfl ?_
    refine d_gR k203_15 (by first | assumption | exact Nat.le_of_ble_eq_true rfl | omega) ⟨rfl, rfl, rfl⟩ rfl ?_
    refine d_run 1 rfl ?_
    refine d_ia (N := 240) k203_19 (by decide) (by first | assumption | exact Nat.le_of_ble_eq_true rfl | omega) ⟨⟨rfl, rfl⟩, rfl, rfl⟩ (show i < 240 by omega) rfl ?_
    refine d_run 2 rfl ?_
    refine d_if_ne k203_23 (fun h23 => ?_) (fun h23 => ?_)
    · refine d_run 2 rfl ?_
      refine d_ic_ne k203_53 (fun h53 => ?_) (fun h53 => ?_)
      · refine d_run 2 rfl ?_
        refine d_ic_ne k203_89 (fun h89 => ?_) (fun h89 => ?_)
        · refine d_run 1 rfl ?_
          refine d_call 1 k203_111 (by omega) (Nat.le_of_ble_eq_true rfl) rfl (Nat.le_of_ble_eq_true rfl) (Nat.le_of_ble_eq_true rfl) (recv_ok rfl (by first | assumption | exact Nat.le_of_ble_eq_true rfl | omega)) rfl (b_passes hL hA hT.1 hwT (by omega)) rfl ?_
          rintro F2 G2 ⟨rfl, m2⟩
          refine d_run 2 rfl ?_
          refine d_ib k203_116 (by rfl) ?_
          exact ⟨rfl, m2⟩
        · exact absurd h89 (by decide)
      · exact absurd h53 (by decide)
    · exact absurd h23 (by decide)
def jdI (v : Int32) : Prop := v = -1 ∨ ∃ c, c ≤ 100 ∧ v = nI c
theorem jdI.lt {v : Int32} (h : jdI v) : (v < 0) = (v = -1) := by
  apply propext
  rcases h with e | ⟨c, hc, e⟩
  · subst e; decide
  · subst e
    constructor
    · intro h2; exact absurd h2 (nn_nI (by omega))
    · intro h2; rw [h2]; decide
theorem jdI.ge {v : Int32} (h : jdI v) : (0 ≤ v) = (¬ v = -1) := by rw [← Int32.not_lt, h.lt]
theorem pos_sp {m : Nat} {s t : SV} {e : Int32} (h : upSp s t m) (hm : m ≤ 100) (he : e = 0 + (t.2.2.2.2 - s.2.2.2.2)) : (e ≤ 0) = (t.2.2.2.2 = s.2.2.2.2) := by
  obtain ⟨k, hk, e2⟩ := h
  have e3 : e = nI k := by rw [he, e2, Int32.zero_add, Int32.add_comm, Int32.add_sub_cancel]
  apply propext
  rw [e3, show (0 : Int32) = nI 0 from rfl, nI_leI (by omega) (by omega), e2]
  constructor
  · intro h0
    have : k = 0 := by omega
    subst this
    exact Int32.add_zero _
  · intro h0
    have h1 : nI k = nI 0 := by
      have := i32_cs _ _ _ h0.symm
      rw [this, Int32.sub_self]
      rfl
    rw [nI_inj h1 (by omega) (by omega)]
    omega
theorem l_mjud {F0 : FT} (h : MInv F0 G o) (hw : WF o) (hd : 80 ≤ d) : ∀ (r i : Nat) (iv : Int32) (j : ST × (Int32 × Int32)) (F : FT), iv = nI i → i + r = (gW o).1 → MT F0 F (lP (gA o)) j.1 → wfS (gA o) j.1 → jdI j.2.1 → jdI j.2.2 → Td E d 204 41 [some (vr 40 0), some (vi u), some (vi j.2.1), some (vi j.2.2), some (vi iv)] [] x F G b (some (vi (if u = 0 then (lpN (jdF (gA o) (gW o)) i r j).2.1 else if u = 1 then (lpN (jdF (gA o) (gW o)) i r j).2.2 else bset (sitA (lpN (jdF (gA o) (gW o)) i r j).1) (lP (gA o))))) (MPost o F0 G) := by
  intro r
  induction r with
  | zero =>
    intro i iv j F hiv hir hT hwT hj1 hj2
    subst hiv
    have hi : i = (gW o).1 := by omega
    have hL := hT.ml h.2.1
    have hA := hw.1
    have hP6 := hA.2.1
    have hS5 := hA.1
    have hK1 : (gW o).1 ≤ 40 := hw.2.1.2.1.1
    refine d_run 2 rfl ?_
    refine d_gR k204_44 (by first | assumption | exact Nat.le_of_ble_eq_true rfl | omega) ⟨rfl, rfl, rfl⟩ rfl ?_
    refine d_run 1 rfl ?_
    refine d_ia (N := 6) (j := 0) k204_48 (by decide) (by first | assumption | exact Nat.le_of_ble_eq_true rfl | omega) ⟨⟨rfl, rfl⟩, rfl, rfl⟩ (by decide) rfl ?_
    rw [show F 65 0 0 = nI (gW o).1 by rw [hT.2.2.2.1 65 rfl]; exact h.2.2.2.1.2.1.1]
    refine d_ic_ge k204_49 (fun h49 => ?_) (fun h49 => ?_)
    · refine d_run 1 rfl ?_
      refine d_callT 1 k204_94 (by omega) (Nat.le_of_ble_eq_true rfl) rfl (Nat.le_of_ble_eq_true rfl) (Nat.le_of_ble_eq_true rfl) (recv_ok rfl (by first | assumption | exact Nat.le_of_ble_eq_true rfl | omega)) rfl (b_sitting hL hA hT.1 (by omega)) rfl ?_
      refine d_run 2 rfl ?_
      refine d_gR k204_100 (by first | assumption | exact Nat.le_of_ble_eq_true rfl | omega) ⟨rfl, rfl, rfl⟩ rfl ?_
      refine d_run 2 rfl ?_
      refine d_gR k204_105 (by first | assumption | exact Nat.le_of_ble_eq_true rfl | omega) ⟨rfl, rfl, rfl⟩ rfl ?_
      refine d_run 1 rfl ?_
      refine d_call 4 k204_109 (by omega) (Nat.le_of_ble_eq_true rfl) rfl (Nat.le_of_ble_eq_true rfl) (Nat.le_of_ble_eq_true rfl) recv_st rfl (b_cp71_70 (a := 0) (c := 0) (by omega) (by omega)) rfl ?_
      rintro F2 G2 ⟨rfl, q1, q2, q3⟩
      refine d_run 1 rfl ?_
      refine d_if_ne k204_113 (fun h113 => ?_) (fun h113 => ?_)
      · rw [if_neg h113]
        refine d_run 2 rfl ?_
        refine d_ic_ne k204_122 (fun h122 => ?_) (fun h122 => ?_)
        · rw [if_neg h122]
          refine d_run 1 rfl ?_
          refine d_ir k204_131 rfl (by rfl) ?_
          exact hT.fin h hw q1 q3 (fun _ _ => rfl)
        · rw [if_pos h122]
          refine d_run 2 rfl ?_
          refine d_ir k204_131 rfl (by rfl) ?_
          exact hT.fin h hw q1 q3 (fun _ _ => rfl)
      · rw [if_pos h113]
        refine d_run 2 rfl ?_
        refine d_ir k204_131 rfl (by rfl) ?_
        exact hT.fin h hw q1 q3 (fun _ _ => rfl)
    · exact absurd (lt_nI h49 rfl (by omega) (by omega)) (by omega)
  | succ r ih =>
    intro i iv j F hiv hir hT hwT hj1 hj2
    subst hiv
    have hi : i < (gW o).1 := by omega
    have hL := hT.ml h.2.1
    have hA := hw.1
    have hP6 := hA.2.1
    have hS5 := hA.1
    have hK1 : (gW o).1 ≤ 40 := hw.2.1.2.1.1
    refine d_run 2 rfl ?_
    refine d_gR k204_44 (by first | assumption | exact Nat.le_of_ble_eq_true rfl | omega) ⟨rfl, rfl, rfl⟩ rfl ?_
    refine d_run 1 rfl ?_
    refine d_ia (N := 6) (j := 0) k204_48 (by decide) (by first | assumption | exact Nat.le_of_ble_eq_true rfl | omega) ⟨⟨rfl, rfl⟩, rfl, rfl⟩ (by decide) rfl ?_
    rw [show F 65 0 0 = nI (gW o).1 by rw [hT.2.2.2.1 65 rfl]; exact h.2.2.2.1.2.1.1]
    refine d_ic_ge k204_49 (fun h49 => ?_) (fun h49 => ?_)
    · exact absurd (ge_nI h49 rfl (by omega) (by omega)) (by omega)
    · refine d_run 2 rfl ?_
      refine d_pI k204_54 (by first | assumption | exact Nat.le_of_ble_eq_true rfl | omega) ⟨rfl, rfl⟩ ?_
      refine d_run 2 rfl ?_
      refine d_call 2 k204_60 (by omega) (Nat.le_of_ble_eq_true rfl) rfl (Nat.le_of_ble_eq_true rfl) (Nat.le_of_ble_eq_true rfl) (recv_ok rfl (by first | assumption | exact Nat.le_of_ble_eq_true rfl | omega)) rfl (b_goes h hw (by omega) (hT.u50 (v := 0)) hwT hi) rfl ?_
      rintro F1 G1 ⟨rfl, m1⟩
      have hT1 := (hT.u50 (v := 0)).st m1
      have hps := pos_sp (linS_sp (A := gA o) (w := gW o) (s := j.1) (i := i) hP6) (by decide) (e := F1 40 0 50) (by rw [m1.2.1, uF_r, pk_us])
      refine d_if_ne k204_63 (fun h63 => ?_) (fun h63 => ?_)
      · rw [b2i0, Bool.not_eq_false] at h63
        have e1 : (if (!linG (gA o) (gW o) j.1 i && decide (j.2.1 = -1)) = true then nI i else j.2.1) = j.2.1 := by rw [h63]; simp
        refine d_run 1 rfl ?_
        refine d_gI k204_74 (by first | assumption | exact Nat.le_of_ble_eq_true rfl | omega) ⟨rfl, rfl, Or.inl rfl⟩ ?_
        refine d_if_le k204_77 (fun h77 => ?_) (fun h77 => ?_)
        · rw [hps] at h77
          have e2 : (if (decide (¬ sSp (linS (gA o) (gW o) j.1 i) = sSp j.1) && decide (j.2.2 = -1)) = true then nI i else j.2.2) = j.2.2 := by rw [decide_eq_false (fun e => e h77)]; simp
          refine d_run 2 rfl ?_
          have k1 := (show (jdF (gA o) (gW o) i j).2.1 = (if (!linG (gA o) (gW o) j.1 i && decide (j.2.1 = -1)) = true then nI i else j.2.1) from rfl).trans e1
          have k2 := (show (jdF (gA o) (gW o) i j).2.2 = (if (decide (¬ sSp (linS (gA o) (gW o) j.1 i) = sSp j.1) && decide (j.2.2 = -1)) = true then nI i else j.2.2) from rfl).trans e2
          have kk := ih (i + 1) _ (jdF (gA o) (gW o) i j) F1 (nI_1 i) (by omega) hT1 (linS_wf hA hw.2.1.2.1 hwT hi) (by rw [k1]; first | exact hj1 | exact Or.inr ⟨i, by omega, rfl⟩) (by rw [k2]; first | exact hj2 | exact Or.inr ⟨i, by omega, rfl⟩)
          rw [k1, k2] at kk
          exact kk
        · rw [hps] at h77
          refine d_run 1 rfl ?_
          refine d_if_ge k204_81 (fun h81 => ?_) (fun h81 => ?_)
          · rw [hj2.ge] at h81
            have e2 : (if (decide (¬ sSp (linS (gA o) (gW o) j.1 i) = sSp j.1) && decide (j.2.2 = -1)) = true then nI i else j.2.2) = j.2.2 := by rw [decide_eq_false h81, Bool.and_false]; simp
            refine d_run 2 rfl ?_
            have k1 := (show (jdF (gA o) (gW o) i j).2.1 = (if (!linG (gA o) (gW o) j.1 i && decide (j.2.1 = -1)) = true then nI i else j.2.1) from rfl).trans e1
            have k2 := (show (jdF (gA o) (gW o) i j).2.2 = (if (decide (¬ sSp (linS (gA o) (gW o) j.1 i) = sSp j.1) && decide (j.2.2 = -1)) = true then nI i else j.2.2) from rfl).trans e2
            have kk := ih (i + 1) _ (jdF (gA o) (gW o) i j) F1 (nI_1 i) (by omega) hT1 (linS_wf hA hw.2.1.2.1 hwT hi) (by rw [k1]; first | exact hj1 | exact Or.inr ⟨i, by omega, rfl⟩) (by rw [k2]; first | exact hj2 | exact Or.inr ⟨i, by omega, rfl⟩)
            rw [k1, k2] at kk
            exact kk
          · rw [hj2.ge, Decidable.not_not] at h81
            have e2 : (if (decide (¬ sSp (linS (gA o) (gW o) j.1 i) = sSp j.1) && decide (j.2.2 = -1)) = true then nI i else j.2.2) = nI i := by rw [decide_eq_true h81, decide_eq_true (p := ¬ sSp (linS (gA o) (gW o) j.1 i) = sSp j.1) h77]; rfl
            refine d_run 2 rfl ?_
            refine d_run 2 rfl ?_
            have k1 := (show (jdF (gA o) (gW o) i j).2.1 = (if (!linG (gA o) (gW o) j.1 i && decide (j.2.1 = -1)) = true then nI i else j.2.1) from rfl).trans e1
            have k2 := (show (jdF (gA o) (gW o) i j).2.2 = (if (decide (¬ sSp (linS (gA o) (gW o) j.1 i) = sSp j.1) && decide (j.2.2 = -1)) = true then nI i else j.2.2) from rfl).trans e2
            have kk := ih (i + 1) _ (jdF (gA o) (gW o) i j) F1 (nI_1 i) (by omega) hT1 (linS_wf hA hw.2.1.2.1 hwT hi) (by rw [k1]; first | exact hj1 | exact Or.inr ⟨i, by omega, rfl⟩) (by rw [k2]; first | exact hj2 | exact Or.inr ⟨i, by omega, rfl⟩)
            rw [k1, k2] at kk
            exact kk
      · rw [b2i0] at h63
        refine d_run 1 rfl ?_
        refine d_if_ge k204_67 (fun h67 => ?_) (fun h67 => ?_)
        · rw [hj1.ge] at h67
          have e1 : (if (!linG (gA o) (gW o) j.1 i && decide (j.2.1 = -1)) = true then nI i else j.2.1) = j.2.1 := by rw [decide_eq_false h67, Bool.and_false]; simp
          refine d_run 1 rfl ?_
          refine d_gI k204_74 (by first | assumption | exact Nat.le_of_ble_eq_true rfl | omega) ⟨rfl, rfl, Or.inl rfl⟩ ?_
          refine d_if_le k204_77 (fun h77 => ?_) (fun h77 => ?_)
          · rw [hps] at h77
            have e2 : (if (decide (¬ sSp (linS (gA o) (gW o) j.1 i) = sSp j.1) && decide (j.2.2 = -1)) = true then nI i else j.2.2) = j.2.2 := by rw [decide_eq_false (fun e => e h77)]; simp
            refine d_run 2 rfl ?_
            have k1 := (show (jdF (gA o) (gW o) i j).2.1 = (if (!linG (gA o) (gW o) j.1 i && decide (j.2.1 = -1)) = true then nI i else j.2.1) from rfl).trans e1
            have k2 := (show (jdF (gA o) (gW o) i j).2.2 = (if (decide (¬ sSp (linS (gA o) (gW o) j.1 i) = sSp j.1) && decide (j.2.2 = -1)) = true then nI i else j.2.2) from rfl).trans e2
            have kk := ih (i + 1) _ (jdF (gA o) (gW o) i j) F1 (nI_1 i) (by omega) hT1 (linS_wf hA hw.2.1.2.1 hwT hi) (by rw [k1]; first | exact hj1 | exact Or.inr ⟨i, by omega, rfl⟩) (by rw [k2]; first | exact hj2 | exact Or.inr ⟨i, by omega, rfl⟩)
            rw [k1, k2] at kk
            exact kk
          · rw [hps] at h77
            refine d_run 1 rfl ?_
            refine d_if_ge k204_81 (fun h81 => ?_) (fun h81 => ?_)
            · rw [hj2.ge] at h81
              have e2 : (if (decide (¬ sSp (linS (gA o) (gW o) j.1 i) = sSp j.1) && decide (j.2.2 = -1)) = true then nI i else j.2.2) = j.2.2 := by rw [decide_eq_false h81, Bool.and_false]; simp
              refine d_run 2 rfl ?_
              have k1 := (show (jdF (gA o) (gW o) i j).2.1 = (if (!linG (gA o) (gW o) j.1 i && decide (j.2.1 = -1)) = true then nI i else j.2.1) from rfl).trans e1
              have k2 := (show (jdF (gA o) (gW o) i j).2.2 = (if (decide (¬ sSp (linS (gA o) (gW o) j.1 i) = sSp j.1) && decide (j.2.2 = -1)) = true then nI i else j.2.2) from rfl).trans e2
              have kk := ih (i + 1) _ (jdF (gA o) (gW o) i j) F1 (nI_1 i) (by omega) hT1 (linS_wf hA hw.2.1.2.1 hwT hi) (by rw [k1]; first | exact hj1 | exact Or.inr ⟨i, by omega, rfl⟩) (by rw [k2]; first | exact hj2 | exact Or.inr ⟨i, by omega, rfl⟩)
              rw [k1, k2] at kk
              exact kk
            · rw [hj2.ge, Decidable.not_not] at h81
              have e2 : (if (decide (¬ sSp (linS (gA o) (gW o) j.1 i) = sSp j.1) && decide (j.2.2 = -1)) = true then nI i else j.2.2) = nI i := by rw [decide_eq_true h81, decide_eq_true (p := ¬ sSp (linS (gA o) (gW o) j.1 i) = sSp j.1) h77]; rfl
              refine d_run 2 rfl ?_
              refine d_run 2 rfl ?_
              have k1 := (show (jdF (gA o) (gW o) i j).2.1 = (if (!linG (gA o) (gW o) j.1 i && decide (j.2.1 = -1)) = true then nI i else j.2.1) from rfl).trans e1
              have k2 := (show (jdF (gA o) (gW o) i j).2.2 = (if (decide (¬ sSp (linS (gA o) (gW o) j.1 i) = sSp j.1) && decide (j.2.2 = -1)) = true then nI i else j.2.2) from rfl).trans e2
              have kk := ih (i + 1) _ (jdF (gA o) (gW o) i j) F1 (nI_1 i) (by omega) hT1 (linS_wf hA hw.2.1.2.1 hwT hi) (by rw [k1]; first | exact hj1 | exact Or.inr ⟨i, by omega, rfl⟩) (by rw [k2]; first | exact hj2 | exact Or.inr ⟨i, by omega, rfl⟩)
              rw [k1, k2] at kk
              exact kk
        · rw [hj1.ge, Decidable.not_not] at h67
          have e1 : (if (!linG (gA o) (gW o) j.1 i && decide (j.2.1 = -1)) = true then nI i else j.2.1) = nI i := by rw [h63, decide_eq_true h67]; rfl
          refine d_run 3 rfl ?_
          refine d_gI k204_74 (by first | assumption | exact Nat.le_of_ble_eq_true rfl | omega) ⟨rfl, rfl, Or.inl rfl⟩ ?_
          refine d_if_le k204_77 (fun h77 => ?_) (fun h77 => ?_)
          · rw [hps] at h77
            have e2 : (if (decide (¬ sSp (linS (gA o) (gW o) j.1 i) = sSp j.1) && decide (j.2.2 = -1)) = true then nI i else j.2.2) = j.2.2 := by rw [decide_eq_false (fun e => e h77)]; simp
            refine d_run 2 rfl ?_
            have k1 := (show (jdF (gA o) (gW o) i j).2.1 = (if (!linG (gA o) (gW o) j.1 i && decide (j.2.1 = -1)) = true then nI i else j.2.1) from rfl).trans e1
            have k2 := (show (jdF (gA o) (gW o) i j).2.2 = (if (decide (¬ sSp (linS (gA o) (gW o) j.1 i) = sSp j.1) && decide (j.2.2 = -1)) = true then nI i else j.2.2) from rfl).trans e2
            have kk := ih (i + 1) _ (jdF (gA o) (gW o) i j) F1 (nI_1 i) (by omega) hT1 (linS_wf hA hw.2.1.2.1 hwT hi) (by rw [k1]; first | exact hj1 | exact Or.inr ⟨i, by omega, rfl⟩) (by rw [k2]; first | exact hj2 | exact Or.inr ⟨i, by omega, rfl⟩)
            rw [k1, k2] at kk
            exact kk
          · rw [hps] at h77
            refine d_run 1 rfl ?_
            refine d_if_ge k204_81 (fun h81 => ?_) (fun h81 => ?_)
            · rw [hj2.ge] at h81
              have e2 : (if (decide (¬ sSp (linS (gA o) (gW o) j.1 i) = sSp j.1) && decide (j.2.2 = -1)) = true then nI i else j.2.2) = j.2.2 := by rw [decide_eq_false h81, Bool.and_false]; simp
              refine d_run 2 rfl ?_
              have k1 := (show (jdF (gA o) (gW o) i j).2.1 = (if (!linG (gA o) (gW o) j.1 i && decide (j.2.1 = -1)) = true then nI i else j.2.1) from rfl).trans e1
              have k2 := (show (jdF (gA o) (gW o) i j).2.2 = (if (decide (¬ sSp (linS (gA o) (gW o) j.1 i) = sSp j.1) && decide (j.2.2 = -1)) = true then nI i else j.2.2) from rfl).trans e2
              have kk := ih (i + 1) _ (jdF (gA o) (gW o) i j) F1 (nI_1 i) (by omega) hT1 (linS_wf hA hw.2.1.2.1 hwT hi) (by rw [k1]; first | exact hj1 | exact Or.inr ⟨i, by omega, rfl⟩) (by rw [k2]; first | exact hj2 | exact Or.inr ⟨i, by omega, rfl⟩)
              rw [k1, k2] at kk
              exact kk
            · rw [hj2.ge, Decidable.not_not] at h81
              have e2 : (if (decide (¬ sSp (linS (gA o) (gW o) j.1 i) = sSp j.1) && decide (j.2.2 = -1)) = true then nI i else j.2.2) = nI i := by rw [decide_eq_true h81, decide_eq_true (p := ¬ sSp (linS (gA o) (gW o) j.1 i) = sSp j.1) h77]; rfl
              refine d_run 2 rfl ?_
              refine d_run 2 rfl ?_
              have k1 := (show (jdF (gA o) (gW o) i j).2.1 = (if (!linG (gA o) (gW o) j.1 i && decide (j.2.1 = -1)) = true then nI i else j.2.1) from rfl).trans e1
              have k2 := (show (jdF (gA o) (gW o) i j).2.2 = (if (decide (¬ sSp (linS (gA o) (gW o) j.1 i) = sSp j.1) && decide (j.2.2 = -1)) = true then nI i else j.2.2) from rfl).trans e2
              have kk := ih (i + 1) _ (jdF (gA o) (gW o) i j) F1 (nI_1 i) (by omega) hT1 (linS_wf hA hw.2.1.2.1 hwT hi) (by rw [k1]; first | exact hj1 | exact Or.inr ⟨i, by omega, rfl⟩) (by rw [k2]; first | exact hj2 | exact Or.inr ⟨i, by omega, rfl⟩)
              rw [k1, k2] at kk
              exact kk
theorem e_judged0 (h : MInv F G o) (hw : WF o) (hd : 90 ≤ d) : Td E d 204 5 [some (vr 40 0), some (vi u), none, none, none] [] x F G b (some (vi (q_judged o u))) (MPost (o) F G) := by
  have hL := h.2.1
  have hA := hw.1
  have hS := h.2.2.2.1.1
  have hwS := hw.2.1.1
  have hP6 := hA.2.1
  have hS5 := hA.1
  by_cases hN : isW2 u 0 2 = true
  · rw [show q_judged o u = (if u = 0 then (lpN (jdF (gA o) (gW o)) 0 (gW o).1 (begA (gA o), -1, -1)).2.1 else if u = 1 then (lpN (jdF (gA o) (gW o)) 0 (gW o).1 (begA (gA o), -1, -1)).2.2 else bset (sitA (lpN (jdF (gA o) (gW o)) 0 (gW o).1 (begA (gA o), -1, -1)).1) (lP (gA o))) by simp only [q_judged]; rw [if_pos hN]]
    refine d_run 3 rfl ?_
    refine d_callT 3 k204_8 (by omega) (Nat.le_of_ble_eq_true rfl) rfl (Nat.le_of_ble_eq_true rfl) (Nat.le_of_ble_eq_true rfl) recv_st rfl e_within rfl ?_
    rw [hN]
    refine d_if_ne k204_11 (fun h11 => ?_) (fun h11 => ?_)
    · refine d_run 1 rfl ?_
      refine d_gR k204_18 (by first | assumption | exact Nat.le_of_ble_eq_true rfl | omega) ⟨rfl, rfl, rfl⟩ rfl ?_
      refine d_run 2 rfl ?_
      refine d_gR k204_23 (by first | assumption | exact Nat.le_of_ble_eq_true rfl | omega) ⟨rfl, rfl, rfl⟩ rfl ?_
      refine d_run 1 rfl ?_
      refine d_call 4 k204_27 (by omega) (Nat.le_of_ble_eq_true rfl) rfl (Nat.le_of_ble_eq_true rfl) (Nat.le_of_ble_eq_true rfl) recv_st rfl (b_cp70_71 (a := 0) (c := 0) (by omega) (by omega)) rfl ?_
      rintro F1 G1 ⟨rfl, q1, q2, q3⟩
      have hT := MT.beg hS q1 q3
      refine d_run 1 rfl ?_
      refine d_call 1 k204_31 (by omega) (Nat.le_of_ble_eq_true rfl) rfl (Nat.le_of_ble_eq_true rfl) (Nat.le_of_ble_eq_true rfl) (recv_ok rfl (by first | assumption | exact Nat.le_of_ble_eq_true rfl | omega)) rfl (b_fresh (hT.ml hL) hA) rfl ?_
      rintro F2 G2 ⟨rfl, r1, r3⟩
      have hT2 : MT F F2 (lP (gA o)) (begA (gA o)) := ⟨r1, fun i hi => by rw [r3 71 rfl]; exact hT.2.1 i hi, fun i hi => by rw [r3 40 rfl]; exact hT.2.2.1 i hi, hT.2.2.2.1.tr (d70_k r3), by rw [r3 74 rfl]; exact hT.2.2.2.2⟩
      refine d_run 6 rfl ?_
      exact l_mjud h hw (by omega) (gW o).1 0 _ (begA (gA o), -1, -1) F2 rfl (by omega) hT2 (wfS_beg hA) (Or.inl rfl) (Or.inl rfl)
    · exact absurd h11 (by decide)
  · have hN : isW2 u 0 2 = false := by simpa using hN
    rw [show q_judged o u = -2 by simp [q_judged, hN]]
    refine d_run 3 rfl ?_
    refine d_callT 3 k204_8 (by omega) (Nat.le_of_ble_eq_true rfl) rfl (Nat.le_of_ble_eq_true rfl) (Nat.le_of_ble_eq_true rfl) recv_st rfl e_within rfl ?_
    rw [hN]
    refine d_if_ne k204_11 (fun h11 => ?_) (fun h11 => ?_)
    · exact absurd rfl h11
    · refine d_run 1 rfl ?_
      refine d_ir k204_16 rfl (by rfl) ?_
      exact MPost.q0 h
theorem e_judged (h : MInv F G o) (hw : WF o) (hd : 90 ≤ d) : Td E d 204 0 [some (vr 40 0), some (vi u), none, none, none] [] x F G b (some (vi (q_judged o u))) (MPost (o) F G) := by
  refine d_run 2 rfl ?_
  refine d_pI k204_2 (by first | assumption | exact Nat.le_of_ble_eq_true rfl | omega) ⟨rfl, rfl⟩ ?_
  exact MPost.th h hw (fun h => e_judged0 h hw hd)
end M11
