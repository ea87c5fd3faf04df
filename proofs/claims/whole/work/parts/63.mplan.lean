/-! PLAN OF THE REFERENCE -/
def MPl (F : FT) (N dd : Nat) (t : PS) : Prop := F 40 0 53 = t.1 ∧ eqR dd (F 76 0) t.2.1 ∧ (t.1 = -1 ∨ eqR N (F 77 0) t.2.2)
def MPg (dd : Nat) (F F2 : FT) : Prop := (∀ i, i < 50 * dd → F2 72 0 i = F 72 0 i) ∧ (∀ i, i ≠ 50 → i ≠ 53 → F2 40 0 i = F 40 0 i) ∧ FrK dMk F F2 ∧ F2 74 = F 74
theorem MPg.rf {dd : Nat} {F : FT} : MPg dd F F := ⟨fun _ _ => rfl, fun _ _ _ => rfl, FrK.rf, rfl⟩
theorem MPg.tr {dd : Nat} {F F1 F2 : FT} (h : MPg dd F F1) (h2 : MPg dd F1 F2) : MPg dd F F2 := ⟨fun i hi => (h2.1 i hi).trans (h.1 i hi), fun i a c => (h2.2.1 i a c).trans (h.2.1 i a c), h.2.2.1.tr h2.2.2.1, h2.2.2.2.trans h.2.2.2⟩
theorem MPg.lo {dd : Nat} {F F1 : FT} (h : MPg (dd + 1) F F1) : MPg dd F F1 := ⟨fun i hi => h.1 i (by omega), h.2.1, h.2.2.1, h.2.2.2⟩
theorem MPg.u70 {dd : Nat} {F : FT} {i : Nat} {v : Int32} : MPg dd F (uF F 70 0 i v) := ⟨fun _ _ => by rw [uF_k (by decide)], fun _ _ _ => by rw [uF_k (by decide)], FrK.rf.u rfl, uF_k (by decide)⟩
theorem MPg.u76 {dd : Nat} {F : FT} {i : Nat} {v : Int32} : MPg dd F (uF F 76 0 i v) := ⟨fun _ _ => by rw [uF_k (by decide)], fun _ _ _ => by rw [uF_k (by decide)], FrK.rf.u rfl, uF_k (by decide)⟩
theorem MPg.u77 {dd : Nat} {F : FT} {i : Nat} {v : Int32} : MPg dd F (uF F 77 0 i v) := ⟨fun _ _ => by rw [uF_k (by decide)], fun _ _ _ => by rw [uF_k (by decide)], FrK.rf.u rfl, uF_k (by decide)⟩
theorem MPg.u53 {dd : Nat} {F : FT} {v : Int32} : MPg dd F (uF F 40 0 53 v) := ⟨fun _ _ => by rw [uF_k (by decide)], fun i _ h => by rw [uF_r, pk_un h], FrK.rf.u rfl, uF_k (by decide)⟩
theorem MPg.q {dd P : Nat} {F F2 : FT} {s t : ST} (m : MQp F P s t F2) : MPg dd F F2 := ⟨fun _ _ => by rw [m.2.2.2 72 rfl], fun i h _ => m.2.2.1 i h, dMH_k m.2.2.2, m.2.2.2 74 rfl⟩
theorem MPg.d70 {dd : Nat} {F F2 : FT} (h : FrK (fun k => decide (k = 70)) F F2) : MPg dd F F2 := ⟨fun _ _ => by rw [h 72 rfl], fun i _ _ => by rw [h 40 rfl], d70_k h, h 74 rfl⟩
theorem MPg.ml {dd : Nat} {F F2 : FT} {A : LA} (h : MPg dd F F2) (hL : ML F A) : ML F2 A := hL.fr (fun k a b => h.2.2.1 k (dMk_no (by omega)))
def TryM (E : EV) (x : Nat) (G : GT) (b : Bool) (A : LA) (p N k dd : Nat) : Prop := ∀ (d : Nat) (F : FT) (s : ST) (t : PS), 20 + k ≤ d → ML F A → rowS (F 70 0) (lP A) s → wfS A s → MPl F N dd t → Td E d 207 0 [some (vr 40 0), some (vi (nI p)), some (vi (nI dd)), some (vi (nI N)), none] [] x F G b none (fun F2 G2 => G2 = G ∧ MPl F2 N dd (plR A p N k s t) ∧ (∀ i, i < 50 → F2 70 0 i = F 70 0 i) ∧ MPg dd F F2)
section M16
variable {E : EV} {d x : Nat} {F : FT} {G : GT} {b : Bool} {o : SG} {u v w : Int32} {A : LA} {s : ST}
theorem l_mbest {N : Nat} {F0 : FT} {QQ : FT → GT → Prop} : ∀ (r i : Nat) (iv : Int32) (F : FT), iv = nI i → i + r = 4 → (∀ j, j < i → F 77 0 j = F0 76 0 j) → F 76 = F0 76 → F 40 = F0 40 → F 70 = F0 70 → MPg N F0 F → (∀ F2, (∀ j, j < 4 → F2 77 0 j = F0 76 0 j) → F2 76 = F0 76 → F2 40 = F0 40 → F2 70 = F0 70 → MPg N F0 F2 → QQ F2 G) → Td E d 207 38 [some (vr 40 0), some (vi u), some (vi v), some (vi w), some (vi iv)] [] x F G b none (QQ) := by
  intro r
  induction r with
  | zero =>
    intro i iv F hiv hir q1 q2 q4 q5 q3 kk
    subst hiv
    have hi : i = 4 := by omega
    refine d_run 2 rfl ?_
    refine d_ic_ge k207_41 (fun h41 => ?_) (fun h41 => ?_)
    · refine d_ret k207_64 ?_
      rw [hi] at q1
      exact kk F q1 q2 q4 q5 q3
    · exact absurd (lt_nI h41 (b := 4) rfl (by omega) (by omega)) (by omega)
  | succ r ih =>
    intro i iv F hiv hir q1 q2 q4 q5 q3 kk
    subst hiv
    have hi : i < 4 := by omega
    refine d_run 2 rfl ?_
    refine d_ic_ge k207_41 (fun h41 => ?_) (fun h41 => ?_)
    · exact absurd (ge_nI h41 (b := 4) rfl (by omega) (by omega)) (by omega)
    · refine d_run 1 rfl ?_
      refine d_gR k207_45 (by first | assumption | exact Nat.le_of_ble_eq_true rfl | omega) ⟨rfl, rfl, rfl⟩ rfl ?_
      refine d_run 2 rfl ?_
      refine d_gR k207_51 (by first | assumption | exact Nat.le_of_ble_eq_true rfl | omega) ⟨rfl, rfl, rfl⟩ rfl ?_
      refine d_run 1 rfl ?_
      refine d_ia (N := 4) k207_56 (by decide) (by first | assumption | exact Nat.le_of_ble_eq_true rfl | omega) ⟨⟨rfl, rfl⟩, rfl, rfl⟩ (show i < 4 by omega) rfl ?_
      rw [q2]
      refine d_is (N := 4) k207_57 (by first | assumption | exact Nat.le_of_ble_eq_true rfl | omega) ⟨rfl, rfl⟩ (show i < 4 by omega) rfl ?_
      refine d_run 2 rfl ?_
      refine ih (i + 1) _ _ (nI_1 i) (by omega) (fun j hj => ?_) (by rw [uF_k (by decide)]; exact q2) (by rw [uF_k (by decide)]; exact q4) (by rw [uF_k (by decide)]; exact q5) (q3.tr MPg.u77) kk
      rw [uF_r]
      by_cases e : j = i
      · subst e
        exact pk_us
      · rw [pk_un e]
        exact q1 j (by omega)
theorem l_mtry1 (hA : wfL A) {p N kk dd q : Nat} (hp : p < lP A) (hq : q < lS A) (hN : N ≤ 4) (hdd : dd + (kk + 1) = N) (hd : 20 + (kk + 1) ≤ d) (IH : TryM E x G b A p N kk (dd + 1)) {F0 : FT} {s : ST} {t T : PS} (hL0 : ML F0 A) (hS : rowS (F 70 0) (lP A) s) (hws : wfS A s) (hC : MPl F N dd t) (h72 : ∀ j, j < 50 → F 72 0 (50 * dd + j) = F0 70 0 j) (hg : MPg dd F0 F) (kx : ∀ F2, MPl F2 N dd (plR A p N kk (hourA A (wlkA s p q)) (t.1, upd t.2.1 dd (nI q), t.2.2)) → (∀ j, j < 50 → F2 72 0 (50 * dd + j) = F0 70 0 j) → (∀ j, j < 50 → F2 70 0 j = F0 70 0 j) → MPg dd F0 F2 → Td E d 207 84 [some (vr 40 0), some (vi (nI p)), some (vi (nI dd)), some (vi (nI N)), some (vi (nI q + 1))] [] x F2 G b none (fun F2 G2 => G2 = G ∧ MPl F2 N dd T ∧ (∀ i, i < 50 → F2 70 0 i = F0 70 0 i) ∧ MPg dd F0 F2)) : Td E d 207 121 [some (vr 40 0), some (vi (nI p)), some (vi (nI dd)), some (vi (nI N)), some (vi (nI q))] [] x F G b none (fun F2 G2 => G2 = G ∧ MPl F2 N dd T ∧ (∀ i, i < 50 → F2 70 0 i = F0 70 0 i) ∧ MPg dd F0 F2) := by
  have hL := hg.ml hL0
  have hP6 := hA.2.1
  have hS5 := hA.1
  have m0 := b_wlk (q := q) hA hS hp
  have hSa : rowS ((uF (uF F 70 0 (2 + p) (nI q)) 76 0 dd (nI q)) 70 0) (lP A) (wlkA s p q) := by rw [uF_k (by decide)]; exact m0.1
  have ga : MPg (dd + 1) F (uF (uF F 70 0 (2 + p) (nI q)) 76 0 dd (nI q)) := MPg.u70.tr MPg.u76
  have hws1 := wfS_wlk (p := p) hws hq
  refine d_run 1 rfl ?_
  refine d_gR k207_122 (by first | assumption | exact Nat.le_of_ble_eq_true rfl | omega) ⟨rfl, rfl, rfl⟩ rfl ?_
  refine d_run 4 rfl ?_
  refine d_is (N := 50) (j := 2 + p) k207_130 (by first | assumption | exact Nat.le_of_ble_eq_true rfl | omega) ⟨rfl, rfl⟩ (show 2 + p < 50 by omega) (nI_add 2 _) ?_
  refine d_run 1 rfl ?_
  refine d_gR k207_132 (by first | assumption | exact Nat.le_of_ble_eq_true rfl | omega) ⟨rfl, rfl, rfl⟩ rfl ?_
  refine d_run 2 rfl ?_
  refine d_is (N := 4) k207_138 (by first | assumption | exact Nat.le_of_ble_eq_true rfl | omega) ⟨rfl, rfl⟩ (show dd < 4 by omega) rfl ?_
  refine d_run 1 rfl ?_
  refine d_call 1 k207_140 (by omega) (Nat.le_of_ble_eq_true rfl) rfl (Nat.le_of_ble_eq_true rfl) (Nat.le_of_ble_eq_true rfl) (recv_ok rfl (by first | assumption | exact Nat.le_of_ble_eq_true rfl | omega)) rfl (b_passes (ga.ml hL) hA hSa hws1 (by omega)) rfl ?_
  rintro F1 G1 ⟨rfl, m1⟩
  have g1 : MPg (dd + 1) F F1 := ga.tr (MPg.q m1)
  have c1 : MPl F1 N (dd + 1) (t.1, upd t.2.1 dd (nI q), t.2.2) := by
    refine ⟨?_, fun j hj => ?_, ?_⟩
    · rw [m1.2.2.1 53 (by decide), uF_k (by decide), uF_k (by decide)]; exact hC.1
    · rw [m1.2.2.2 76 rfl, uF_r, uF_k (by decide)]
      simp only [upd]
      split
      · rfl
      · exact hC.2.1 j (by omega)
    · rw [m1.2.2.2 77 rfl, uF_k (by decide), uF_k (by decide)]
      exact hC.2.2
  refine d_run 7 rfl ?_
  rw [show ibop 0 (nI dd) 1 = nI (dd + 1) from nI_1 dd]
  refine d_call 4 k207_150 (by omega) (Nat.le_of_ble_eq_true rfl) rfl (Nat.le_of_ble_eq_true rfl) (Nat.le_of_ble_eq_true rfl) (recv_ok rfl (by first | assumption | exact Nat.le_of_ble_eq_true rfl | omega)) rfl (IH (d - 1) F1 _ _ (by omega) (g1.ml hL) m1.1 (wfS_hour hA hws1) c1) rfl ?_
  rintro F2 G2 ⟨rfl, c2, _, g2⟩
  refine d_run 1 rfl ?_
  refine d_gR k207_154 (by first | assumption | exact Nat.le_of_ble_eq_true rfl | omega) ⟨rfl, rfl, rfl⟩ rfl ?_
  refine d_run 4 rfl ?_
  refine d_gR k207_162 (by first | assumption | exact Nat.le_of_ble_eq_true rfl | omega) ⟨rfl, rfl, rfl⟩ rfl ?_
  refine d_run 1 rfl ?_
  rw [show ibop 2 50 (nI dd) = nI (50 * dd) from pk_mul 50 _]
  refine d_call 4 k207_166 (by omega) (Nat.le_of_ble_eq_true rfl) rfl (Nat.le_of_ble_eq_true rfl) (Nat.le_of_ble_eq_true rfl) recv_st rfl (b_cp72_70 (a := 50 * dd) (c := 0) (by omega) (by omega)) rfl ?_
  rintro F3 G3 ⟨rfl, q1, q2, q3⟩
  have g3 : MPg (dd + 1) F F3 := (g1.tr g2).tr (MPg.d70 q3)
  refine d_run 2 rfl ?_
  refine kx F3 ⟨?_, fun j hj => ?_, ?_⟩ (fun j hj => ?_) (fun j hj => ?_) (hg.tr g3.lo)
  · rw [q3 40 rfl]; exact c2.1
  · rw [q3 76 rfl]; exact c2.2.1 j (by omega)
  · rw [q3 77 rfl]; exact c2.2.2
  · rw [g3.1 _ (by omega)]; exact h72 j hj
  · have := q1 j hj
    rw [Nat.zero_add] at this
    rw [this, (g1.tr g2).1 _ (by omega)]
    exact h72 j hj
theorem l_mtry (hA : wfL A) {p N kk dd : Nat} (hp : p < lP A) (hN : N ≤ 4) (hdd : dd + (kk + 1) = N) (hd : 20 + (kk + 1) ≤ d) (IH : TryM E x G b A p N kk (dd + 1)) {F0 : FT} {s : ST} (hL0 : ML F0 A) (hS0 : rowS (F0 70 0) (lP A) s) (hws : wfS A s) : ∀ (r i : Nat) (iv : Int32) (t : PS) (F : FT), iv = nI i → i + r = lS A → MPl F N dd t → (∀ j, j < 50 → F 72 0 (50 * dd + j) = F0 70 0 j) → (∀ j, j < 50 → F 70 0 j = F0 70 0 j) → MPg dd F0 F → Td E d 207 84 [some (vr 40 0), some (vi (nI p)), some (vi (nI dd)), some (vi (nI N)), some (vi iv)] [] x F G b none (fun F2 G2 => G2 = G ∧ MPl F2 N dd (lpN (plF A p N kk s) i r t) ∧ (∀ i, i < 50 → F2 70 0 i = F0 70 0 i) ∧ MPg dd F0 F2) := by
  intro r
  induction r with
  | zero =>
    intro i iv t F hiv hir hC h72 h70 hg
    subst hiv
    have hi : i = lS A := by omega
    have hL := hg.ml hL0
    have hS : rowS (F 70 0) (lP A) s := hS0.eq hA.2.1 (fun i hi => h70 i hi)
    have hP6 := hA.2.1
    have hS5 := hA.1
    refine d_run 2 rfl ?_
    refine d_gR k207_87 (by first | assumption | exact Nat.le_of_ble_eq_true rfl | omega) ⟨rfl, rfl, rfl⟩ rfl ?_
    refine d_run 1 rfl ?_
    refine d_ia (N := 8) (j := 0) k207_91 (by decide) (by first | assumption | exact Nat.le_of_ble_eq_true rfl | omega) ⟨⟨rfl, rfl⟩, rfl, rfl⟩ (by decide) rfl ?_
    refine d_ic_ge k207_92 (fun h92 => ?_) (fun h92 => ?_)
    · refine d_ret k207_175 ?_
      exact ⟨rfl, hC, h70, hg⟩
    · exact absurd (lt_nI h92 hL.1 (by omega) (by omega)) (by omega)
  | succ r ih =>
    intro i iv t F hiv hir hC h72 h70 hg
    subst hiv
    have hi : i < lS A := by omega
    have hL := hg.ml hL0
    have hS : rowS (F 70 0) (lP A) s := hS0.eq hA.2.1 (fun i hi => h70 i hi)
    have hP6 := hA.2.1
    have hS5 := hA.1
    refine d_run 2 rfl ?_
    refine d_gR k207_87 (by first | assumption | exact Nat.le_of_ble_eq_true rfl | omega) ⟨rfl, rfl, rfl⟩ rfl ?_
    refine d_run 1 rfl ?_
    refine d_ia (N := 8) (j := 0) k207_91 (by decide) (by first | assumption | exact Nat.le_of_ble_eq_true rfl | omega) ⟨⟨rfl, rfl⟩, rfl, rfl⟩ (by decide) rfl ?_
    refine d_ic_ge k207_92 (fun h92 => ?_) (fun h92 => ?_)
    · exact absurd (ge_nI h92 hL.1 (by omega) (by omega)) (by omega)
    · refine d_run 2 rfl ?_
      refine d_gR k207_98 (by first | assumption | exact Nat.le_of_ble_eq_true rfl | omega) ⟨rfl, rfl, rfl⟩ rfl ?_
      refine d_run 3 rfl ?_
      refine d_ia (N := 50) k207_104 (by decide) (by first | assumption | exact Nat.le_of_ble_eq_true rfl | omega) ⟨⟨rfl, rfl⟩, rfl, rfl⟩ (by first | assumption | omega) (nI_add 2 _) ?_
      rw [hS.2.2.1 p hp]
      refine d_ic_eq k207_105 (fun h105 => ?_) (fun h105 => ?_)
      · have ho : plO A s p i = true := by simp [plO, h105]
        simp only [lpN]
        rw [show plF A p N kk s i t = plR A p N kk (hourA A (wlkA s p i)) (t.1, upd t.2.1 dd (nI i), t.2.2) by simp only [plF]; rw [ho, show N - (kk + 1) = dd by omega]; rfl]
        exact l_mtry1 hA hp hi hN hdd hd IH hL0 hS hws hC h72 hg (fun F2 a1 a2 a3 a4 => ih (i + 1) _ _ F2 (nI_1 i) (by omega) a1 a2 a3 a4)
      · refine d_run 3 rfl ?_
        refine d_callT 3 k207_112 (by omega) (Nat.le_of_ble_eq_true rfl) rfl (Nat.le_of_ble_eq_true rfl) (Nat.le_of_ble_eq_true rfl) (recv_ok rfl (by first | assumption | exact Nat.le_of_ble_eq_true rfl | omega)) rfl (b_canWalk hL hA hS hws hp (by omega)) rfl ?_
        refine d_if_ne k207_115 (fun h115 => ?_) (fun h115 => ?_)
        · rw [b2i0, Bool.not_eq_false] at h115
          have ho : plO A s p i = true := by simp [plO, h115]
          simp only [lpN]
          rw [show plF A p N kk s i t = plR A p N kk (hourA A (wlkA s p i)) (t.1, upd t.2.1 dd (nI i), t.2.2) by simp only [plF]; rw [ho, show N - (kk + 1) = dd by omega]; rfl]
          exact l_mtry1 hA hp hi hN hdd hd IH hL0 hS hws hC h72 hg (fun F2 a1 a2 a3 a4 => ih (i + 1) _ _ F2 (nI_1 i) (by omega) a1 a2 a3 a4)
        · rw [b2i0] at h115
          have ho : plO A s p i = false := by simp [plO, h105, h115]
          refine d_run 1 rfl ?_
          refine d_run 2 rfl ?_
          simp only [lpN]
          rw [show plF A p N kk s i t = t by simp only [plF]; rw [ho]; rfl]
          exact ih (i + 1) _ t F (nI_1 i) (by omega) hC h72 h70 hg
theorem b_try (hA : wfL A) {p N : Nat} (hp : p < lP A) (hN : N ≤ 4) : ∀ (k dd : Nat), dd + k = N → TryM E x G b A p N k dd := by
  intro k
  induction k with
  | zero =>
    intro dd hdd d F s t hd hL hS hws hC
    have hP6 := hA.2.1
    have e : dd = N := by omega
    subst e
    refine d_run 2 rfl ?_
    refine d_ic_ne k207_2 (fun h2 => ?_) (fun h2 => ?_)
    · exact absurd rfl h2
    · refine d_run 1 rfl ?_
      refine d_gR k207_6 (by first | assumption | exact Nat.le_of_ble_eq_true rfl | omega) ⟨rfl, rfl, rfl⟩ rfl ?_
      refine d_run 3 rfl ?_
      refine d_ia (N := 50) (j := 8 + p) k207_13 (by decide) (by first | assumption | exact Nat.le_of_ble_eq_true rfl | omega) ⟨⟨rfl, rfl⟩, rfl, rfl⟩ (show 8 + p < 50 by omega) (nI_add 8 _) ?_
      rw [hS.2.2.2.1 p hp]
      refine d_run 1 rfl ?_
      refine d_gI k207_15 (by first | assumption | exact Nat.le_of_ble_eq_true rfl | omega) ⟨rfl, rfl, Or.inl rfl⟩ ?_
      rw [hC.1]
      refine d_ic_gt k207_18 (fun h18 => ?_) (fun h18 => ?_)
      · refine d_run 2 rfl ?_
        refine d_gR k207_24 (by first | assumption | exact Nat.le_of_ble_eq_true rfl | omega) ⟨rfl, rfl, rfl⟩ rfl ?_
        refine d_run 3 rfl ?_
        refine d_ia (N := 50) (j := 8 + p) k207_31 (by decide) (by first | assumption | exact Nat.le_of_ble_eq_true rfl | omega) ⟨⟨rfl, rfl⟩, rfl, rfl⟩ (show 8 + p < 50 by omega) (nI_add 8 _) ?_
        rw [hS.2.2.2.1 p hp]
        refine d_pI k207_32 (by first | assumption | exact Nat.le_of_ble_eq_true rfl | omega) ⟨rfl, rfl⟩ ?_
        refine d_run 2 rfl ?_
        rw [show plR A p dd 0 s t = (sLf s p, t.2.1, t.2.1) by simp only [plR]; rw [if_pos h18]]
        refine l_mbest (N := dd) (F0 := uF F 40 0 53 (sLf s p)) 4 0 _ _ rfl (by omega) (fun j hj => absurd hj (by omega)) rfl rfl rfl MPg.rf ?_
        intro F2 q1 q2 q4 q5 q3
        refine ⟨rfl, ⟨?_, fun j hj => ?_, Or.inr (fun j hj => ?_)⟩, fun i _ => ?_, MPg.u53.tr q3⟩
        · rw [q4, uF_r, pk_us]
        · rw [q2, uF_k (by decide)]; exact hC.2.1 j hj
        · rw [q1 j (by omega), uF_k (by decide)]; exact hC.2.1 j hj
        · rw [q5, uF_k (by decide)]
      · refine d_ret k207_21 ?_
        rw [show plR A p dd 0 s t = t by simp only [plR]; rw [if_neg h18]]
        exact ⟨rfl, hC, fun _ _ => rfl, MPg.rf⟩
  | succ k ih =>
    intro dd hdd d F s t hd hL hS hws hC
    have hP6 := hA.2.1
    have IH := ih (dd + 1) (by omega)
    refine d_run 2 rfl ?_
    refine d_ic_ne k207_2 (fun h2 => ?_) (fun h2 => ?_)
    · refine d_run 1 rfl ?_
      refine d_gR k207_66 (by first | assumption | exact Nat.le_of_ble_eq_true rfl | omega) ⟨rfl, rfl, rfl⟩ rfl ?_
      refine d_run 2 rfl ?_
      refine d_gR k207_71 (by first | assumption | exact Nat.le_of_ble_eq_true rfl | omega) ⟨rfl, rfl, rfl⟩ rfl ?_
      refine d_run 3 rfl ?_
      rw [show ibop 2 50 (nI dd) = nI (50 * dd) from pk_mul 50 _]
      refine d_call 4 k207_78 (by omega) (Nat.le_of_ble_eq_true rfl) rfl (Nat.le_of_ble_eq_true rfl) (Nat.le_of_ble_eq_true rfl) recv_st rfl (b_cp70_72 (a := 0) (c := 50 * dd) (by omega) (by omega)) rfl ?_
      rintro F1 G1 ⟨rfl, q1, q2, q3⟩
      refine d_run 2 rfl ?_
      rw [show plR A p N (k + 1) s t = lpN (plF A p N k s) 0 (lS A) t from rfl]
      have gg : MPg dd F F1 := ⟨fun i hi => q2 i (Or.inl (by omega)), fun i _ _ => by rw [q3 40 rfl], q3.mo (fun k e => by simp only [dMk, Bool.or_eq_false_iff] at e; exact e.1.2), q3 74 rfl⟩
      exact l_mtry hA hp hN hdd hd IH hL hS hws (lS A) 0 _ t F1 rfl (by omega) ⟨by rw [q3 40 rfl]; exact hC.1, fun j hj => by rw [q3 76 rfl]; exact hC.2.1 j hj, by rw [q3 77 rfl]; exact hC.2.2⟩ (fun j hj => by rw [q1 j hj, Nat.zero_add]) (fun j _ => by rw [q3 70 rfl]) gg
    · exact absurd (nI_inj h2 (by omega) (by omega)) (by omega)
theorem e_plan0 (h : MInv F G o) (hw : WF o) (hd : 90 ≤ d) : Td E d 208 5 [some (vr 40 0), some (vi u), some (vi v), some (vi w)] [] x F G b (some (vi (q_plan o u v w))) (MPost (o) F G) := by
  have hL := h.2.1
  have hA := hw.1
  have hS := h.2.2.2.1.1
  have hwS := hw.2.1.1
  have hP6 := hA.2.1
  have hS5 := hA.1
  cases hN1 : isN u (lP (gA o)) with
  | false =>
    rw [show q_plan o u v w = -1 by simp [q_plan, g_plan, hN1]]
    refine d_run 2 rfl ?_
    refine d_callT 2 k208_7 (by omega) (Nat.le_of_ble_eq_true rfl) rfl (Nat.le_of_ble_eq_true rfl) (Nat.le_of_ble_eq_true rfl) (recv_ok rfl (by first | assumption | exact Nat.le_of_ble_eq_true rfl | omega)) rfl (e_isP hL) rfl ?_
    rw [hN1]
    refine d_if_eq k208_10 (fun h10 => ?_) (fun h10 => ?_)
    · refine d_run 1 rfl ?_
      refine d_ir k208_32 rfl (by rfl) ?_
      exact MPost.q0 h
    · exact absurd h10 (by decide)
  | true =>
    cases hN2 : isW2 v 1 4 with
    | false =>
      rw [show q_plan o u v w = -1 by simp [q_plan, g_plan, hN2]]
      refine d_run 2 rfl ?_
      refine d_callT 2 k208_7 (by omega) (Nat.le_of_ble_eq_true rfl) rfl (Nat.le_of_ble_eq_true rfl) (Nat.le_of_ble_eq_true rfl) (recv_ok rfl (by first | assumption | exact Nat.le_of_ble_eq_true rfl | omega)) rfl (e_isP hL) rfl ?_
      rw [hN1]
      refine d_if_eq k208_10 (fun h10 => ?_) (fun h10 => ?_)
      · exact absurd h10 (by decide)
      · refine d_run 3 rfl ?_
        refine d_callT 3 k208_16 (by omega) (Nat.le_of_ble_eq_true rfl) rfl (Nat.le_of_ble_eq_true rfl) (Nat.le_of_ble_eq_true rfl) recv_st rfl e_within rfl ?_
        rw [hN2]
        refine d_if_eq k208_19 (fun h19 => ?_) (fun h19 => ?_)
        · refine d_run 1 rfl ?_
          refine d_ir k208_32 rfl (by rfl) ?_
          exact MPost.q0 h
        · exact absurd h19 (by decide)
    | true =>
      cases hN3 : isW2 w 0 v with
      | false =>
        rw [show q_plan o u v w = -1 by simp [q_plan, g_plan, hN3]]
        refine d_run 2 rfl ?_
        refine d_callT 2 k208_7 (by omega) (Nat.le_of_ble_eq_true rfl) rfl (Nat.le_of_ble_eq_true rfl) (Nat.le_of_ble_eq_true rfl) (recv_ok rfl (by first | assumption | exact Nat.le_of_ble_eq_true rfl | omega)) rfl (e_isP hL) rfl ?_
        rw [hN1]
        refine d_if_eq k208_10 (fun h10 => ?_) (fun h10 => ?_)
        · exact absurd h10 (by decide)
        · refine d_run 3 rfl ?_
          refine d_callT 3 k208_16 (by omega) (Nat.le_of_ble_eq_true rfl) rfl (Nat.le_of_ble_eq_true rfl) (Nat.le_of_ble_eq_true rfl) recv_st rfl e_within rfl ?_
          rw [hN2]
          refine d_if_eq k208_19 (fun h19 => ?_) (fun h19 => ?_)
          · exact absurd h19 (by decide)
          · refine d_run 3 rfl ?_
            refine d_callT 3 k208_25 (by omega) (Nat.le_of_ble_eq_true rfl) rfl (Nat.le_of_ble_eq_true rfl) (Nat.le_of_ble_eq_true rfl) recv_st rfl e_within rfl ?_
            rw [hN3]
            refine d_if_ne k208_28 (fun h28 => ?_) (fun h28 => ?_)
            · exact absurd rfl h28
            · refine d_run 1 rfl ?_
              refine d_ir k208_32 rfl (by rfl) ?_
              exact MPost.q0 h
      | true =>
        rw [show q_plan o u v w = (if w = 0 then (planR o (ix u) (ix v)).1 else (planR o (ix u) (ix v)).2.2 (ix w - 1)) by simp [q_plan, g_plan, hN1, hN2, hN3]]
        obtain ⟨p, hp, rfl⟩ := isN_ex hN1 (by omega)
        obtain ⟨N, hN, rfl⟩ := isW2_ex (H := 4) hN2 ⟨by decide, rfl, by decide⟩
        obtain ⟨m, hm, rfl⟩ := isW2_ex (H := N) hN3 ⟨by decide, rfl, by omega⟩
        rw [ix_nI (show p < 100000 by omega), ix_nI (show N < 100000 by omega), ix_nI (show m < 100000 by omega)]
        have hok := (plR_ok hA (N := N) hp N (gS o) (-1, fun _ => 0, fun _ => 0) hwS).1 (Or.inl rfl)
        have hn1 : ¬ (planR o p N).1 = -1 := by
          obtain ⟨c, hc, e⟩ := hok
          intro e2
          have e3 : nI c = -1 := e.symm.trans e2
          exact nn_nI (c := c) (by omega) (by rw [e3]; decide)
        refine d_run 2 rfl ?_
        refine d_callT 2 k208_7 (by omega) (Nat.le_of_ble_eq_true rfl) rfl (Nat.le_of_ble_eq_true rfl) (Nat.le_of_ble_eq_true rfl) (recv_ok rfl (by first | assumption | exact Nat.le_of_ble_eq_true rfl | omega)) rfl (e_isP hL) rfl ?_
        rw [hN1]
        refine d_if_eq k208_10 (fun h10 => ?_) (fun h10 => ?_)
        · exact absurd h10 (by decide)
        · refine d_run 3 rfl ?_
          refine d_callT 3 k208_16 (by omega) (Nat.le_of_ble_eq_true rfl) rfl (Nat.le_of_ble_eq_true rfl) (Nat.le_of_ble_eq_true rfl) recv_st rfl e_within rfl ?_
          rw [hN2]
          refine d_if_eq k208_19 (fun h19 => ?_) (fun h19 => ?_)
          · exact absurd h19 (by decide)
          · refine d_run 3 rfl ?_
            refine d_callT 3 k208_25 (by omega) (Nat.le_of_ble_eq_true rfl) rfl (Nat.le_of_ble_eq_true rfl) (Nat.le_of_ble_eq_true rfl) recv_st rfl e_within rfl ?_
            rw [hN3]
            refine d_if_ne k208_28 (fun h28 => ?_) (fun h28 => ?_)
            · refine d_run 2 rfl ?_
              refine d_pI k208_35 (by first | assumption | exact Nat.le_of_ble_eq_true rfl | omega) ⟨rfl, rfl⟩ ?_
              refine d_run 4 rfl ?_
              refine d_call 4 k208_42 (by omega) (Nat.le_of_ble_eq_true rfl) rfl (Nat.le_of_ble_eq_true rfl) (Nat.le_of_ble_eq_true rfl) (recv_ok rfl (by first | assumption | exact Nat.le_of_ble_eq_true rfl | omega)) rfl (b_try hA hp hN N 0 (by omega) (d - 1) (uF F 40 0 53 (-1)) (gS o) (-1, fun _ => 0, fun _ => 0) (by omega) (MPg.u53.ml (dd := 0) hL) (by rw [uF_k (by decide)]; exact hS) hwS ⟨by rw [uF_r, pk_us], fun j hj => absurd hj (by omega), Or.inl rfl⟩) rfl ?_
              rintro F1 G1 ⟨rfl, ⟨c1, c3, c4⟩, r1, g1⟩
              have c1 : F1 40 0 53 = (planR o p N).1 := c1
              have c4 : eqR N (F1 77 0) (planR o p N).2.2 := c4.resolve_left hn1
              have g2 : MPg 0 F F1 := MPg.u53.tr g1
              refine d_run 1 rfl ?_
              refine d_if_ne k208_46 (fun h46 => ?_) (fun h46 => ?_)
              · have hm0 : ¬ m = 0 := fun e => h46 (by rw [e]; rfl)
                refine d_run 1 rfl ?_
                refine d_gR k208_57 (by first | assumption | exact Nat.le_of_ble_eq_true rfl | omega) ⟨rfl, rfl, rfl⟩ rfl ?_
                refine d_run 3 rfl ?_
                refine d_ia (N := 4) (j := m - 1) k208_63 (by decide) (by first | assumption | exact Nat.le_of_ble_eq_true rfl | omega) ⟨⟨rfl, rfl⟩, rfl, rfl⟩ (show m - 1 < 4 by omega) (nI_m1 (by omega)) ?_
                rw [c4 (m - 1) (by omega)]
                refine d_ir k208_64 rfl (by simp [h46]) ?_
                exact MPost.q h hw g2.2.2.1 (g2.2.1 1 (by decide) (by decide)) (g2.2.1 49 (by decide) (by decide)) g2.2.2.2 (fun i hi => by rw [r1 i hi, uF_k (by decide)]) (fun _ _ => rfl)
              · refine d_run 1 rfl ?_
                refine d_gI k208_50 (by first | assumption | exact Nat.le_of_ble_eq_true rfl | omega) ⟨rfl, rfl, Or.inl rfl⟩ ?_
                rw [c1]
                refine d_run 1 rfl ?_
                refine d_ir k208_64 rfl (by simp [h46]) ?_
                exact MPost.q h hw g2.2.2.1 (g2.2.1 1 (by decide) (by decide)) (g2.2.1 49 (by decide) (by decide)) g2.2.2.2 (fun i hi => by rw [r1 i hi, uF_k (by decide)]) (fun _ _ => rfl)
            · exact absurd h28 (by decide)
theorem e_plan (h : MInv F G o) (hw : WF o) (hd : 90 ≤ d) : Td E d 208 0 [some (vr 40 0), some (vi u), some (vi v), some (vi w)] [] x F G b (some (vi (q_plan o u v w))) (MPost (o) F G) := by
  refine d_run 2 rfl ?_
  refine d_pI k208_2 (by first | assumption | exact Nat.le_of_ble_eq_true rfl | omega) ⟨rfl, rfl⟩ ?_
  exact MPost.th h hw (fun h => e_plan0 h hw hd)
end M16
