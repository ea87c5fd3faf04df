/-! THE REFERENCE'S LAND -/
/-- the codes of the land that holds -/
def MLw (F : FT) (fc : List Int32) : Prop := F 50 0 0 = 0 ∧ F 51 0 0 = nI fc.length ∧ fc.length ≤ 1000 ∧ ∀ i (hi : i < fc.length), F 52 0 i = fc[i]
def telF (fc : List Int32) (LW : LWT) : Prop := (fc = [] ∧ ∀ gg tt mm ww, LW gg tt mm ww = 30 - gg) ∨ ∃ (t : TP) (n p : Nat) (r : RA), p ≤ t.1 ∧ t.1 ≤ 1000 ∧ rdL t n 0 0 0 (p, dfl, [], []) = some (.inr r) ∧ fc = r.2.2.2 ∧ LW = r.2.1
def MLX (F : FT) (LW : LWT) : Prop := ∃ fc, MLw F fc ∧ telF fc LW
/-- what a land may change -/
def dM4 (k : Nat) : Bool := decide (40 ≤ k) && decide (k ≤ 80)
def MI2 (F : FT) (G : GT) (o : SG) : Prop := MInv F G o ∧ MLX F (lW (gA o))
def MP2 (o : SG) (F : FT) (G : GT) (F2 : FT) (G2 : GT) : Prop := MI2 F2 G2 o ∧ FrK dM4 F F2 ∧ ∀ k, k ≠ 40 → k ≠ 43 → k ≠ 44 → G2 k = G k
/-- a land laid -/
def MLy (F : FT) (G : GT) (B : LB) : Prop := F 42 0 0 = nI (bS B) ∧ F 42 0 1 = nI (bP B) ∧ F 42 0 2 = bR B 5 0 ∧ F 42 0 3 = bR B 5 1 ∧ eqR (bS B) (F 45 0) (bR B 0) ∧ eqR (bP B) (F 46 0) (bR B 1) ∧ eqR (bP B) (F 47 0) (bR B 2) ∧ eqR (bP B) (F 48 0) (bR B 3) ∧ eqR (bP B) (F 49 0) (bR B 4) ∧ (∀ i, i < bS B → G 43 0 i = w27 ((bN B).1 i)) ∧ (∀ i, i < bP B → G 44 0 i = w27 ((bN B).2 i)) ∧ MLw F (bD B)
def dLy2 (k : Nat) : Bool := decide (k = 42) || (decide (45 ≤ k) && decide (k ≤ 52))
theorem dec_f {a b : Nat} (h : a ≠ b) : (fun j => decide (j = b)) a = false := by simp [h]
section TI
variable {E : EV} {d x p n : Nat} {F F0 : FT} {G G0 : GT} {b : Bool} {t : TP} {B : LB} {o : SG} {u v w : Int32}
theorem m_lays (hd : 5 ≤ d) (hB : MLb F G B) (hS : bS B ≤ 5) (hP : bP B ≤ 6) (hl : (bD B).length ≤ 1000) : Td E d 167 0 [some (vr 40 0)] [] x F G b none (fun F2 G2 => MLy F2 G2 B ∧ FrK dLy2 F F2 ∧ ∀ k, k ≠ 43 → k ≠ 44 → G2 k = G k) := by
  obtain ⟨⟨a1, a2, a3, a4, a5, a6, a7, a8, a9, a10, a11, a12⟩, c1, c2, c3, c4⟩ := hB
  refine d_run 1 rfl ?_
  refine d_gR k167_1 (by first | assumption | exact Nat.le_of_ble_eq_true rfl | omega) ⟨rfl, rfl, rfl⟩ rfl ?_
  refine d_run 1 rfl ?_
  refine d_call 2 k167_5 (by omega) (Nat.le_of_ble_eq_true rfl) rfl (Nat.le_of_ble_eq_true rfl) (Nat.le_of_ble_eq_true rfl) recv_st rfl b_sh42 rfl ?_
  rintro F42 G42 ⟨e42, s42⟩
  subst e42
  refine d_run 1 rfl ?_
  refine d_gR k167_9 (by first | assumption | exact Nat.le_of_ble_eq_true rfl | omega) ⟨rfl, rfl, rfl⟩ rfl ?_
  refine d_run 1 rfl ?_
  refine d_call 2 k167_13 (by omega) (Nat.le_of_ble_eq_true rfl) rfl (Nat.le_of_ble_eq_true rfl) (Nat.le_of_ble_eq_true rfl) recv_st rfl b_sh43 rfl ?_
  rintro F43 G43 ⟨e43, s43⟩
  subst e43
  refine d_run 1 rfl ?_
  refine d_gR k167_17 (by first | assumption | exact Nat.le_of_ble_eq_true rfl | omega) ⟨rfl, rfl, rfl⟩ rfl ?_
  refine d_run 1 rfl ?_
  refine d_call 2 k167_22 (by omega) (Nat.le_of_ble_eq_true rfl) rfl (Nat.le_of_ble_eq_true rfl) (Nat.le_of_ble_eq_true rfl) recv_st rfl b_sh44 rfl ?_
  rintro F44 G44 ⟨e44, s44⟩
  subst e44
  refine d_run 1 rfl ?_
  refine d_gR k167_26 (by first | assumption | exact Nat.le_of_ble_eq_true rfl | omega) ⟨rfl, rfl, rfl⟩ rfl ?_
  refine d_run 1 rfl ?_
  refine d_call 2 k167_30 (by omega) (Nat.le_of_ble_eq_true rfl) rfl (Nat.le_of_ble_eq_true rfl) (Nat.le_of_ble_eq_true rfl) recv_st rfl b_sh45 rfl ?_
  rintro F45 G45 ⟨e45, s45⟩
  subst e45
  refine d_run 1 rfl ?_
  refine d_gR k167_34 (by first | assumption | exact Nat.le_of_ble_eq_true rfl | omega) ⟨rfl, rfl, rfl⟩ rfl ?_
  refine d_run 1 rfl ?_
  refine d_call 2 k167_39 (by omega) (Nat.le_of_ble_eq_true rfl) rfl (Nat.le_of_ble_eq_true rfl) (Nat.le_of_ble_eq_true rfl) recv_st rfl b_sh46 rfl ?_
  rintro F46 G46 ⟨e46, s46⟩
  subst e46
  refine d_run 1 rfl ?_
  refine d_gR k167_43 (by first | assumption | exact Nat.le_of_ble_eq_true rfl | omega) ⟨rfl, rfl, rfl⟩ rfl ?_
  refine d_run 1 rfl ?_
  refine d_call 2 k167_48 (by omega) (Nat.le_of_ble_eq_true rfl) rfl (Nat.le_of_ble_eq_true rfl) (Nat.le_of_ble_eq_true rfl) recv_st rfl b_sh47 rfl ?_
  rintro F47 G47 ⟨e47, s47⟩
  subst e47
  refine d_run 1 rfl ?_
  refine d_gR k167_52 (by first | assumption | exact Nat.le_of_ble_eq_true rfl | omega) ⟨rfl, rfl, rfl⟩ rfl ?_
  refine d_run 1 rfl ?_
  refine d_call 2 k167_57 (by omega) (Nat.le_of_ble_eq_true rfl) rfl (Nat.le_of_ble_eq_true rfl) (Nat.le_of_ble_eq_true rfl) recv_st rfl b_sh48 rfl ?_
  rintro F48 G48 ⟨e48, s48⟩
  subst e48
  refine d_run 1 rfl ?_
  refine d_gR k167_61 (by first | assumption | exact Nat.le_of_ble_eq_true rfl | omega) ⟨rfl, rfl, rfl⟩ rfl ?_
  refine d_run 1 rfl ?_
  refine d_call 2 k167_66 (by omega) (Nat.le_of_ble_eq_true rfl) rfl (Nat.le_of_ble_eq_true rfl) (Nat.le_of_ble_eq_true rfl) recv_st rfl b_sh49 rfl ?_
  rintro F49 G49 ⟨e49, s49⟩
  subst e49
  refine d_run 1 rfl ?_
  refine d_gR k167_70 (by first | assumption | exact Nat.le_of_ble_eq_true rfl | omega) ⟨rfl, rfl, rfl⟩ rfl ?_
  refine d_run 1 rfl ?_
  refine d_call 2 k167_76 (by omega) (Nat.le_of_ble_eq_true rfl) rfl (Nat.le_of_ble_eq_true rfl) (Nat.le_of_ble_eq_true rfl) recv_st rfl b_sh52 rfl ?_
  rintro F52 G52 ⟨e52, s52⟩
  subst e52
  have fr : ∀ k, k ≠ 42 → (k < 45 ∨ 49 < k) → k ≠ 52 → F52 k = F k := fun k h1 h2 h3 => by rw [s52.2.2 k (dec_f (by omega)), s49.2.2 k (dec_f (by omega)), s48.2.2 k (dec_f (by omega)), s47.2.2 k (dec_f (by omega)), s46.2.2 k (dec_f (by omega)), s45.2.2 k (dec_f (by omega)), s42.2.2 k (dec_f (by omega))]
  have t42 : F52 42 = F44 42 := by rw [s52.2.2 42 (dec_f (by decide)), s49.2.2 42 (dec_f (by decide)), s48.2.2 42 (dec_f (by decide)), s47.2.2 42 (dec_f (by decide)), s46.2.2 42 (dec_f (by decide)), s45.2.2 42 (dec_f (by decide))]
  have t45 : F52 45 = F45 45 := by rw [s52.2.2 45 (dec_f (by decide)), s49.2.2 45 (dec_f (by decide)), s48.2.2 45 (dec_f (by decide)), s47.2.2 45 (dec_f (by decide)), s46.2.2 45 (dec_f (by decide))]
  have t46 : F52 46 = F46 46 := by rw [s52.2.2 46 (dec_f (by decide)), s49.2.2 46 (dec_f (by decide)), s48.2.2 46 (dec_f (by decide)), s47.2.2 46 (dec_f (by decide))]
  have t47 : F52 47 = F47 47 := by rw [s52.2.2 47 (dec_f (by decide)), s49.2.2 47 (dec_f (by decide)), s48.2.2 47 (dec_f (by decide))]
  have t48 : F52 48 = F48 48 := by rw [s52.2.2 48 (dec_f (by decide)), s49.2.2 48 (dec_f (by decide))]
  have t49 : F52 49 = F49 49 := by rw [s52.2.2 49 (dec_f (by decide))]
  have u45 : F44 45 = F 45 := s42.2.2 45 (dec_f (by decide))
  have u46 : F45 46 = F 46 := by rw [s45.2.2 46 (dec_f (by decide)), s42.2.2 46 (dec_f (by decide))]
  have u47 : F46 47 = F 47 := by rw [s46.2.2 47 (dec_f (by decide)), s45.2.2 47 (dec_f (by decide)), s42.2.2 47 (dec_f (by decide))]
  have u48 : F47 48 = F 48 := by rw [s47.2.2 48 (dec_f (by decide)), s46.2.2 48 (dec_f (by decide)), s45.2.2 48 (dec_f (by decide)), s42.2.2 48 (dec_f (by decide))]
  have u49 : F48 49 = F 49 := by rw [s48.2.2 49 (dec_f (by decide)), s47.2.2 49 (dec_f (by decide)), s46.2.2 49 (dec_f (by decide)), s45.2.2 49 (dec_f (by decide)), s42.2.2 49 (dec_f (by decide))]
  have u52 : F49 52 = F 52 := by rw [s49.2.2 52 (dec_f (by decide)), s48.2.2 52 (dec_f (by decide)), s47.2.2 52 (dec_f (by decide)), s46.2.2 52 (dec_f (by decide)), s45.2.2 52 (dec_f (by decide)), s42.2.2 52 (dec_f (by decide))]
  refine d_run 1 rfl ?_
  refine d_gR k167_80 (by first | assumption | exact Nat.le_of_ble_eq_true rfl | omega) ⟨rfl, rfl, rfl⟩ rfl ?_
  refine d_run 2 rfl ?_
  refine d_gR k167_85 (by first | assumption | exact Nat.le_of_ble_eq_true rfl | omega) ⟨rfl, rfl, rfl⟩ rfl ?_
  refine d_run 1 rfl ?_
  refine d_ia (N := 2) (j := 1) k167_89 (by decide) (by first | assumption | exact Nat.le_of_ble_eq_true rfl | omega) ⟨⟨rfl, rfl⟩, rfl, rfl⟩ (by decide) rfl ?_
  rw [fr 50 (by decide) (by decide) (by decide), c2]
  refine d_run 2 rfl ?_
  rw [show ibop 1 1000 1000 = (0 : Int32) from rfl]
  refine d_is (N := 2) (j := 0) k167_94 (by first | assumption | exact Nat.le_of_ble_eq_true rfl | omega) ⟨rfl, rfl⟩ (by decide) rfl ?_
  refine d_run 1 rfl ?_
  refine d_gR k167_96 (by first | assumption | exact Nat.le_of_ble_eq_true rfl | omega) ⟨rfl, rfl, rfl⟩ rfl ?_
  refine d_run 2 rfl ?_
  refine d_gR k167_101 (by first | assumption | exact Nat.le_of_ble_eq_true rfl | omega) ⟨rfl, rfl, rfl⟩ rfl ?_
  refine d_run 1 rfl ?_
  refine d_ia (N := 2) (j := 1) k167_105 (by decide) (by first | assumption | exact Nat.le_of_ble_eq_true rfl | omega) ⟨⟨rfl, rfl⟩, rfl, rfl⟩ (by decide) rfl ?_
  rw [uF_k (by decide), fr 51 (by decide) (by decide) (by decide), c3]
  refine d_run 2 rfl ?_
  rw [show ibop 1 (nI (1000 + (bD B).length)) 1000 = nI (bD B).length by rw [show (1000 : Int32) = nI 1000 from rfl]; show nI _ - nI _ = _; rw [pk_sub (by omega), Nat.add_sub_cancel_left]]
  refine d_is (N := 2) (j := 0) k167_110 (by first | assumption | exact Nat.le_of_ble_eq_true rfl | omega) ⟨rfl, rfl⟩ (by decide) rfl ?_
  refine d_ret k167_111 ?_
  refine ⟨⟨?_, ?_, ?_, ?_, fun i hi => ?_, fun i hi => ?_, fun i hi => ?_, fun i hi => ?_, fun i hi => ?_, fun i hi => ?_, fun i hi => ?_, ?_, uF_e, hl, fun i hi => ?_⟩, fun k hk => ?_, fun k h1 h2 => ?_⟩
  · rw [uF_k (by decide), uF_k (by decide), t42, s42.1 0 (by decide)]; exact a1
  · rw [uF_k (by decide), uF_k (by decide), t42, s42.1 1 (by decide)]; exact a2
  · rw [uF_k (by decide), uF_k (by decide), t42, s42.1 2 (by decide)]; exact a3
  · rw [uF_k (by decide), uF_k (by decide), t42, s42.1 3 (by decide)]; exact a4
  · rw [uF_k (by decide), uF_k (by decide), t45, s45.1 i (by omega), u45]; exact a5 i hi
  · rw [uF_k (by decide), uF_k (by decide), t46, s46.1 i (by omega), u46]; exact a6 i hi
  · rw [uF_k (by decide), uF_k (by decide), t47, s47.1 i (by omega), u47]; exact a7 i hi
  · rw [uF_k (by decide), uF_k (by decide), t48, s48.1 i (by omega), u48]; exact a8 i hi
  · rw [uF_k (by decide), uF_k (by decide), t49, s49.1 i (by omega), u49]; exact a9 i hi
  · rw [s44.2.2 43 (by decide), s43.1 i (by omega)]; exact a10 i hi
  · rw [s44.1 i (by omega), s43.2.2 44 (by decide)]; exact a11 i hi
  · rw [uF_q (by omega), uF_e]
  · rw [uF_q (by omega), uF_q (by omega), s52.1 i (by omega), u52]; exact c4 i hi
  · simp only [dLy2, Bool.or_eq_false_iff, Bool.and_eq_false_iff, decide_eq_false_iff_not] at hk
    rw [uF_k (by omega), uF_k (by omega)]
    exact fr k (by omega) (by omega) (by omega)
  · rw [s44.2.2 k h2, s43.2.2 k h1]
theorem MLw.fr {F F2 : FT} {fc : List Int32} (h : MLw F fc) (h50 : F2 50 0 0 = F 50 0 0) (h51 : F2 51 0 0 = F 51 0 0) (h52 : ∀ i, i < 1000 → F2 52 0 i = F 52 0 i) : MLw F2 fc := by
  obtain ⟨a1, a2, a3, a4⟩ := h
  exact ⟨h50.trans a1, h51.trans a2, a3, fun i hi => (h52 i (by omega)).trans (a4 i hi)⟩
theorem MLX.fr {F F2 : FT} {LW : LWT} (h : MLX F LW) (h50 : F2 50 0 0 = F 50 0 0) (h51 : F2 51 0 0 = F 51 0 0) (h52 : ∀ i, i < 1000 → F2 52 0 i = F 52 0 i) : MLX F2 LW := by
  obtain ⟨fc, h1, h2⟩ := h
  exact ⟨fc, h1.fr h50 h51 h52, h2⟩
theorem dLd_f {k : Nat} (h : k ≠ 40 ∧ k ≠ 42 ∧ (k < 45 ∨ 54 < k)) : dLd k = false := by
  simp only [dLd, Bool.or_eq_false_iff, Bool.and_eq_false_iff, decide_eq_false_iff_not]
  omega
theorem M3.inv {F2 : FT} {G2 : GT} (hWK : ∀ (F : FT) (LW : LWT), MLX F LW → WKok F LW) (h : MI2 F G o) (hw : WF o) (m : M3 (uF F 40 0 0 0) G F2 G2) (h1 : F2 40 0 1 = 0) : MP2 ((0, (gT o).2), o.2) F G F2 G2 := by
  obtain ⟨⟨i1, i2, i3, i4, i5, i6⟩, iX⟩ := h
  obtain ⟨m1, m2, m3, m4⟩ := m
  have hS := hw.1.1
  have hP := hw.1.2.1
  have kk : ∀ k i, k ≠ 40 → kpF k i → F2 k 0 i = F k 0 i := fun k i a c => by rw [m3 k i c (by omega), uF_q (by omega)]
  have kf : ∀ k, (k ≠ 40 ∧ k ≠ 42 ∧ (k < 45 ∨ 54 < k)) → F2 k = F k := fun k a => by rw [m1 k (dLd_f a), uF_k a.1]
  have iX2 : MLX F2 (lW (gA o)) := iX.fr (kk 50 0 (by decide) (by unfold kpF; omega)) (kk 51 0 (by decide) (by unfold kpF; omega)) (fun i hi => kk 52 i (by decide) (by unfold kpF; omega))
  obtain ⟨l1, l2, l3, l4, l5, l6, l7, l8, l9, _⟩ := i2
  refine ⟨⟨⟨⟨h1, Nat.zero_le _, fun i hi => absurd hi (Nat.not_lt_zero _)⟩, ⟨?_, ?_, ?_, ?_, fun i hi => ?_, fun i hi => ?_, fun i hi => ?_, fun i hi => ?_, fun i hi => ?_, hWK _ _ iX2⟩, ⟨fun i hi => ?_, fun i hi => ?_⟩, ?_, i5.fr (fun k a c => kf k (by omega)) (kf 73 (by omega)) (kf 75 (by omega)), i6.fr ?_ (kf 74 (by omega))⟩, iX2⟩, fun k hk => ?_, fun k a c e => m2 k a c e⟩
  · rw [kk 42 0 (by decide) (by unfold kpF; omega)]; exact l1
  · rw [kk 42 1 (by decide) (by unfold kpF; omega)]; exact l2
  · rw [kk 42 2 (by decide) (by unfold kpF; omega)]; exact l3
  · rw [kk 42 3 (by decide) (by unfold kpF; omega)]; exact l4
  · have hi : i < lS (gA o) := hi
    rw [kk 45 i (by decide) (by unfold kpF; omega)]; exact l5 i hi
  · have hi : i < lP (gA o) := hi
    rw [kk 46 i (by decide) (by unfold kpF; omega)]; exact l6 i hi
  · have hi : i < lP (gA o) := hi
    rw [kk 47 i (by decide) (by unfold kpF; omega)]; exact l7 i hi
  · have hi : i < lP (gA o) := hi
    rw [kk 48 i (by decide) (by unfold kpF; omega)]; exact l8 i hi
  · have hi : i < lP (gA o) := hi
    rw [kk 49 i (by decide) (by unfold kpF; omega)]; exact l9 i hi
  · have hi : i < lS (gA o) := hi
    rw [m4 43 i (by unfold kpG; omega)]; exact i3.1 i hi
  · have hi : i < lP (gA o) := hi
    rw [m4 44 i (by unfold kpG; omega)]; exact i3.2 i hi
  · obtain ⟨s1, s2, s3⟩ := i4
    refine ⟨by rw [kf 70 (by omega)]; exact s1, s2.fr (fun k a c => kf k (by omega)), fun q hq => ?_⟩
    rw [kf 69 (by omega)]
    exact s3 q hq
  · rw [m3 40 49 (by unfold kpF; omega) (by omega), uF_q (by omega)]
  · simp only [dM4, Bool.and_eq_false_iff, decide_eq_false_iff_not] at hk
    exact kf k (by omega)
theorem l_land4 {F0 : FT} : ∀ (r i : Nat) (iv : Int32) (F : FT), iv = nI i → i + r = 4 → (∀ j, j < i → F 75 0 j = 0) → FrK (fun j => decide (j = 75)) F0 F → Td E d 173 43 [some (vr 40 0), some (vi iv)] [] x F G b (some (vi 0)) (fun F2 G2 => G2 = G ∧ (∀ j, j < 4 → F2 75 0 j = 0) ∧ FrK (fun j => decide (j = 75)) F0 F2) := by
  intro r
  induction r with
  | zero =>
    intro i iv F hiv hir q1 q3
    subst hiv
    have hi : i = 4 := by omega
    refine d_run 2 rfl ?_
    refine d_ic_ge k173_45 (fun h45 => ?_) (fun h45 => ?_)
    · refine d_run 1 rfl ?_
      refine d_ir k173_62 rfl (by rfl) ?_
      subst hi
      exact ⟨rfl, q1, q3⟩
    · exact absurd (lt_nI h45 (show (4 : Int32) = nI 4 from rfl) (by omega) (by omega)) (by omega)
  | succ r ih =>
    intro i iv F hiv hir q1 q3
    subst hiv
    have hi : i < 4 := by omega
    refine d_run 2 rfl ?_
    refine d_ic_ge k173_45 (fun h45 => ?_) (fun h45 => ?_)
    · exact absurd (ge_nI h45 (show (4 : Int32) = nI 4 from rfl) (by omega) (by omega)) (by omega)
    · refine d_run 1 rfl ?_
      refine d_gR k173_49 (by first | assumption | exact Nat.le_of_ble_eq_true rfl | omega) ⟨rfl, rfl, rfl⟩ rfl ?_
      refine d_run 2 rfl ?_
      refine d_zs (N := 4) (j := i) k173_54 (by first | assumption | exact Nat.le_of_ble_eq_true rfl | omega) ⟨rfl, rfl⟩ (show i < 4 by omega) rfl (by first | exact Or.inl rfl | exact Or.inr rfl) ?_
      refine d_run 2 rfl ?_
      rw [show nI i + 1 = nI (i + 1) from nI_1 _]
      refine ih (i + 1) _ _ rfl (by omega) (fun j hj => ?_) (q3.u (by simp))
      by_cases e : j = i
      · rw [e, uF_e]
      · rw [uF_q (by omega)]; exact q1 j (by omega)
theorem m_land (hWK : ∀ (F : FT) (LW : LWT), MLX F LW → WKok F LW) (h : MI2 F G o) (hw : WF o) (hd : 100 ≤ d) : Td E d 173 0 [some (vr 40 0), none] [] x F G b (some (vi (q_land o))) (MP2 (n_land o) F G) := by
  have ht := hw.2.2.2.2.2.2
  have hT := h.1.1
  refine d_run 2 rfl ?_
  refine d_pI k173_2 (by first | assumption | exact Nat.le_of_ble_eq_true rfl | omega) ⟨rfl, rfl⟩ ?_
  refine d_run 1 rfl ?_
  refine d_call 1 k173_6 (by omega) (Nat.le_of_ble_eq_true rfl) rfl (Nat.le_of_ble_eq_true rfl) (Nat.le_of_ble_eq_true rfl) (recv_ok rfl (by first | assumption | exact Nat.le_of_ble_eq_true rfl | omega)) rfl (m_all (t := gT o) (by omega) (by rw [uF_q (by omega)]; exact hT.1) (by rw [uF_k (by decide)]; exact hT.2.2) ht) rfl ?_
  rintro F2 G2 ⟨z1, m3, z2⟩
  refine d_if_ne k173_9 (fun h9 => ?_) (fun h9 => ?_)
  · rw [b2i0, Bool.not_eq_false] at h9
    obtain ⟨B, eB⟩ := okB_t h9
    rw [eB] at z2
    rw [show q_land o = 0 by unfold q_land; rw [eB]; rfl, show n_land o = ((0, (gT o).2), bN B, toLA B, begC (toLA B), (fun j => (false, (gM o j).2)), []) by unfold n_land; rw [eB]]
    have hwB := ldL_wf ht.1 1000 (tB (gT o) 0) begB B (tB_le (Nat.zero_le _)).2 beg_wf eB
    have hcd := lwB_cd hwB.2
    refine d_run 1 rfl ?_
    refine d_call 1 k173_18 (by omega) (Nat.le_of_ble_eq_true rfl) rfl (Nat.le_of_ble_eq_true rfl) (Nat.le_of_ble_eq_true rfl) (recv_ok rfl (by first | assumption | exact Nat.le_of_ble_eq_true rfl | omega)) rfl (m_lays (by omega) z2 hwB.1.1 hwB.1.2.1 hcd.2) rfl ?_
    rintro F3 G3 ⟨ly, f3, g3⟩
    obtain ⟨l1, l2, l3, l4, l5, l6, l7, l8, l9, l10, l11, lw⟩ := ly
    have hX : MLX F3 (bW B) := ⟨bD B, lw, by
      rcases hwB.2 with ⟨_, e2, e3⟩ | ⟨t, n, p, r, e1, e2, e3, _, e5, e6⟩
      · exact Or.inl ⟨e2, e3⟩
      · exact Or.inr ⟨t, n, p, r, e1, e2, e3, e5, e6⟩⟩
    have hL : ML F3 (toLA B) := ⟨l1, l2, l3, l4, l5, l6, l7, l8, l9, hWK _ _ hX⟩
    have hA := wfL_of hwB.1
    refine d_run 1 rfl ?_
    refine d_call 1 k173_22 (by omega) (Nat.le_of_ble_eq_true rfl) rfl (Nat.le_of_ble_eq_true rfl) (Nat.le_of_ble_eq_true rfl) (recv_ok rfl (by first | assumption | exact Nat.le_of_ble_eq_true rfl | omega)) rfl (b_fresh hL hA) rfl ?_
    rintro F4 G4 ⟨e4, w4, f4⟩
    subst e4
    refine d_run 1 rfl ?_
    refine d_call 1 k173_26 (by omega) (Nat.le_of_ble_eq_true rfl) rfl (Nat.le_of_ble_eq_true rfl) (Nat.le_of_ble_eq_true rfl) (recv_ok rfl (by first | assumption | exact Nat.le_of_ble_eq_true rfl | omega)) rfl b_forg rfl ?_
    rintro F5 G5 ⟨e5, w5, _, f5⟩
    subst e5
    refine d_run 1 rfl ?_
    refine d_gR k173_30 (by first | assumption | exact Nat.le_of_ble_eq_true rfl | omega) ⟨rfl, rfl, rfl⟩ rfl ?_
    refine d_run 2 rfl ?_
    refine d_is (N := 6) (j := 0) k173_35 (by first | assumption | exact Nat.le_of_ble_eq_true rfl | omega) ⟨rfl, rfl⟩ (by decide) rfl ?_
    refine d_run 2 rfl ?_
    refine d_pI k173_38 (by first | assumption | exact Nat.le_of_ble_eq_true rfl | omega) ⟨rfl, rfl⟩ ?_
    refine d_run 2 rfl ?_
    refine td_mo (l_land4 (F0 := uF (uF F5 65 0 0 0) 40 0 49 0) 4 0 _ _ rfl (by omega) (fun j hj => absurd hj (Nat.not_lt_zero _)) FrK.rf) (fun F7 G7 e => ?_)
    obtain ⟨e7, q7, f7⟩ := e
    subst e7
    have fr : ∀ k, k ≠ 75 → k ≠ 65 → k ≠ 40 → k ≠ 69 → k ≠ 70 → F7 k = F3 k := fun k a1 a2 a3 a4 a5 => by rw [f7 k (dec_f a1), uF_k a3, uF_k a2, f5 k (dec_f a4), f4 k (dec_f a5)]
    have e40 : ∀ i, i ≠ 49 → F7 40 0 i = F2 40 0 i := fun i hi => by rw [f7 40 (dec_f (by decide)), uF_q (by omega), uF_k (by decide), f5 40 (dec_f (by decide)), f4 40 (dec_f (by decide)), f3 40 rfl]
    refine ⟨⟨⟨⟨by rw [e40 1 (by decide)]; exact z1, Nat.zero_le _, fun i hi => absurd hi (Nat.not_lt_zero _)⟩, hL.fr (fun k a c => fr k (by omega) (by omega) (by omega) (by omega) (by omega)), ⟨l10, l11⟩, ⟨?_, ⟨?_, Nat.zero_le _, fun i hi => absurd hi (Nat.not_lt_zero _)⟩, fun q hq => ?_⟩, fun j hj => ⟨q7 j hj, fun e => by cases e⟩, ⟨?_, Nat.zero_le _, fun j hj => absurd hj (Nat.not_lt_zero _)⟩⟩, hX.fr (by rw [fr 50 (by decide) (by decide) (by decide) (by decide) (by decide)]) (by rw [fr 51 (by decide) (by decide) (by decide) (by decide) (by decide)]) (fun i _ => by rw [fr 52 (by decide) (by decide) (by decide) (by decide) (by decide)])⟩, fun k hk => ?_, fun k a c e => ?_⟩
    · rw [f7 70 (dec_f (by decide)), uF_k (by decide), uF_k (by decide), f5 70 (dec_f (by decide))]
      exact w4
    · rw [f7 65 (dec_f (by decide)), uF_k (by decide), uF_e]
      rfl
    · rw [f7 69 (dec_f (by decide)), uF_k (by decide), uF_k (by decide)]
      exact w5 _ (by omega)
    · rw [f7 40 (dec_f (by decide)), uF_e]
      rfl
    · simp only [dM4, Bool.and_eq_false_iff, decide_eq_false_iff_not] at hk
      rw [fr k (by omega) (by omega) (by omega) (by omega) (by omega), f3 k (by simp only [dLy2, Bool.or_eq_false_iff, Bool.and_eq_false_iff, decide_eq_false_iff_not]; omega), m3.1 k (dLd_f (by omega)), uF_k (by omega)]
    · rw [g3 k c e, m3.2.1 k a c e]
  · rw [b2i0] at h9
    obtain ⟨f, ef⟩ := okB_f h9
    rw [ef] at z2
    rw [show q_land o = nI f by unfold q_land; rw [ef]; rfl, show n_land o = ((0, (gT o).2), o.2) by unfold n_land; rw [ef]]
    refine d_run 1 rfl ?_
    refine d_gI k173_13 (by first | assumption | exact Nat.le_of_ble_eq_true rfl | omega) ⟨rfl, rfl, Or.inl rfl⟩ ?_
    rw [show F2 40 0 9 = nI f from z2]
    refine d_ir k173_16 rfl (by rfl) ?_
    exact m3.inv hWK h hw z1
end TI
