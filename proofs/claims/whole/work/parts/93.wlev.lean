/-! worked(): its levels -/
def d55 (k : Nat) : Bool := decide (55 ≤ k) && decide (k ≤ 63)
def MRec (F : FT) (l : Nat) (X : RC) : Prop := ∀ j, j < 8 → F (55 + j) 0 l = X j
def MSv (F : FT) : RC → RS → Prop
  | X, [] => MRec F 0 X
  | X, (k, Y) :: S => MRec F (S.length + 1) X ∧ F 63 0 (S.length + 1) = b2i k ∧ MSv F Y S
theorem MSv.top {F : FT} {X : RC} {S : RS} (h : MSv F X S) : MRec F S.length X := by
  cases S with
  | nil => exact h
  | cons a S => exact h.1
theorem MRec.fr {F F2 : FT} {l : Nat} {X : RC} (h : MRec F l X) (hf : ∀ k, 55 ≤ k → k ≤ 63 → F2 k 0 l = F k 0 l) : MRec F2 l X := fun j hj => (hf (55 + j) (by omega) (by omega)).trans (h j hj)
theorem MSv.fr {F F2 : FT} : ∀ {X : RC} {S : RS}, MSv F X S → (∀ k l, 55 ≤ k → k ≤ 63 → l ≤ S.length → F2 k 0 l = F k 0 l) → MSv F2 X S
  | _, [], h, hf => MRec.fr h (fun k a c => hf k 0 a c (Nat.le_refl _))
  | _, (_, _) :: S, h, hf => ⟨h.1.fr (fun k a c => hf k _ a c (Nat.le_refl _)), (hf 63 _ (by decide) (by decide) (Nat.le_refl _)).trans h.2.1, h.2.2.fr (fun k l a c e => hf k l a c (Nat.le_succ_of_le e))⟩
theorem MRec.u {F : FT} {l j : Nat} {X : RC} {v : Int32} (h : MRec F l X) : MRec (uF F (55 + j) 0 l v) l (upd X j v) := by
  intro i hi
  by_cases e : i = j
  · subst e
    rw [uF_e]
    simp [upd]
  · rw [uF_q (by omega), h i hi]
    simp [upd, e]
theorem MSv.u {F : FT} {X : RC} {S : RS} {j : Nat} {v : Int32} (h : MSv F X S) (hj : j < 8) : MSv (uF F (55 + j) 0 S.length v) (upd X j v) S := by
  cases S with
  | nil => exact MRec.u h
  | cons a S =>
    obtain ⟨k, Y⟩ := a
    exact ⟨MRec.u h.1, (uF_q (by omega)).trans h.2.1, h.2.2.fr (fun k l a c e => uF_q (by simp only [List.length_cons]; omega))⟩
theorem MSv.pu {F : FT} {X : RC} {S : RS} {k : Bool} {v : Int32} (h : MSv F X S) (hv : v = b2i k) : MSv (uF F 63 0 (S.length + 1) v) (fun j => F (55 + j) 0 (S.length + 1)) ((k, X) :: S) := ⟨fun j hj => uF_q (by omega), by rw [uF_e, hv], h.fr (fun k l a c e => uF_q (by omega))⟩
section TM
variable {E : EV} {d x p n : Nat} {F F0 : FT} {G G0 : GT} {b : Bool} {u v : Int32} {X : RC} {S : RS}
theorem b_opens (hs : S.length ≤ 6) (h : MSv F X S) : Td E d 142 0 [some (vr 40 0), some (vi (nI S.length))] [] x F G b none (fun F2 G2 => G2 = G ∧ MSv F2 (opX X) S ∧ FrK d55 F F2) := by
  refine d_run 1 rfl ?_
  refine d_gR k142_1 (by first | assumption | exact Nat.le_of_ble_eq_true rfl | omega) ⟨rfl, rfl, rfl⟩ rfl ?_
  refine d_run 2 rfl ?_
  refine d_is (N := 7) (j := S.length) k142_6 (by first | assumption | exact Nat.le_of_ble_eq_true rfl | omega) ⟨rfl, rfl⟩ (show S.length < 7 by omega) rfl ?_
  refine d_run 1 rfl ?_
  refine d_gR k142_8 (by first | assumption | exact Nat.le_of_ble_eq_true rfl | omega) ⟨rfl, rfl, rfl⟩ rfl ?_
  refine d_run 2 rfl ?_
  refine d_is (N := 7) (j := S.length) k142_13 (by first | assumption | exact Nat.le_of_ble_eq_true rfl | omega) ⟨rfl, rfl⟩ (show S.length < 7 by omega) rfl ?_
  refine d_run 1 rfl ?_
  refine d_gR k142_15 (by first | assumption | exact Nat.le_of_ble_eq_true rfl | omega) ⟨rfl, rfl, rfl⟩ rfl ?_
  refine d_run 2 rfl ?_
  refine d_is (N := 7) (j := S.length) k142_20 (by first | assumption | exact Nat.le_of_ble_eq_true rfl | omega) ⟨rfl, rfl⟩ (show S.length < 7 by omega) rfl ?_
  refine d_run 1 rfl ?_
  refine d_gR k142_22 (by first | assumption | exact Nat.le_of_ble_eq_true rfl | omega) ⟨rfl, rfl, rfl⟩ rfl ?_
  refine d_run 2 rfl ?_
  refine d_is (N := 7) (j := S.length) k142_28 (by first | assumption | exact Nat.le_of_ble_eq_true rfl | omega) ⟨rfl, rfl⟩ (show S.length < 7 by omega) rfl ?_
  refine d_run 1 rfl ?_
  refine d_gR k142_30 (by first | assumption | exact Nat.le_of_ble_eq_true rfl | omega) ⟨rfl, rfl, rfl⟩ rfl ?_
  refine d_run 2 rfl ?_
  refine d_is (N := 7) (j := S.length) k142_35 (by first | assumption | exact Nat.le_of_ble_eq_true rfl | omega) ⟨rfl, rfl⟩ (show S.length < 7 by omega) rfl ?_
  refine d_ret k142_36 ?_
  exact ⟨rfl, ((((h.u (j := 1) (by decide)).u (j := 3) (by decide)).u (j := 4) (by decide)).u (j := 5) (by decide)).u (j := 7) (by decide), ((((FrK.rf.u rfl).u rfl).u rfl).u rfl).u rfl⟩
theorem b_sums (hs : S.length ≤ 6) (h : MSv F X S) : Td E d 143 0 [some (vr 40 0), some (vi (nI S.length))] [] x F G b none (fun F2 G2 => G2 = G ∧ MSv F2 (smX X) S ∧ FrK d55 F F2) := by
  have ht := h.top
  have e59 : F 59 0 S.length = X 4 := ht 4 (by decide)
  have e60 : F 60 0 S.length = X 5 := ht 5 (by decide)
  have e61 : F 61 0 S.length = X 6 := ht 6 (by decide)
  refine d_run 1 rfl ?_
  refine d_gR k143_1 (by first | assumption | exact Nat.le_of_ble_eq_true rfl | omega) ⟨rfl, rfl, rfl⟩ rfl ?_
  refine d_run 2 rfl ?_
  refine d_gR k143_6 (by first | assumption | exact Nat.le_of_ble_eq_true rfl | omega) ⟨rfl, rfl, rfl⟩ rfl ?_
  refine d_run 1 rfl ?_
  refine d_ia (N := 7) (j := S.length) k143_10 (by decide) (by first | assumption | exact Nat.le_of_ble_eq_true rfl | omega) ⟨⟨rfl, rfl⟩, rfl, rfl⟩ (show S.length < 7 by omega) rfl ?_
  rw [e60]
  refine d_run 1 rfl ?_
  refine d_ic_ne k143_13 (fun h13 => ?_) (fun h13 => ?_)
  · have ev : ibop 0 (X 4) (X 6) = smV X := by simp only [smV]; rw [if_neg h13]; rfl
    refine d_run 1 rfl ?_
    refine d_gR k143_33 (by first | assumption | exact Nat.le_of_ble_eq_true rfl | omega) ⟨rfl, rfl, rfl⟩ rfl ?_
    refine d_run 1 rfl ?_
    refine d_ia (N := 7) (j := S.length) k143_37 (by decide) (by first | assumption | exact Nat.le_of_ble_eq_true rfl | omega) ⟨⟨rfl, rfl⟩, rfl, rfl⟩ (show S.length < 7 by omega) rfl ?_
    rw [e59]
    refine d_run 1 rfl ?_
    refine d_gR k143_39 (by first | assumption | exact Nat.le_of_ble_eq_true rfl | omega) ⟨rfl, rfl, rfl⟩ rfl ?_
    refine d_run 1 rfl ?_
    refine d_ia (N := 7) (j := S.length) k143_43 (by decide) (by first | assumption | exact Nat.le_of_ble_eq_true rfl | omega) ⟨⟨rfl, rfl⟩, rfl, rfl⟩ (show S.length < 7 by omega) rfl ?_
    rw [e61]
    refine d_run 1 rfl ?_
    rw [ev]
    refine d_is (N := 7) (j := S.length) k143_45 (by first | assumption | exact Nat.le_of_ble_eq_true rfl | omega) ⟨rfl, rfl⟩ (show S.length < 7 by omega) rfl ?_
    refine d_run 1 rfl ?_
    refine d_gR k143_47 (by first | assumption | exact Nat.le_of_ble_eq_true rfl | omega) ⟨rfl, rfl, rfl⟩ rfl ?_
    refine d_run 2 rfl ?_
    refine d_is (N := 7) (j := S.length) k143_52 (by first | assumption | exact Nat.le_of_ble_eq_true rfl | omega) ⟨rfl, rfl⟩ (show S.length < 7 by omega) rfl ?_
    refine d_ret k143_53 ?_
    exact ⟨rfl, (h.u (j := 4) (by decide)).u (j := 7) (by decide), (FrK.rf.u rfl).u rfl⟩
  · have ev : ibop 1 (X 4) (X 6) = smV X := by simp only [smV]; rw [if_pos h13]; rfl
    refine d_run 1 rfl ?_
    refine d_gR k143_17 (by first | assumption | exact Nat.le_of_ble_eq_true rfl | omega) ⟨rfl, rfl, rfl⟩ rfl ?_
    refine d_run 1 rfl ?_
    refine d_ia (N := 7) (j := S.length) k143_21 (by decide) (by first | assumption | exact Nat.le_of_ble_eq_true rfl | omega) ⟨⟨rfl, rfl⟩, rfl, rfl⟩ (show S.length < 7 by omega) rfl ?_
    rw [e59]
    refine d_run 1 rfl ?_
    refine d_gR k143_23 (by first | assumption | exact Nat.le_of_ble_eq_true rfl | omega) ⟨rfl, rfl, rfl⟩ rfl ?_
    refine d_run 1 rfl ?_
    refine d_ia (N := 7) (j := S.length) k143_27 (by decide) (by first | assumption | exact Nat.le_of_ble_eq_true rfl | omega) ⟨⟨rfl, rfl⟩, rfl, rfl⟩ (show S.length < 7 by omega) rfl ?_
    rw [e61]
    refine d_run 2 rfl ?_
    rw [ev]
    refine d_is (N := 7) (j := S.length) k143_45 (by first | assumption | exact Nat.le_of_ble_eq_true rfl | omega) ⟨rfl, rfl⟩ (show S.length < 7 by omega) rfl ?_
    refine d_run 1 rfl ?_
    refine d_gR k143_47 (by first | assumption | exact Nat.le_of_ble_eq_true rfl | omega) ⟨rfl, rfl, rfl⟩ rfl ?_
    refine d_run 2 rfl ?_
    refine d_is (N := 7) (j := S.length) k143_52 (by first | assumption | exact Nat.le_of_ble_eq_true rfl | omega) ⟨rfl, rfl⟩ (show S.length < 7 by omega) rfl ?_
    refine d_ret k143_53 ?_
    exact ⟨rfl, (h.u (j := 4) (by decide)).u (j := 7) (by decide), (FrK.rf.u rfl).u rfl⟩
theorem ts_st {F1 : FT} (h : MSv F1 (smX X) S) (hv : v = kpV X) : MSv (uF (uF (uF (uF F1 55 0 S.length v) 58 0 S.length 0) 59 0 S.length 0) 60 0 S.length 20) (tsX X) S := by
  subst hv
  exact (((h.u (j := 0) (by decide)).u (j := 3) (by decide)).u (j := 4) (by decide)).u (j := 5) (by decide)
theorem b_ts3 {F1 : FT} (hs : S.length ≤ 6) (h1 : MSv F1 (smX X) S) (hA : X 1 = 27 ∨ v = kpV X) (hB : X 1 = 27 → v = cmV X) : Td E d 144 106 [some (vr 40 0), some (vi (nI S.length)), some (vi v)] [] x F1 G b none (fun F2 G2 => G2 = G ∧ MSv F2 (tsX X) S ∧ FrK d55 F1 F2) := by
  have ht := h1.top
  have e55 : F1 55 0 S.length = X 0 := (ht 0 (by decide)).trans (by simp [smX, upd])
  have e56 : F1 56 0 S.length = X 1 := (ht 1 (by decide)).trans (by simp [smX, upd])
  refine d_run 1 rfl ?_
  refine d_gR k144_107 (by first | assumption | exact Nat.le_of_ble_eq_true rfl | omega) ⟨rfl, rfl, rfl⟩ rfl ?_
  refine d_run 1 rfl ?_
  refine d_ia (N := 7) (j := S.length) k144_111 (by decide) (by first | assumption | exact Nat.le_of_ble_eq_true rfl | omega) ⟨⟨rfl, rfl⟩, rfl, rfl⟩ (show S.length < 7 by omega) rfl ?_
  rw [e56]
  refine d_run 1 rfl ?_
  refine d_ic_ne k144_114 (fun h114 => ?_) (fun h114 => ?_)
  · have ek : v = kpV X := hA.resolve_left h114
    refine d_run 1 rfl ?_
    refine d_gR k144_137 (by first | assumption | exact Nat.le_of_ble_eq_true rfl | omega) ⟨rfl, rfl, rfl⟩ rfl ?_
    refine d_run 2 rfl ?_
    refine d_is (N := 7) (j := S.length) k144_142 (by first | assumption | exact Nat.le_of_ble_eq_true rfl | omega) ⟨rfl, rfl⟩ (show S.length < 7 by omega) rfl ?_
    refine d_run 1 rfl ?_
    refine d_gR k144_144 (by first | assumption | exact Nat.le_of_ble_eq_true rfl | omega) ⟨rfl, rfl, rfl⟩ rfl ?_
    refine d_run 2 rfl ?_
    refine d_is (N := 7) (j := S.length) k144_149 (by first | assumption | exact Nat.le_of_ble_eq_true rfl | omega) ⟨rfl, rfl⟩ (show S.length < 7 by omega) rfl ?_
    refine d_run 1 rfl ?_
    refine d_gR k144_151 (by first | assumption | exact Nat.le_of_ble_eq_true rfl | omega) ⟨rfl, rfl, rfl⟩ rfl ?_
    refine d_run 2 rfl ?_
    refine d_is (N := 7) (j := S.length) k144_156 (by first | assumption | exact Nat.le_of_ble_eq_true rfl | omega) ⟨rfl, rfl⟩ (show S.length < 7 by omega) rfl ?_
    refine d_run 1 rfl ?_
    refine d_gR k144_158 (by first | assumption | exact Nat.le_of_ble_eq_true rfl | omega) ⟨rfl, rfl, rfl⟩ rfl ?_
    refine d_run 2 rfl ?_
    refine d_is (N := 7) (j := S.length) k144_164 (by first | assumption | exact Nat.le_of_ble_eq_true rfl | omega) ⟨rfl, rfl⟩ (show S.length < 7 by omega) rfl ?_
    refine d_ret k144_165 ?_
    exact ⟨rfl, ts_st h1 ek, ((((FrK.rf.u rfl).u rfl).u rfl).u rfl)⟩
  · have ev := hB h114
    have n26 : ¬ X 1 = 26 := fun e => absurd (e.symm.trans h114) (by decide)
    refine d_run 1 rfl ?_
    refine d_gR k144_118 (by first | assumption | exact Nat.le_of_ble_eq_true rfl | omega) ⟨rfl, rfl, rfl⟩ rfl ?_
    refine d_run 1 rfl ?_
    refine d_ia (N := 7) (j := S.length) k144_122 (by decide) (by first | assumption | exact Nat.le_of_ble_eq_true rfl | omega) ⟨⟨rfl, rfl⟩, rfl, rfl⟩ (show S.length < 7 by omega) rfl ?_
    rw [e55]
    refine d_if_ne k144_123 (fun h123 => ?_) (fun h123 => ?_)
    · have ek : 1 = kpV X := by simp only [kpV]; rw [if_neg n26, if_pos h114]; rw [decide_eq_true h123]; rfl
      refine d_run 4 rfl ?_
      refine d_gR k144_137 (by first | assumption | exact Nat.le_of_ble_eq_true rfl | omega) ⟨rfl, rfl, rfl⟩ rfl ?_
      refine d_run 2 rfl ?_
      refine d_is (N := 7) (j := S.length) k144_142 (by first | assumption | exact Nat.le_of_ble_eq_true rfl | omega) ⟨rfl, rfl⟩ (show S.length < 7 by omega) rfl ?_
      refine d_run 1 rfl ?_
      refine d_gR k144_144 (by first | assumption | exact Nat.le_of_ble_eq_true rfl | omega) ⟨rfl, rfl, rfl⟩ rfl ?_
      refine d_run 2 rfl ?_
      refine d_is (N := 7) (j := S.length) k144_149 (by first | assumption | exact Nat.le_of_ble_eq_true rfl | omega) ⟨rfl, rfl⟩ (show S.length < 7 by omega) rfl ?_
      refine d_run 1 rfl ?_
      refine d_gR k144_151 (by first | assumption | exact Nat.le_of_ble_eq_true rfl | omega) ⟨rfl, rfl, rfl⟩ rfl ?_
      refine d_run 2 rfl ?_
      refine d_is (N := 7) (j := S.length) k144_156 (by first | assumption | exact Nat.le_of_ble_eq_true rfl | omega) ⟨rfl, rfl⟩ (show S.length < 7 by omega) rfl ?_
      refine d_run 1 rfl ?_
      refine d_gR k144_158 (by first | assumption | exact Nat.le_of_ble_eq_true rfl | omega) ⟨rfl, rfl, rfl⟩ rfl ?_
      refine d_run 2 rfl ?_
      refine d_is (N := 7) (j := S.length) k144_164 (by first | assumption | exact Nat.le_of_ble_eq_true rfl | omega) ⟨rfl, rfl⟩ (show S.length < 7 by omega) rfl ?_
      refine d_ret k144_165 ?_
      exact ⟨rfl, ts_st h1 ek, ((((FrK.rf.u rfl).u rfl).u rfl).u rfl)⟩
    · refine d_run 1 rfl ?_
      refine d_if_eq k144_127 (fun h127 => ?_) (fun h127 => ?_)
      · have ek : 0 = kpV X := by simp only [kpV]; rw [if_neg n26, if_pos h114]; rw [← ev, h127, show decide (¬ X 0 = 0) = false from decide_eq_false (fun e => e h123)]; rfl
        refine d_run 3 rfl ?_
        refine d_gR k144_137 (by first | assumption | exact Nat.le_of_ble_eq_true rfl | omega) ⟨rfl, rfl, rfl⟩ rfl ?_
        refine d_run 2 rfl ?_
        refine d_is (N := 7) (j := S.length) k144_142 (by first | assumption | exact Nat.le_of_ble_eq_true rfl | omega) ⟨rfl, rfl⟩ (show S.length < 7 by omega) rfl ?_
        refine d_run 1 rfl ?_
        refine d_gR k144_144 (by first | assumption | exact Nat.le_of_ble_eq_true rfl | omega) ⟨rfl, rfl, rfl⟩ rfl ?_
        refine d_run 2 rfl ?_
        refine d_is (N := 7) (j := S.length) k144_149 (by first | assumption | exact Nat.le_of_ble_eq_true rfl | omega) ⟨rfl, rfl⟩ (show S.length < 7 by omega) rfl ?_
        refine d_run 1 rfl ?_
        refine d_gR k144_151 (by first | assumption | exact Nat.le_of_ble_eq_true rfl | omega) ⟨rfl, rfl, rfl⟩ rfl ?_
        refine d_run 2 rfl ?_
        refine d_is (N := 7) (j := S.length) k144_156 (by first | assumption | exact Nat.le_of_ble_eq_true rfl | omega) ⟨rfl, rfl⟩ (show S.length < 7 by omega) rfl ?_
        refine d_run 1 rfl ?_
        refine d_gR k144_158 (by first | assumption | exact Nat.le_of_ble_eq_true rfl | omega) ⟨rfl, rfl, rfl⟩ rfl ?_
        refine d_run 2 rfl ?_
        refine d_is (N := 7) (j := S.length) k144_164 (by first | assumption | exact Nat.le_of_ble_eq_true rfl | omega) ⟨rfl, rfl⟩ (show S.length < 7 by omega) rfl ?_
        refine d_ret k144_165 ?_
        exact ⟨rfl, ts_st h1 ek, ((((FrK.rf.u rfl).u rfl).u rfl).u rfl)⟩
      · have ek : 1 = kpV X := by simp only [kpV]; rw [if_neg n26, if_pos h114]; rw [← ev, decide_eq_true h127, Bool.or_true]; rfl
        refine d_run 4 rfl ?_
        refine d_gR k144_137 (by first | assumption | exact Nat.le_of_ble_eq_true rfl | omega) ⟨rfl, rfl, rfl⟩ rfl ?_
        refine d_run 2 rfl ?_
        refine d_is (N := 7) (j := S.length) k144_142 (by first | assumption | exact Nat.le_of_ble_eq_true rfl | omega) ⟨rfl, rfl⟩ (show S.length < 7 by omega) rfl ?_
        refine d_run 1 rfl ?_
        refine d_gR k144_144 (by first | assumption | exact Nat.le_of_ble_eq_true rfl | omega) ⟨rfl, rfl, rfl⟩ rfl ?_
        refine d_run 2 rfl ?_
        refine d_is (N := 7) (j := S.length) k144_149 (by first | assumption | exact Nat.le_of_ble_eq_true rfl | omega) ⟨rfl, rfl⟩ (show S.length < 7 by omega) rfl ?_
        refine d_run 1 rfl ?_
        refine d_gR k144_151 (by first | assumption | exact Nat.le_of_ble_eq_true rfl | omega) ⟨rfl, rfl, rfl⟩ rfl ?_
        refine d_run 2 rfl ?_
        refine d_is (N := 7) (j := S.length) k144_156 (by first | assumption | exact Nat.le_of_ble_eq_true rfl | omega) ⟨rfl, rfl⟩ (show S.length < 7 by omega) rfl ?_
        refine d_run 1 rfl ?_
        refine d_gR k144_158 (by first | assumption | exact Nat.le_of_ble_eq_true rfl | omega) ⟨rfl, rfl, rfl⟩ rfl ?_
        refine d_run 2 rfl ?_
        refine d_is (N := 7) (j := S.length) k144_164 (by first | assumption | exact Nat.le_of_ble_eq_true rfl | omega) ⟨rfl, rfl⟩ (show S.length < 7 by omega) rfl ?_
        refine d_ret k144_165 ?_
        exact ⟨rfl, ts_st h1 ek, ((((FrK.rf.u rfl).u rfl).u rfl).u rfl)⟩
theorem b_ts2 {F1 : FT} (hs : S.length ≤ 6) (h1 : MSv F1 (smX X) S) : Td E d 144 76 [some (vr 40 0), some (vi (nI S.length)), some (vi (cmV X))] [] x F1 G b none (fun F2 G2 => G2 = G ∧ MSv F2 (tsX X) S ∧ FrK d55 F1 F2) := by
  have ht := h1.top
  have e55 : F1 55 0 S.length = X 0 := (ht 0 (by decide)).trans (by simp [smX, upd])
  have e56 : F1 56 0 S.length = X 1 := (ht 1 (by decide)).trans (by simp [smX, upd])
  refine d_run 1 rfl ?_
  refine d_gR k144_77 (by first | assumption | exact Nat.le_of_ble_eq_true rfl | omega) ⟨rfl, rfl, rfl⟩ rfl ?_
  refine d_run 1 rfl ?_
  refine d_ia (N := 7) (j := S.length) k144_81 (by decide) (by first | assumption | exact Nat.le_of_ble_eq_true rfl | omega) ⟨⟨rfl, rfl⟩, rfl, rfl⟩ (show S.length < 7 by omega) rfl ?_
  rw [e56]
  refine d_run 1 rfl ?_
  refine d_ic_ne k144_84 (fun h84 => ?_) (fun h84 => ?_)
  · have hB : X 1 = 27 → cmV X = cmV X := fun _ => rfl
    have hA : X 1 = 27 ∨ cmV X = kpV X := by
      by_cases e : X 1 = 27
      · exact Or.inl e
      · refine Or.inr ?_
        simp only [kpV]
        rw [if_neg h84, if_neg e]
    exact b_ts3 hs h1 hA hB
  · refine d_run 1 rfl ?_
    refine d_gR k144_88 (by first | assumption | exact Nat.le_of_ble_eq_true rfl | omega) ⟨rfl, rfl, rfl⟩ rfl ?_
    refine d_run 1 rfl ?_
    refine d_ia (N := 7) (j := S.length) k144_92 (by decide) (by first | assumption | exact Nat.le_of_ble_eq_true rfl | omega) ⟨⟨rfl, rfl⟩, rfl, rfl⟩ (show S.length < 7 by omega) rfl ?_
    rw [e55]
    refine d_if_eq k144_93 (fun h93 => ?_) (fun h93 => ?_)
    · have hA : X 1 = 27 ∨ (0 : Int32) = kpV X := Or.inr (by simp [kpV, b2i, h84, h93])
      have hB : X 1 = 27 → (0 : Int32) = cmV X := fun e => absurd (h84.symm.trans e) (by decide)
      refine d_run 2 rfl ?_
      exact b_ts3 hs h1 hA hB
    · refine d_run 1 rfl ?_
      refine d_if_eq k144_97 (fun h97 => ?_) (fun h97 => ?_)
      · have hA : X 1 = 27 ∨ (0 : Int32) = kpV X := Or.inr (by simp [kpV, b2i, h84, h97])
        have hB : X 1 = 27 → (0 : Int32) = cmV X := fun e => absurd (h84.symm.trans e) (by decide)
        refine d_run 2 rfl ?_
        exact b_ts3 hs h1 hA hB
      · have hA : X 1 = 27 ∨ (1 : Int32) = kpV X := Or.inr (by simp [kpV, b2i, h84, h93, h97])
        have hB : X 1 = 27 → (1 : Int32) = cmV X := fun e => absurd (h84.symm.trans e) (by decide)
        refine d_run 3 rfl ?_
        exact b_ts3 hs h1 hA hB
theorem b_ts1 {F1 : FT} (hs : S.length ≤ 6) (h1 : MSv F1 (smX X) S) (hA : X 3 = 25 ∨ v = cmV X) : Td E d 144 44 [some (vr 40 0), some (vi (nI S.length)), some (vi v)] [] x F1 G b none (fun F2 G2 => G2 = G ∧ MSv F2 (tsX X) S ∧ FrK d55 F1 F2) := by
  have ht := h1.top
  have e57 : F1 57 0 S.length = X 2 := (ht 2 (by decide)).trans (by simp [smX, upd])
  have e58 : F1 58 0 S.length = X 3 := (ht 3 (by decide)).trans (by simp [smX, upd])
  have e59 : F1 59 0 S.length = smV X := (ht 4 (by decide)).trans (by simp [smX, upd])
  refine d_run 1 rfl ?_
  refine d_gR k144_45 (by first | assumption | exact Nat.le_of_ble_eq_true rfl | omega) ⟨rfl, rfl, rfl⟩ rfl ?_
  refine d_run 1 rfl ?_
  refine d_ia (N := 7) (j := S.length) k144_49 (by decide) (by first | assumption | exact Nat.le_of_ble_eq_true rfl | omega) ⟨⟨rfl, rfl⟩, rfl, rfl⟩ (show S.length < 7 by omega) rfl ?_
  rw [e58]
  refine d_run 1 rfl ?_
  refine d_ic_ne k144_52 (fun h52 => ?_) (fun h52 => ?_)
  · have ec : v = cmV X := hA.resolve_left h52
    rw [ec]
    exact b_ts2 hs h1
  · refine d_run 1 rfl ?_
    refine d_gR k144_56 (by first | assumption | exact Nat.le_of_ble_eq_true rfl | omega) ⟨rfl, rfl, rfl⟩ rfl ?_
    refine d_run 1 rfl ?_
    refine d_ia (N := 7) (j := S.length) k144_60 (by decide) (by first | assumption | exact Nat.le_of_ble_eq_true rfl | omega) ⟨⟨rfl, rfl⟩, rfl, rfl⟩ (show S.length < 7 by omega) rfl ?_
    rw [e57]
    refine d_run 1 rfl ?_
    refine d_gR k144_62 (by first | assumption | exact Nat.le_of_ble_eq_true rfl | omega) ⟨rfl, rfl, rfl⟩ rfl ?_
    refine d_run 1 rfl ?_
    refine d_ia (N := 7) (j := S.length) k144_66 (by decide) (by first | assumption | exact Nat.le_of_ble_eq_true rfl | omega) ⟨⟨rfl, rfl⟩, rfl, rfl⟩ (show S.length < 7 by omega) rfl ?_
    rw [e59]
    refine d_ic_ne k144_67 (fun h67 => ?_) (fun h67 => ?_)
    · have ec : 0 = cmV X := by simp only [cmV]; rw [if_neg (fun e => absurd (e.symm.trans h52) (by decide)), if_pos h52]; rw [decide_eq_false h67]; rfl
      refine d_run 2 rfl ?_
      rw [ec]
      exact b_ts2 hs h1
    · have ec : 1 = cmV X := by simp only [cmV]; rw [if_neg (fun e => absurd (e.symm.trans h52) (by decide)), if_pos h52]; rw [decide_eq_true h67]; rfl
      refine d_run 3 rfl ?_
      rw [ec]
      exact b_ts2 hs h1
theorem b_tests (hd : 1 ≤ d) (hs : S.length ≤ 6) (h : MSv F X S) : Td E d 144 0 [some (vr 40 0), some (vi (nI S.length)), none] [] x F G b none (fun F2 G2 => G2 = G ∧ MSv F2 (tsX X) S ∧ FrK d55 F F2) := by
  refine d_run 2 rfl ?_
  refine d_call 2 k144_2 (by omega) (Nat.le_of_ble_eq_true rfl) rfl (Nat.le_of_ble_eq_true rfl) (Nat.le_of_ble_eq_true rfl) (recv_ok rfl (by first | assumption | exact Nat.le_of_ble_eq_true rfl | omega)) rfl (b_sums hs h) rfl ?_
  rintro F1 G1 ⟨eG, h1, f1⟩
  subst eG
  have ht := h1.top
  have e57 : F1 57 0 S.length = X 2 := (ht 2 (by decide)).trans (by simp [smX, upd])
  have e58 : F1 58 0 S.length = X 3 := (ht 3 (by decide)).trans (by simp [smX, upd])
  have e59 : F1 59 0 S.length = smV X := (ht 4 (by decide)).trans (by simp [smX, upd])
  refine d_run 1 rfl ?_
  refine d_gR k144_6 (by first | assumption | exact Nat.le_of_ble_eq_true rfl | omega) ⟨rfl, rfl, rfl⟩ rfl ?_
  refine d_run 1 rfl ?_
  refine d_ia (N := 7) (j := S.length) k144_10 (by decide) (by first | assumption | exact Nat.le_of_ble_eq_true rfl | omega) ⟨⟨rfl, rfl⟩, rfl, rfl⟩ (show S.length < 7 by omega) rfl ?_
  rw [e59]
  refine d_run 2 rfl ?_
  refine d_gR k144_13 (by first | assumption | exact Nat.le_of_ble_eq_true rfl | omega) ⟨rfl, rfl, rfl⟩ rfl ?_
  refine d_run 1 rfl ?_
  refine d_ia (N := 7) (j := S.length) k144_17 (by decide) (by first | assumption | exact Nat.le_of_ble_eq_true rfl | omega) ⟨⟨rfl, rfl⟩, rfl, rfl⟩ (show S.length < 7 by omega) rfl ?_
  rw [e58]
  refine d_run 1 rfl ?_
  refine d_ic_ne k144_20 (fun h20 => ?_) (fun h20 => ?_)
  · have hA : X 3 = 25 ∨ smV X = cmV X := by
      by_cases e : X 3 = 25
      · exact Or.inl e
      · refine Or.inr ?_
        simp only [cmV]
        rw [if_neg h20, if_neg e]
    exact td_mo (b_ts1 hs h1 hA) (fun F2 G2 e => ⟨e.1, e.2.1, f1.tr e.2.2⟩)
  · refine d_run 1 rfl ?_
    refine d_gR k144_24 (by first | assumption | exact Nat.le_of_ble_eq_true rfl | omega) ⟨rfl, rfl, rfl⟩ rfl ?_
    refine d_run 1 rfl ?_
    refine d_ia (N := 7) (j := S.length) k144_28 (by decide) (by first | assumption | exact Nat.le_of_ble_eq_true rfl | omega) ⟨⟨rfl, rfl⟩, rfl, rfl⟩ (show S.length < 7 by omega) rfl ?_
    rw [e57]
    refine d_run 1 rfl ?_
    refine d_gR k144_30 (by first | assumption | exact Nat.le_of_ble_eq_true rfl | omega) ⟨rfl, rfl, rfl⟩ rfl ?_
    refine d_run 1 rfl ?_
    refine d_ia (N := 7) (j := S.length) k144_34 (by decide) (by first | assumption | exact Nat.le_of_ble_eq_true rfl | omega) ⟨⟨rfl, rfl⟩, rfl, rfl⟩ (show S.length < 7 by omega) rfl ?_
    rw [e59]
    refine d_ic_ge k144_35 (fun h35 => ?_) (fun h35 => ?_)
    · have hA : X 3 = 25 ∨ (0 : Int32) = cmV X := Or.inr (by simp only [cmV]; rw [if_pos h20, decide_eq_false (Int32.not_lt.mpr h35)]; rfl)
      refine d_run 2 rfl ?_
      exact td_mo (b_ts1 hs h1 hA) (fun F2 G2 e => ⟨e.1, e.2.1, f1.tr e.2.2⟩)
    · have hA : X 3 = 25 ∨ (1 : Int32) = cmV X := Or.inr (by simp only [cmV]; rw [if_pos h20, decide_eq_true (Int32.not_le.mp h35)]; rfl)
      refine d_run 3 rfl ?_
      exact td_mo (b_ts1 hs h1 hA) (fun F2 G2 e => ⟨e.1, e.2.1, f1.tr e.2.2⟩)
end TM
