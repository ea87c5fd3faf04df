/-! A LAND AS IT IS READ, IN THE CLASS: streets, pairs, people, soon, snap -/
def CLb (F : FT) (G : GT) (l : Nat) (B : LB) : Prop := F 9 l 9 = nI (bS B) ∧ F 9 l 10 = nI (bP B) ∧ F 9 l 11 = bR B 5 0 ∧ F 9 l 12 = bR B 5 1 ∧ F 9 l 13 = nI (bC B).length ∧ (∀ i, i < bS B → F 11 l i = bR B 0 i) ∧ (∀ i, i < bP B → F 13 l i = bR B 1 i ∧ F 14 l i = bR B 2 i ∧ F 15 l i = bR B 3 i ∧ F 16 l i = bR B 4 i) ∧ (∀ i, i < bS B → G 10 l i = w32 ((bN B).1 i)) ∧ (∀ i, i < bP B → G 12 l i = w32 ((bN B).2 i)) ∧ (∀ i (hi : i < (bC B).length), F 17 l i = (bC B)[i]) ∧ F 7 0 2 = b2i (bF B).1 ∧ F 7 0 3 = b2i (bF B).2
/-- the same but for the tape -/
def D5 (Fx : FT) (Gx : GT) (F : FT) (G : GT) : Prop := FrD d5 Fx F ∧ ∀ k, k ≠ 5 → G k = Gx k
theorem D5.rf {F : FT} {G : GT} : D5 F G F G := ⟨FrD.rf, fun _ _ => rfl⟩
theorem D5.nx {Fx F F2 : FT} {Gx G G2 : GT} (h : D5 Fx Gx F G) (h2 : CNx F G F2 G2) : D5 Fx Gx F2 G2 := ⟨h.1.tr h2.2.1, fun k hk => (h2.2.2 k hk).trans (h.2 k hk)⟩
theorem D5.ft {Fx F F2 : FT} {Gx G G2 : GT} {f : Nat} (h : D5 Fx Gx F G) (h2 : CFt F G F2 G2 f) : D5 Fx Gx F2 G2 := ⟨h.1.tr h2.2.1, fun k hk => (h2.2.2 k hk).trans (h.2 k hk)⟩
theorem D5.u {Fx F : FT} {Gx G : GT} {k m i : Nat} {v : Int32} (h : D5 Fx Gx F G) : D5 (uF Fx k m i v) Gx (uF F k m i v) G := by
  refine ⟨fun k2 m2 e => ?_, h.2⟩
  funext i2
  have := congrFun (h.1 k2 m2 e) i2
  simp only [uF]
  split
  · rfl
  · exact this
theorem D5.ug {Fx F : FT} {Gx G : GT} {k m i : Nat} {v : Int64} (h : D5 Fx Gx F G) : D5 Fx (uG Gx k m i v) F (uG G k m i v) := by
  refine ⟨h.1, fun k2 hk => ?_⟩
  have := h.2 k2 hk
  funext m2 i2
  simp only [uG]
  rw [this]
theorem D5.at {Fx F : FT} {Gx G : GT} (h : D5 Fx Gx F G) {k m : Nat} (hk : k ≠ 5) : F k m = Fx k m := h.1 k m (by simp only [decide_eq_false_iff_not]; exact hk)
theorem CLb.d5 {Fx F : FT} {Gx G : GT} {l : Nat} {B : LB} (h : CLb Fx Gx l B) (hd : D5 Fx Gx F G) : CLb F G l B := by
  unfold CLb
  rw [hd.at (k := 9) (by decide), hd.at (k := 11) (by decide), hd.at (k := 13) (by decide), hd.at (k := 14) (by decide), hd.at (k := 15) (by decide), hd.at (k := 16) (by decide), hd.at (k := 17) (by decide), hd.at (k := 7) (by decide), hd.2 10 (by decide), hd.2 12 (by decide)]
  exact h
def dRd (l k m : Nat) : Bool := decide (k = 5) || decide (k = 7) || (decide (9 ≤ k) && decide (k ≤ 17) && decide (m = l))
def FrG (l : Nat) (G G2 : GT) : Prop := ∀ k m, k ≠ 5 → ((k ≠ 10 ∧ k ≠ 12) ∨ m ≠ l) → G2 k m = G k m
def CFr (l : Nat) (F : FT) (G : GT) (F2 : FT) (G2 : GT) : Prop := FrD (dRd l) F F2 ∧ FrG l G G2
theorem CFr.rf {l : Nat} {F : FT} {G : GT} : CFr l F G F G := ⟨FrD.rf, fun _ _ _ _ => rfl⟩
theorem CFr.tr {l : Nat} {F F1 F2 : FT} {G G1 G2 : GT} (h : CFr l F G F1 G1) (h2 : CFr l F1 G1 F2 G2) : CFr l F G F2 G2 := ⟨h.1.tr h2.1, fun k m a c => (h2.2 k m a c).trans (h.2 k m a c)⟩
theorem D5.fr {l : Nat} {F F1 : FT} {G G1 : GT} (h : D5 F G F1 G1) : CFr l F G F1 G1 := ⟨h.1.mo (fun k m e => by
  simp only [dRd, Bool.or_eq_false_iff] at e
  exact e.1.1), fun k m a _ => by rw [h.2 k a]⟩
theorem dRd_in {l k : Nat} (h : 9 ≤ k ∧ k ≤ 17) : dRd l k l = true := by simp [dRd, h]
theorem CFr.u {l : Nat} {F F1 : FT} {G G1 : GT} (h : CFr l F G F1 G1) {k i : Nat} {v : Int32} (hk : 9 ≤ k ∧ k ≤ 17) : CFr l F G (uF F1 k l i v) G1 := ⟨h.1.u (dRd_in hk), h.2⟩
theorem CFr.u7 {l : Nat} {F F1 : FT} {G G1 : GT} (h : CFr l F G F1 G1) {i : Nat} {v : Int32} : CFr l F G (uF F1 7 0 i v) G1 := ⟨h.1.u rfl, h.2⟩
theorem CFr.ug {l : Nat} {F F1 : FT} {G G1 : GT} (h : CFr l F G F1 G1) {k i : Nat} {v : Int64} (hk : k = 10 ∨ k = 12) : CFr l F G F1 (uG G1 k l i v) := by
  refine ⟨h.1, fun k2 m a c => ?_⟩
  rw [← h.2 k2 m a c]
  funext j
  simp only [uG]
  rw [if_neg (by omega)]
theorem CRd.u {F : FT} {G : GT} {t : TP} {p k m i : Nat} {v : Int32} (h : CRd F G t p) (h5 : k ≠ 5) (h6 : k ≠ 6) : CRd (uF F k m i v) G t p := by
  unfold CRd CTp CTk
  rw [uF_k (fun e => h5 e.symm), uF_k (fun e => h6 e.symm)]
  exact h
theorem CRd.ug {F : FT} {G : GT} {t : TP} {p k m i : Nat} {v : Int64} (h : CRd F G t p) (h5 : k ≠ 5) : CRd F (uG G k m i v) t p := by
  unfold CRd CTk
  rw [uG_k (fun e => h5 e.symm)]
  exact h
/-- what comes of a statement: a fault, or a place and the land so far -/
def COb (t : TP) (l : Nat) (F : FT) (G : GT) (r : Nat ⊕ (Nat × LB)) (F2 : FT) (G2 : GT) : Prop := match r with
  | .inl f => F2 5 0 7 = nI f ∧ CFr l F G F2 G2
  | .inr (p, B) => CRd F2 G2 t p ∧ CLb F2 G2 l B ∧ CFr l F G F2 G2
def CNum (F : FT) (G : GT) (r : Nat ⊕ Nat) (F2 : FT) (G2 : GT) : Prop := match r with
  | .inl f => CFt F G F2 G2 f
  | .inr _ => F2 = F ∧ G2 = G
theorem fdV_1 {r : Option Nat} (h : ∀ i, r = some i → i ≤ 1000) : (fdV r = -1) = (r = none) := by
  apply propext
  cases r with
  | none => simp [fdV]
  | some i =>
    have := h i rfl
    constructor
    · intro e
      exact absurd (show nI i < 0 by rw [show nI i = -1 from e]; decide) (nn_nI (by omega))
    · intro e; cases e
section T3
variable {E : EV} {d x p l : Nat} {F : FT} {G : GT} {b : Bool} {t : TP} {B : LB} {u v w : Int32}
theorem l_c_stN {S : Nat} {nm : Nat → List Nat} {wd : List Nat} (hl : l < 2) (hS : F 9 l 9 = nI S) (hS5 : S ≤ 5) (hN : ∀ i, i < S → G 10 l i = w32 (nm i)) (hwn : ∀ i, i < S → wfWd (nm i)) (hw : wfWd wd) : ∀ (r i : Nat), i + r = S → Tm E d 4 2 [some (vr 9 l), some (vl (w32 wd)), none, some (vi (nI i))] [] (cC x) F G (Rs b) (some (vi (fdV (findN nm wd i r)))) (cC x, F, G, Rs b) := by
  intro r
  induction r with
  | zero =>
    intro i hir
    refine t_run 2 rfl ?_
    refine t_gI k4_4 (by first | assumption | exact hl | omega) ⟨rfl, rfl, Or.inl rfl⟩ ?_
    refine t_ic_ge k4_7 (fun h7 => ?_) (fun h7 => ?_)
    · refine t_run 1 rfl ?_
      exact t_ir k4_30 rfl (by rfl)
    · exact absurd (lt_nI h7 hS (by omega) (by omega)) (by omega)
  | succ r ih =>
    intro i hir
    refine t_run 2 rfl ?_
    refine t_gI k4_4 (by first | assumption | exact hl | omega) ⟨rfl, rfl, Or.inl rfl⟩ ?_
    refine t_ic_ge k4_7 (fun h7 => ?_) (fun h7 => ?_)
    · exact absurd (ge_nI h7 hS (by omega) (by omega)) (by omega)
    · refine t_run 1 rfl ?_
      refine t_gR k4_11 (by first | assumption | exact hl | omega) ⟨rfl, rfl, rfl⟩ rfl ?_
      refine t_run 1 rfl ?_
      refine t_la (N := 5) (j := i) k4_15 (by first | assumption | omega) ⟨⟨rfl, rfl⟩, rfl, rfl⟩ (show i < 5 by omega) rfl ?_
      rw [hN i (by omega)]
      refine t_run 2 rfl ?_
      refine t_if_ne k4_18 (fun h18 => ?_) (fun h18 => ?_)
      · have e18 : ¬ nm i = wd := fun e => h18 ((lg_cmp_eq _ _).mpr (by rw [e]))
        refine t_run 2 rfl ?_
        rw [show nI i + 1 = nI (i + 1) from nI_1 i, show findN nm wd i (r + 1) = findN nm wd (i + 1) r by simp only [findN]; rw [if_neg e18]]
        exact ih (i + 1) (by omega)
      · have e18 : nm i = wd := by
          have := (lg_cmp_eq _ _).mp h18
          rwa [w32_inj (hwn i (by omega)) hw] at this
        refine t_run 1 rfl ?_
        exact t_ir k4_22 rfl (by simp only [findN]; rw [if_pos e18]; rfl)
theorem c_stN {S : Nat} {nm : Nat → List Nat} {wd : List Nat} (hl : l < 2) (hS : F 9 l 9 = nI S) (hS5 : S ≤ 5) (hN : ∀ i, i < S → G 10 l i = w32 (nm i)) (hwn : ∀ i, i < S → wfWd (nm i)) (hw : wfWd wd) : Tm E d 4 0 [some (vr 9 l), some (vl (w32 wd)), none, none] [] (cC x) F G (Rs b) (some (vi (fdV (findN nm wd 0 S)))) (cC x, F, G, Rs b) := by
  refine t_run 2 rfl ?_
  exact l_c_stN hl hS hS5 hN hwn hw S 0 (by omega)
theorem l_c_peN {S : Nat} {nm : Nat → List Nat} {wd : List Nat} (hl : l < 2) (hS : F 9 l 10 = nI S) (hS5 : S ≤ 6) (hN : ∀ i, i < S → G 12 l i = w32 (nm i)) (hwn : ∀ i, i < S → wfWd (nm i)) (hw : wfWd wd) : ∀ (r i : Nat), i + r = S → Tm E d 5 2 [some (vr 9 l), some (vl (w32 wd)), none, some (vi (nI i))] [] (cC x) F G (Rs b) (some (vi (fdV (findN nm wd i r)))) (cC x, F, G, Rs b) := by
  intro r
  induction r with
  | zero =>
    intro i hir
    refine t_run 2 rfl ?_
    refine t_gI k5_4 (by first | assumption | exact hl | omega) ⟨rfl, rfl, Or.inl rfl⟩ ?_
    refine t_ic_ge k5_7 (fun h7 => ?_) (fun h7 => ?_)
    · refine t_run 1 rfl ?_
      exact t_ir k5_30 rfl (by rfl)
    · exact absurd (lt_nI h7 hS (by omega) (by omega)) (by omega)
  | succ r ih =>
    intro i hir
    refine t_run 2 rfl ?_
    refine t_gI k5_4 (by first | assumption | exact hl | omega) ⟨rfl, rfl, Or.inl rfl⟩ ?_
    refine t_ic_ge k5_7 (fun h7 => ?_) (fun h7 => ?_)
    · exact absurd (ge_nI h7 hS (by omega) (by omega)) (by omega)
    · refine t_run 1 rfl ?_
      refine t_gR k5_11 (by first | assumption | exact hl | omega) ⟨rfl, rfl, rfl⟩ rfl ?_
      refine t_run 1 rfl ?_
      refine t_la (N := 6) (j := i) k5_15 (by first | assumption | omega) ⟨⟨rfl, rfl⟩, rfl, rfl⟩ (show i < 6 by omega) rfl ?_
      rw [hN i (by omega)]
      refine t_run 2 rfl ?_
      refine t_if_ne k5_18 (fun h18 => ?_) (fun h18 => ?_)
      · have e18 : ¬ nm i = wd := fun e => h18 ((lg_cmp_eq _ _).mpr (by rw [e]))
        refine t_run 2 rfl ?_
        rw [show nI i + 1 = nI (i + 1) from nI_1 i, show findN nm wd i (r + 1) = findN nm wd (i + 1) r by simp only [findN]; rw [if_neg e18]]
        exact ih (i + 1) (by omega)
      · have e18 : nm i = wd := by
          have := (lg_cmp_eq _ _).mp h18
          rwa [w32_inj (hwn i (by omega)) hw] at this
        refine t_run 1 rfl ?_
        exact t_ir k5_22 rfl (by simp only [findN]; rw [if_pos e18]; rfl)
theorem c_peN {S : Nat} {nm : Nat → List Nat} {wd : List Nat} (hl : l < 2) (hS : F 9 l 10 = nI S) (hS5 : S ≤ 6) (hN : ∀ i, i < S → G 12 l i = w32 (nm i)) (hwn : ∀ i, i < S → wfWd (nm i)) (hw : wfWd wd) : Tm E d 5 0 [some (vr 9 l), some (vl (w32 wd)), none, none] [] (cC x) F G (Rs b) (some (vi (fdV (findN nm wd 0 S)))) (cC x, F, G, Rs b) := by
  refine t_run 2 rfl ?_
  exact l_c_peN hl hS hS5 hN hwn hw S 0 (by omega)
theorem fdS_lt {w : List Nat} (hw : wfB B) {i : Nat} (h : fdS B w = some i) : i < bS B := by
  have := (findN_lt _ _ h).2
  omega
theorem fdP_lt {w : List Nat} (hw : wfB B) {i : Nat} (h : fdP B w = some i) : i < bP B := by
  have := (findN_lt _ _ h).2
  omega
theorem c_newN (hl : l < 2) (hd : 10 ≤ d) (h : CRd F G t p) (hB : CLb F G l B) (hw : wfB B) : Td E d 37 0 [some (vr 7 0), some (vr 9 l), none] [] x F G b (some (vi (b2i (okB (newN t p B))))) (COut t F G (newN t p B)) := by
  obtain ⟨w1, w2, w3, w4, _⟩ := hw
  obtain ⟨c1, c2, _, _, _, _, _, c8, c9, _⟩ := hB
  refine d_run 1 rfl ?_
  refine d_gR k37_1 (by first | assumption | exact Nat.le_of_ble_eq_true rfl | omega) ⟨rfl, rfl, rfl⟩ rfl ?_
  refine d_callT 1 k37_4 (by omega) (Nat.le_of_ble_eq_true rfl) rfl (Nat.le_of_ble_eq_true rfl) (Nat.le_of_ble_eq_true rfl) (recv_ok rfl (by first | assumption | exact Nat.le_of_ble_eq_true rfl | omega)) rfl (c_isNm (by omega) h) rfl ?_
  refine d_if_ne k37_7 (fun h7 => ?_) (fun h7 => ?_)
  · rw [b2i0, Bool.not_eq_false] at h7
    have hK := isNm_K h7
    have hwd := tW_ok hK
    refine d_run 2 rfl ?_
    refine d_gR k37_21 (by first | assumption | exact Nat.le_of_ble_eq_true rfl | omega) ⟨rfl, rfl, rfl⟩ rfl ?_
    refine d_gL k37_24 (by first | assumption | exact Nat.le_of_ble_eq_true rfl | omega) ⟨rfl, rfl, rfl⟩ ?_
    rw [h.2.2.2.2.2.1 hK]
    refine d_callT 2 k37_27 (by omega) (Nat.le_of_ble_eq_true rfl) rfl (Nat.le_of_ble_eq_true rfl) (Nat.le_of_ble_eq_true rfl) (recv_ok rfl (by first | assumption | exact lx2 _ | exact Nat.lt_of_lt_of_le (m := 2) hl (Nat.le_of_ble_eq_true rfl) | omega)) rfl (c_stN hl c1 w1 c8 w3 hwd) rfl ?_
    refine d_run 1 rfl ?_
    refine d_ic_ne k37_31 (fun h31 => ?_) (fun h31 => ?_)
    · rw [fdV_1 (fun i e => by have := (findN_lt _ _ e).2; omega)] at h31
      have eF : ((fdS B (tW t p)).isSome || (fdP B (tW t p)).isSome) = true := by cases e : fdS B (tW t p) with
        | none => exact absurd e h31
        | some j => rfl
      refine d_run 2 rfl ?_
      first
      | (rw [show newN t p B = .inl (3 + 16 * p) by simp only [newN]; rw [if_pos h7, if_pos eF]]
         refine d_run 2 rfl ?_
         refine d_if_eq k37_56 (fun h56 => ?_) (fun h56 => ?_)
         · exact absurd h56 (by decide)
         · refine d_run 1 rfl ?_
           refine d_gR k37_60 (by first | assumption | exact Nat.le_of_ble_eq_true rfl | omega) ⟨rfl, rfl, rfl⟩ rfl ?_
           refine d_run 1 rfl ?_
           refine d_callT 2 k37_64 (by omega) (Nat.le_of_ble_eq_true rfl) rfl (Nat.le_of_ble_eq_true rfl) (Nat.le_of_ble_eq_true rfl) (recv_ok rfl (by first | assumption | exact Nat.le_of_ble_eq_true rfl | omega)) rfl (c_refuse (c := 3) h) rfl ?_
           refine d_if_eq k37_67 (fun h67 => ?_) (fun h67 => ?_)
           · refine d_run 1 rfl ?_
             refine d_ib k37_75 (by rfl) ?_
             exact CFt.of CNx.rf
           · exact absurd rfl h67)
      | (rw [show newN t p B = .inr p by simp only [newN]; rw [if_pos h7, if_neg (by rw [eF]; decide)]]
         refine d_run 2 rfl ?_
         refine d_if_eq k37_56 (fun h56 => ?_) (fun h56 => ?_)
         · refine d_run 2 rfl ?_
           refine d_ib k37_75 (by rfl) ?_
           exact ⟨h, CNx.rf⟩
         · exact absurd rfl h56)
    · rw [fdV_1 (fun i e => by have := (findN_lt _ _ e).2; omega)] at h31
      refine d_run 2 rfl ?_
      refine d_gR k37_36 (by first | assumption | exact Nat.le_of_ble_eq_true rfl | omega) ⟨rfl, rfl, rfl⟩ rfl ?_
      refine d_gL k37_39 (by first | assumption | exact Nat.le_of_ble_eq_true rfl | omega) ⟨rfl, rfl, rfl⟩ ?_
      rw [h.2.2.2.2.2.1 hK]
      refine d_callT 2 k37_42 (by omega) (Nat.le_of_ble_eq_true rfl) rfl (Nat.le_of_ble_eq_true rfl) (Nat.le_of_ble_eq_true rfl) (recv_ok rfl (by first | assumption | exact lx2 _ | exact Nat.lt_of_lt_of_le (m := 2) hl (Nat.le_of_ble_eq_true rfl) | omega)) rfl (c_peN hl c2 w2 c9 w4 hwd) rfl ?_
      refine d_run 1 rfl ?_
      refine d_ic_eq k37_46 (fun h46 => ?_) (fun h46 => ?_)
      · rw [fdV_1 (fun i e => by have := (findN_lt _ _ e).2; omega)] at h46
        have eF : ((fdS B (tW t p)).isSome || (fdP B (tW t p)).isSome) = false := by rw [show fdS B (tW t p) = none from h31, show fdP B (tW t p) = none from h46]; rfl
        refine d_run 1 rfl ?_
        first
        | (rw [show newN t p B = .inl (3 + 16 * p) by simp only [newN]; rw [if_pos h7, if_pos eF]]
           refine d_run 2 rfl ?_
           refine d_if_eq k37_56 (fun h56 => ?_) (fun h56 => ?_)
           · exact absurd h56 (by decide)
           · refine d_run 1 rfl ?_
             refine d_gR k37_60 (by first | assumption | exact Nat.le_of_ble_eq_true rfl | omega) ⟨rfl, rfl, rfl⟩ rfl ?_
             refine d_run 1 rfl ?_
             refine d_callT 2 k37_64 (by omega) (Nat.le_of_ble_eq_true rfl) rfl (Nat.le_of_ble_eq_true rfl) (Nat.le_of_ble_eq_true rfl) (recv_ok rfl (by first | assumption | exact Nat.le_of_ble_eq_true rfl | omega)) rfl (c_refuse (c := 3) h) rfl ?_
             refine d_if_eq k37_67 (fun h67 => ?_) (fun h67 => ?_)
             · refine d_run 1 rfl ?_
               refine d_ib k37_75 (by rfl) ?_
               exact CFt.of CNx.rf
             · exact absurd rfl h67)
        | (rw [show newN t p B = .inr p by simp only [newN]; rw [if_pos h7, if_neg (by rw [eF]; decide)]]
           refine d_run 2 rfl ?_
           refine d_if_eq k37_56 (fun h56 => ?_) (fun h56 => ?_)
           · refine d_run 2 rfl ?_
             refine d_ib k37_75 (by rfl) ?_
             exact ⟨h, CNx.rf⟩
           · exact absurd rfl h56)
      · rw [fdV_1 (fun i e => by have := (findN_lt _ _ e).2; omega)] at h46
        have eF : ((fdS B (tW t p)).isSome || (fdP B (tW t p)).isSome) = true := by cases e : fdP B (tW t p) with
          | none => exact absurd e h46
          | some j => rw [show ((some j : Option Nat).isSome) = true from rfl, Bool.or_true]
        refine d_run 2 rfl ?_
        first
        | (rw [show newN t p B = .inl (3 + 16 * p) by simp only [newN]; rw [if_pos h7, if_pos eF]]
           refine d_run 2 rfl ?_
           refine d_if_eq k37_56 (fun h56 => ?_) (fun h56 => ?_)
           · exact absurd h56 (by decide)
           · refine d_run 1 rfl ?_
             refine d_gR k37_60 (by first | assumption | exact Nat.le_of_ble_eq_true rfl | omega) ⟨rfl, rfl, rfl⟩ rfl ?_
             refine d_run 1 rfl ?_
             refine d_callT 2 k37_64 (by omega) (Nat.le_of_ble_eq_true rfl) rfl (Nat.le_of_ble_eq_true rfl) (Nat.le_of_ble_eq_true rfl) (recv_ok rfl (by first | assumption | exact Nat.le_of_ble_eq_true rfl | omega)) rfl (c_refuse (c := 3) h) rfl ?_
             refine d_if_eq k37_67 (fun h67 => ?_) (fun h67 => ?_)
             · refine d_run 1 rfl ?_
               refine d_ib k37_75 (by rfl) ?_
               exact CFt.of CNx.rf
             · exact absurd rfl h67)
        | (rw [show newN t p B = .inr p by simp only [newN]; rw [if_pos h7, if_neg (by rw [eF]; decide)]]
           refine d_run 2 rfl ?_
           refine d_if_eq k37_56 (fun h56 => ?_) (fun h56 => ?_)
           · refine d_run 2 rfl ?_
             refine d_ib k37_75 (by rfl) ?_
             exact ⟨h, CNx.rf⟩
           · exact absurd rfl h56)
  · rw [b2i0] at h7
    rw [show newN t p B = .inl (1 + 16 * p) by simp only [newN]; rw [if_neg (by rw [h7]; decide)]]
    refine d_run 1 rfl ?_
    refine d_gR k37_11 (by first | assumption | exact Nat.le_of_ble_eq_true rfl | omega) ⟨rfl, rfl, rfl⟩ rfl ?_
    refine d_run 1 rfl ?_
    refine d_callT 2 k37_15 (by omega) (Nat.le_of_ble_eq_true rfl) rfl (Nat.le_of_ble_eq_true rfl) (Nat.le_of_ble_eq_true rfl) (recv_ok rfl (by first | assumption | exact Nat.le_of_ble_eq_true rfl | omega)) rfl (c_refuse (c := 1) h) rfl ?_
    refine d_ib k37_18 (by rfl) ?_
    exact CFt.of CNx.rf
theorem c_numS {S : Nat} {nm : Nat → List Nat} (hl : l < 2) (hd : 10 ≤ d) (h : CRd F G t p) (hS : F 9 l 9 = nI S) (hS5 : S ≤ 5) (hN : ∀ i, i < S → G 10 l i = w32 (nm i)) (hwn : ∀ i, i < S → wfWd (nm i)) : Td E d 38 0 [some (vr 7 0), some (vr 9 l), some (vi 1), none] [] x F G b (some (vi (nmV (numH t p (findN nm (tW t p) 0 S))))) (CNum F G (numH t p (findN nm (tW t p) 0 S))) := by
  refine d_run 1 rfl ?_
  refine d_gR k38_1 (by first | assumption | exact Nat.le_of_ble_eq_true rfl | omega) ⟨rfl, rfl, rfl⟩ rfl ?_
  refine d_callT 1 k38_4 (by omega) (Nat.le_of_ble_eq_true rfl) rfl (Nat.le_of_ble_eq_true rfl) (Nat.le_of_ble_eq_true rfl) (recv_ok rfl (by first | assumption | exact Nat.le_of_ble_eq_true rfl | omega)) rfl (c_isNm (by omega) h) rfl ?_
  refine d_if_ne k38_7 (fun h7 => ?_) (fun h7 => ?_)
  · rw [b2i0, Bool.not_eq_false] at h7
    have hK := isNm_K h7
    have hwd := tW_ok hK
    refine d_run 1 rfl ?_
    refine d_if_eq k38_22 (fun h22 => ?_) (fun h22 => ?_)
    · exact absurd h22 (by decide)
    · refine d_run 2 rfl ?_
      refine d_gR k38_27 (by first | assumption | exact Nat.le_of_ble_eq_true rfl | omega) ⟨rfl, rfl, rfl⟩ rfl ?_
      refine d_gL k38_30 (by first | assumption | exact Nat.le_of_ble_eq_true rfl | omega) ⟨rfl, rfl, rfl⟩ ?_
      rw [h.2.2.2.2.2.1 hK]
      refine d_callT 2 k38_33 (by omega) (Nat.le_of_ble_eq_true rfl) rfl (Nat.le_of_ble_eq_true rfl) (Nat.le_of_ble_eq_true rfl) (recv_ok rfl (by first | assumption | exact lx2 _ | exact Nat.lt_of_lt_of_le (m := 2) hl (Nat.le_of_ble_eq_true rfl) | omega)) rfl (c_stN hl hS hS5 hN hwn hwd) rfl ?_
      refine d_run 4 rfl ?_
      refine d_ic_ne k38_53 (fun h53 => ?_) (fun h53 => ?_)
      · rw [fdV_1 (fun i e => by have := (findN_lt _ _ e).2; omega)] at h53
        obtain ⟨j, ej⟩ : ∃ j, findN nm (tW t p) 0 S = some j := by
          cases e : findN nm (tW t p) 0 S with
          | none => exact absurd e h53
          | some j => exact ⟨j, rfl⟩
        rw [show numH t p (findN nm (tW t p) 0 S) = .inr j by simp only [numH]; rw [if_pos h7, ej], ej]
        refine d_run 1 rfl ?_
        refine d_ir k38_66 rfl (by rfl) ?_
        first | exact CFt.of CNx.rf | exact ⟨rfl, rfl⟩
      · rw [fdV_1 (fun i e => by have := (findN_lt _ _ e).2; omega)] at h53
        rw [show numH t p (findN nm (tW t p) 0 S) = .inl (2 + 16 * p) by simp only [numH]; rw [if_pos h7, h53], h53]
        refine d_run 1 rfl ?_
        refine d_gR k38_57 (by first | assumption | exact Nat.le_of_ble_eq_true rfl | omega) ⟨rfl, rfl, rfl⟩ rfl ?_
        refine d_run 1 rfl ?_
        refine d_callT 2 k38_61 (by omega) (Nat.le_of_ble_eq_true rfl) rfl (Nat.le_of_ble_eq_true rfl) (Nat.le_of_ble_eq_true rfl) (recv_ok rfl (by first | assumption | exact Nat.le_of_ble_eq_true rfl | omega)) rfl (c_refuse (c := 2) h) rfl ?_
        refine d_run 2 rfl ?_
        refine d_ir k38_66 rfl (by rfl) ?_
        first | exact CFt.of CNx.rf | exact ⟨rfl, rfl⟩
  · rw [b2i0] at h7
    rw [show numH t p (findN nm (tW t p) 0 S) = .inl (1 + 16 * p) by simp only [numH]; rw [if_neg (by rw [h7]; decide)]]
    refine d_run 1 rfl ?_
    refine d_gR k38_11 (by first | assumption | exact Nat.le_of_ble_eq_true rfl | omega) ⟨rfl, rfl, rfl⟩ rfl ?_
    refine d_run 1 rfl ?_
    refine d_callT 2 k38_15 (by omega) (Nat.le_of_ble_eq_true rfl) rfl (Nat.le_of_ble_eq_true rfl) (Nat.le_of_ble_eq_true rfl) (recv_ok rfl (by first | assumption | exact Nat.le_of_ble_eq_true rfl | omega)) rfl (c_refuse (c := 1) h) rfl ?_
    refine d_run 2 rfl ?_
    refine d_ir k38_20 rfl (by rfl) ?_
    exact CFt.of CNx.rf
theorem c_numP {S : Nat} {nm : Nat → List Nat} (hl : l < 2) (hd : 10 ≤ d) (h : CRd F G t p) (hS : F 9 l 10 = nI S) (hS5 : S ≤ 6) (hN : ∀ i, i < S → G 12 l i = w32 (nm i)) (hwn : ∀ i, i < S → wfWd (nm i)) : Td E d 38 0 [some (vr 7 0), some (vr 9 l), some (vi 0), none] [] x F G b (some (vi (nmV (numH t p (findN nm (tW t p) 0 S))))) (CNum F G (numH t p (findN nm (tW t p) 0 S))) := by
  refine d_run 1 rfl ?_
  refine d_gR k38_1 (by first | assumption | exact Nat.le_of_ble_eq_true rfl | omega) ⟨rfl, rfl, rfl⟩ rfl ?_
  refine d_callT 1 k38_4 (by omega) (Nat.le_of_ble_eq_true rfl) rfl (Nat.le_of_ble_eq_true rfl) (Nat.le_of_ble_eq_true rfl) (recv_ok rfl (by first | assumption | exact Nat.le_of_ble_eq_true rfl | omega)) rfl (c_isNm (by omega) h) rfl ?_
  refine d_if_ne k38_7 (fun h7 => ?_) (fun h7 => ?_)
  · rw [b2i0, Bool.not_eq_false] at h7
    have hK := isNm_K h7
    have hwd := tW_ok hK
    refine d_run 1 rfl ?_
    refine d_if_eq k38_22 (fun h22 => ?_) (fun h22 => ?_)
    · refine d_run 2 rfl ?_
      refine d_gR k38_41 (by first | assumption | exact Nat.le_of_ble_eq_true rfl | omega) ⟨rfl, rfl, rfl⟩ rfl ?_
      refine d_gL k38_44 (by first | assumption | exact Nat.le_of_ble_eq_true rfl | omega) ⟨rfl, rfl, rfl⟩ ?_
      rw [h.2.2.2.2.2.1 hK]
      refine d_callT 2 k38_47 (by omega) (Nat.le_of_ble_eq_true rfl) rfl (Nat.le_of_ble_eq_true rfl) (Nat.le_of_ble_eq_true rfl) (recv_ok rfl (by first | assumption | exact lx2 _ | exact Nat.lt_of_lt_of_le (m := 2) hl (Nat.le_of_ble_eq_true rfl) | omega)) rfl (c_peN hl hS hS5 hN hwn hwd) rfl ?_
      refine d_run 3 rfl ?_
      refine d_ic_ne k38_53 (fun h53 => ?_) (fun h53 => ?_)
      · rw [fdV_1 (fun i e => by have := (findN_lt _ _ e).2; omega)] at h53
        obtain ⟨j, ej⟩ : ∃ j, findN nm (tW t p) 0 S = some j := by
          cases e : findN nm (tW t p) 0 S with
          | none => exact absurd e h53
          | some j => exact ⟨j, rfl⟩
        rw [show numH t p (findN nm (tW t p) 0 S) = .inr j by simp only [numH]; rw [if_pos h7, ej], ej]
        refine d_run 1 rfl ?_
        refine d_ir k38_66 rfl (by rfl) ?_
        first | exact CFt.of CNx.rf | exact ⟨rfl, rfl⟩
      · rw [fdV_1 (fun i e => by have := (findN_lt _ _ e).2; omega)] at h53
        rw [show numH t p (findN nm (tW t p) 0 S) = .inl (2 + 16 * p) by simp only [numH]; rw [if_pos h7, h53], h53]
        refine d_run 1 rfl ?_
        refine d_gR k38_57 (by first | assumption | exact Nat.le_of_ble_eq_true rfl | omega) ⟨rfl, rfl, rfl⟩ rfl ?_
        refine d_run 1 rfl ?_
        refine d_callT 2 k38_61 (by omega) (Nat.le_of_ble_eq_true rfl) rfl (Nat.le_of_ble_eq_true rfl) (Nat.le_of_ble_eq_true rfl) (recv_ok rfl (by first | assumption | exact Nat.le_of_ble_eq_true rfl | omega)) rfl (c_refuse (c := 2) h) rfl ?_
        refine d_run 2 rfl ?_
        refine d_ir k38_66 rfl (by rfl) ?_
        first | exact CFt.of CNx.rf | exact ⟨rfl, rfl⟩
    · exact absurd rfl h22
  · rw [b2i0] at h7
    rw [show numH t p (findN nm (tW t p) 0 S) = .inl (1 + 16 * p) by simp only [numH]; rw [if_neg (by rw [h7]; decide)]]
    refine d_run 1 rfl ?_
    refine d_gR k38_11 (by first | assumption | exact Nat.le_of_ble_eq_true rfl | omega) ⟨rfl, rfl, rfl⟩ rfl ?_
    refine d_run 1 rfl ?_
    refine d_callT 2 k38_15 (by omega) (Nat.le_of_ble_eq_true rfl) rfl (Nat.le_of_ble_eq_true rfl) (Nat.le_of_ble_eq_true rfl) (recv_ok rfl (by first | assumption | exact Nat.le_of_ble_eq_true rfl | omega)) rfl (c_refuse (c := 1) h) rfl ?_
    refine d_run 2 rfl ?_
    refine d_ir k38_20 rfl (by rfl) ?_
    exact CFt.of CNx.rf
theorem c_addS {S : Nat} {wl : Int64} (hl : l < 2) (hS : F 9 l 9 = nI S) (hS5 : S < 5) : Td E d 2 0 [some (vr 9 l), some (vl wl), none] [] x F G b none (fun F2 G2 => F2 = uF (uF F 11 l S 0) 9 l 9 (nI (S + 1)) ∧ G2 = uG G 10 l S wl) := by
  refine d_run 1 rfl ?_
  refine d_gI k2_1 (by first | assumption | exact lx2 _ | exact Nat.le_of_ble_eq_true rfl | omega | exact Nat.lt_of_lt_of_le (m := 2) (by omega) (Nat.le_of_ble_eq_true rfl)) ⟨rfl, rfl, Or.inl rfl⟩ ?_
  rw [hS]
  refine d_run 1 rfl ?_
  refine d_ic_ge k2_5 (fun h5 => ?_) (fun h5 => ?_)
  · exact absurd (ge_nI (b := 5) h5 rfl (by omega) (by omega)) (by omega)
  · refine d_run 1 rfl ?_
    refine d_gR k2_9 (by first | assumption | exact lx2 _ | exact Nat.le_of_ble_eq_true rfl | omega | exact Nat.lt_of_lt_of_le (m := 2) (by omega) (Nat.le_of_ble_eq_true rfl)) ⟨rfl, rfl, rfl⟩ rfl ?_
    refine d_run 1 rfl ?_
    refine d_gI k2_13 (by first | assumption | exact lx2 _ | exact Nat.le_of_ble_eq_true rfl | omega | exact Nat.lt_of_lt_of_le (m := 2) (by omega) (Nat.le_of_ble_eq_true rfl)) ⟨rfl, rfl, Or.inl rfl⟩ ?_
    rw [hS]
    refine d_run 1 rfl ?_
    refine d_ls (N := 5) (j := S) k2_17 (by first | assumption | exact lx2 _ | exact Nat.le_of_ble_eq_true rfl | omega | exact Nat.lt_of_lt_of_le (m := 2) (by omega) (Nat.le_of_ble_eq_true rfl)) ⟨rfl, rfl⟩ (show S < 5 by omega) rfl ?_
    refine d_run 1 rfl ?_
    refine d_gR k2_19 (by first | assumption | exact lx2 _ | exact Nat.le_of_ble_eq_true rfl | omega | exact Nat.lt_of_lt_of_le (m := 2) (by omega) (Nat.le_of_ble_eq_true rfl)) ⟨rfl, rfl, rfl⟩ rfl ?_
    refine d_run 1 rfl ?_
    refine d_gI k2_23 (by first | assumption | exact lx2 _ | exact Nat.le_of_ble_eq_true rfl | omega | exact Nat.lt_of_lt_of_le (m := 2) (by omega) (Nat.le_of_ble_eq_true rfl)) ⟨rfl, rfl, Or.inl rfl⟩ ?_
    rw [hS]
    refine d_run 1 rfl ?_
    refine d_is (N := 5) (j := S) k2_27 (by first | assumption | exact lx2 _ | exact Nat.le_of_ble_eq_true rfl | omega | exact Nat.lt_of_lt_of_le (m := 2) (by omega) (Nat.le_of_ble_eq_true rfl)) ⟨rfl, rfl⟩ (show S < 5 by omega) rfl ?_
    refine d_run 2 rfl ?_
    refine d_gI k2_30 (by first | assumption | exact lx2 _ | exact Nat.le_of_ble_eq_true rfl | omega | exact Nat.lt_of_lt_of_le (m := 2) (by omega) (Nat.le_of_ble_eq_true rfl)) ⟨rfl, rfl, Or.inl rfl⟩ ?_
    rw [uF_k (by decide), hS]
    refine d_run 2 rfl ?_
    rw [show ibop 0 (nI S) 1 = nI (S + 1) from nI_1 S]
    refine d_pI k2_35 (by first | assumption | exact lx2 _ | exact Nat.le_of_ble_eq_true rfl | omega | exact Nat.lt_of_lt_of_le (m := 2) (by omega) (Nat.le_of_ble_eq_true rfl)) ⟨rfl, rfl⟩ ?_
    refine d_ret k2_38 ?_
    exact ⟨rfl, rfl⟩
theorem c_addP {S : Nat} {wl : Int64} (hl : l < 2) (hS : F 9 l 10 = nI S) (hS5 : S < 6) : Td E d 3 0 [some (vr 9 l), some (vl wl), none] [] x F G b none (fun F2 G2 => F2 = uF (uF F 16 l S 0) 9 l 10 (nI (S + 1)) ∧ G2 = uG G 12 l S wl) := by
  refine d_run 1 rfl ?_
  refine d_gI k3_1 (by first | assumption | exact lx2 _ | exact Nat.le_of_ble_eq_true rfl | omega | exact Nat.lt_of_lt_of_le (m := 2) (by omega) (Nat.le_of_ble_eq_true rfl)) ⟨rfl, rfl, Or.inl rfl⟩ ?_
  rw [hS]
  refine d_run 1 rfl ?_
  refine d_ic_ge k3_6 (fun h6 => ?_) (fun h6 => ?_)
  · exact absurd (ge_nI (b := 6) h6 rfl (by omega) (by omega)) (by omega)
  · refine d_run 1 rfl ?_
    refine d_gR k3_10 (by first | assumption | exact lx2 _ | exact Nat.le_of_ble_eq_true rfl | omega | exact Nat.lt_of_lt_of_le (m := 2) (by omega) (Nat.le_of_ble_eq_true rfl)) ⟨rfl, rfl, rfl⟩ rfl ?_
    refine d_run 1 rfl ?_
    refine d_gI k3_14 (by first | assumption | exact lx2 _ | exact Nat.le_of_ble_eq_true rfl | omega | exact Nat.lt_of_lt_of_le (m := 2) (by omega) (Nat.le_of_ble_eq_true rfl)) ⟨rfl, rfl, Or.inl rfl⟩ ?_
    rw [hS]
    refine d_run 1 rfl ?_
    refine d_ls (N := 6) (j := S) k3_18 (by first | assumption | exact lx2 _ | exact Nat.le_of_ble_eq_true rfl | omega | exact Nat.lt_of_lt_of_le (m := 2) (by omega) (Nat.le_of_ble_eq_true rfl)) ⟨rfl, rfl⟩ (show S < 6 by omega) rfl ?_
    refine d_run 1 rfl ?_
    refine d_gR k3_20 (by first | assumption | exact lx2 _ | exact Nat.le_of_ble_eq_true rfl | omega | exact Nat.lt_of_lt_of_le (m := 2) (by omega) (Nat.le_of_ble_eq_true rfl)) ⟨rfl, rfl, rfl⟩ rfl ?_
    refine d_run 1 rfl ?_
    refine d_gI k3_24 (by first | assumption | exact lx2 _ | exact Nat.le_of_ble_eq_true rfl | omega | exact Nat.lt_of_lt_of_le (m := 2) (by omega) (Nat.le_of_ble_eq_true rfl)) ⟨rfl, rfl, Or.inl rfl⟩ ?_
    rw [hS]
    refine d_run 1 rfl ?_
    refine d_is (N := 6) (j := S) k3_28 (by first | assumption | exact lx2 _ | exact Nat.le_of_ble_eq_true rfl | omega | exact Nat.lt_of_lt_of_le (m := 2) (by omega) (Nat.le_of_ble_eq_true rfl)) ⟨rfl, rfl⟩ (show S < 6 by omega) rfl ?_
    refine d_run 2 rfl ?_
    refine d_gI k3_31 (by first | assumption | exact lx2 _ | exact Nat.le_of_ble_eq_true rfl | omega | exact Nat.lt_of_lt_of_le (m := 2) (by omega) (Nat.le_of_ble_eq_true rfl)) ⟨rfl, rfl, Or.inl rfl⟩ ?_
    rw [uF_k (by decide), hS]
    refine d_run 2 rfl ?_
    rw [show ibop 0 (nI S) 1 = nI (S + 1) from nI_1 S]
    refine d_pI k3_36 (by first | assumption | exact lx2 _ | exact Nat.le_of_ble_eq_true rfl | omega | exact Nat.lt_of_lt_of_le (m := 2) (by omega) (Nat.le_of_ble_eq_true rfl)) ⟨rfl, rfl⟩ ?_
    refine d_ret k3_39 ?_
    exact ⟨rfl, rfl⟩
theorem CLb.addS {w : List Nat} (h : CLb F G l B) : CLb (uF (uF F 11 l (bS B) 0) 9 l 9 (nI (bS B + 1))) (uG G 10 l (bS B) (w32 w)) l (addS B w) := by
  obtain ⟨c1, c2, c3, c4, c5, c6, c7, c8, c9, c10, c11, c12⟩ := h
  refine ⟨?_, ?_, ?_, ?_, ?_, fun i hi => ?_, fun i hi => ?_, fun i hi => ?_, fun i hi => ?_, fun i hi => ?_, ?_, ?_⟩
  · rw [uF_r, pk_us]; rfl
  · rw [uF_r, pk_un (by decide), uF_k (by decide)]; exact c2
  · rw [uF_r, pk_un (by decide), uF_k (by decide)]; exact c3
  · rw [uF_r, pk_un (by decide), uF_k (by decide)]; exact c4
  · rw [uF_r, pk_un (by decide), uF_k (by decide)]; exact c5
  · have hi : i < bS B + 1 := hi
    rw [uF_k (by decide), uF_r]
    show _ = updR (bR B) 0 (bS B) 0 0 i
    by_cases e : i = bS B
    · rw [e, pk_us, updR_s]
    · rw [pk_un e, updR_n (by omega)]; exact c6 i (by omega)
  · rw [uF_k (by decide), uF_k (by decide), uF_k (by decide), uF_k (by decide), uF_k (by decide), uF_k (by decide), uF_k (by decide), uF_k (by decide)]
    exact c7 i hi
  · have hi : i < bS B + 1 := hi
    show _ = w32 (updW (bN B).1 (bS B) w i)
    simp only [uG, updW]
    by_cases e : i = bS B
    · simp [e]
    · simp [e]; exact c8 i (by omega)
  · rw [uG_k (by decide)]; exact c9 i hi
  · rw [uF_k (by decide), uF_k (by decide)]; exact c10 i hi
  · rw [uF_k (by decide), uF_k (by decide)]; exact c11
  · rw [uF_k (by decide), uF_k (by decide)]; exact c12
theorem c_street (hl : l < 2) (hd : 20 ≤ d) (h : CRd F G t p) (hB : CLb F G l B) (hw : wfB B) : Td E d 29 0 [some (vr 7 0), some (vr 9 l)] [] x F G b (some (vi (b2i (okB (sStreet t p B))))) (COb t l F G (sStreet t p B)) := by
  obtain ⟨w1, w2, w3, w4, _⟩ := id hw
  obtain ⟨c1, c2, c3, c4, c5, c6, c7, c8, c9, c10, c11, c12⟩ := id hB
  refine d_run 1 rfl ?_
  refine d_gI k29_1 (by first | assumption | exact lx2 _ | exact Nat.lt_of_lt_of_le (m := 2) hl (Nat.le_of_ble_eq_true rfl) | omega) ⟨rfl, rfl, Or.inl rfl⟩ ?_
  rw [c1]
  refine d_run 1 rfl ?_
  refine d_ic_lt k29_5 (fun h5 => ?_) (fun h5 => ?_)
  · have h5 := gt_nI (a := 5) (b := bS B) h5 rfl (by omega) (by omega)
    refine d_run 1 rfl ?_
    refine d_gR k29_18 (by first | assumption | exact Nat.le_of_ble_eq_true rfl | omega) ⟨rfl, rfl, rfl⟩ rfl ?_
    refine d_call 1 k29_21 (by omega) (Nat.le_of_ble_eq_true rfl) rfl (Nat.le_of_ble_eq_true rfl) (Nat.le_of_ble_eq_true rfl) (recv_ok rfl (by first | assumption | exact Nat.le_of_ble_eq_true rfl | omega)) rfl (c_nx (by omega) h) rfl ?_
    rintro F1 G1 ⟨h1a, n1a⟩
    refine d_run 2 rfl ?_
    refine d_call 2 k29_26 (by omega) (Nat.le_of_ble_eq_true rfl) rfl (Nat.le_of_ble_eq_true rfl) (Nat.le_of_ble_eq_true rfl) (recv_ok rfl (by first | assumption | exact Nat.le_of_ble_eq_true rfl | omega)) rfl (c_newN hl (by omega) h1a (hB.d5 (D5.rf.nx n1a)) hw) rfl ?_
    rintro F2 G2 q2
    refine d_if_ne k29_29 (fun h29 => ?_) (fun h29 => ?_)
    · rw [b2i0, Bool.not_eq_false] at h29
      obtain ⟨p1, ef⟩ := okB_t h29
      obtain ⟨rfl, hnm⟩ := newN_r ef
      rw [ef] at q2
      obtain ⟨h2, n2⟩ := q2
      rw [show sStreet t p B = .inr (tN t (tN t p), addS B (tW t (tN t p))) by simp only [sStreet]; rw [if_neg (by omega), ef]; rfl]
      have d2 := (D5.rf.nx n1a).nx n2
      have hB2 := hB.d5 d2
      refine d_run 2 rfl ?_
      refine d_gR k29_36 (by first | assumption | exact Nat.le_of_ble_eq_true rfl | omega) ⟨rfl, rfl, rfl⟩ rfl ?_
      refine d_gL k29_39 (by first | assumption | exact Nat.le_of_ble_eq_true rfl | omega) ⟨rfl, rfl, rfl⟩ ?_
      rw [h2.2.2.2.2.2.1 (isNm_K hnm)]
      refine d_call 2 k29_42 (by omega) (Nat.le_of_ble_eq_true rfl) rfl (Nat.le_of_ble_eq_true rfl) (Nat.le_of_ble_eq_true rfl) (recv_ok rfl (by first | assumption | exact lx2 _ | exact Nat.lt_of_lt_of_le (m := 2) hl (Nat.le_of_ble_eq_true rfl) | omega)) rfl (c_addS hl hB2.1 h5) rfl ?_
      rintro F3 G3 ⟨rfl, rfl⟩
      have h3 : CRd (uF (uF F2 11 l (bS B) 0) 9 l 9 (nI (bS B + 1))) (uG G2 10 l (bS B) (w32 (tW t (tN t p)))) t (tN t p) := ((h2.u (by decide) (by decide)).u (by decide) (by decide)).ug (by decide)
      refine d_run 1 rfl ?_
      refine d_gR k29_46 (by first | assumption | exact Nat.le_of_ble_eq_true rfl | omega) ⟨rfl, rfl, rfl⟩ rfl ?_
      refine d_call 1 k29_49 (by omega) (Nat.le_of_ble_eq_true rfl) rfl (Nat.le_of_ble_eq_true rfl) (Nat.le_of_ble_eq_true rfl) (recv_ok rfl (by first | assumption | exact Nat.le_of_ble_eq_true rfl | omega)) rfl (c_nx (by omega) h3) rfl ?_
      rintro F4 G4 ⟨h4a, n4a⟩
      refine d_run 1 rfl ?_
      refine d_ib k29_53 (by rfl) ?_
      exact ⟨h4a, hB.addS.d5 (d2.u.u.ug.nx n4a), ((((CFr.rf (l := l) (F := F) (G := G)).u (by decide)).u (by decide)).ug (Or.inl rfl)).tr (D5.fr (d2.u.u.ug.nx n4a))⟩
    · rw [b2i0] at h29
      obtain ⟨f, ef⟩ := okB_f h29
      rw [ef] at q2
      rw [show sStreet t p B = .inl f by simp only [sStreet]; rw [if_neg (by omega), ef]; rfl]
      refine d_run 1 rfl ?_
      refine d_ib k29_33 (by rfl) ?_
      exact ⟨q2.1, D5.fr ((D5.rf.nx n1a).ft q2)⟩
  · have h5 := le_nI (a := 5) (b := bS B) h5 rfl (by omega) (by omega)
    rw [show sStreet t p B = .inl (5 + 16 * p) by simp only [sStreet]; rw [if_pos h5]]
    refine d_run 1 rfl ?_
    refine d_gR k29_9 (by first | assumption | exact Nat.le_of_ble_eq_true rfl | omega) ⟨rfl, rfl, rfl⟩ rfl ?_
    refine d_run 1 rfl ?_
    refine d_callT 2 k29_13 (by omega) (Nat.le_of_ble_eq_true rfl) rfl (Nat.le_of_ble_eq_true rfl) (Nat.le_of_ble_eq_true rfl) (recv_ok rfl (by first | assumption | exact Nat.le_of_ble_eq_true rfl | omega)) rfl (c_refuse (c := 5) h) rfl ?_
    refine d_ib k29_16 (by rfl) ?_
    exact ⟨by rw [uF_r, pk_us], D5.fr (D5.rf.ft (CFt.of (f := 5 + 16 * p) CNx.rf))⟩
theorem CLb.setSo {v : Nat} (h : CLb F G l B) : CLb (uF (uF F 7 0 2 1) 9 l 11 (nI v)) G l (setSo B v) := by
  obtain ⟨c1, c2, c3, c4, c5, c6, c7, c8, c9, c10, c11, c12⟩ := h
  refine ⟨?_, ?_, ?_, ?_, ?_, fun i hi => ?_, fun i hi => ?_, c8, c9, fun i hi => ?_, ?_, ?_⟩
  · rw [uF_r, pk_un (by decide), uF_k (by decide)]; exact c1
  · rw [uF_r, pk_un (by decide), uF_k (by decide)]; exact c2
  · rw [uF_r, pk_us]; rfl
  · rw [uF_r, pk_un (by decide), uF_k (by decide)]; exact c4
  · rw [uF_r, pk_un (by decide), uF_k (by decide)]; exact c5
  · rw [uF_k (by decide), uF_k (by decide)]; exact c6 i hi
  · rw [uF_k (by decide), uF_k (by decide), uF_k (by decide), uF_k (by decide), uF_k (by decide), uF_k (by decide), uF_k (by decide), uF_k (by decide)]
    exact c7 i hi
  · rw [uF_k (by decide), uF_k (by decide)]; exact c10 i hi
  · rw [uF_k (by decide), uF_r, pk_us]; rfl
  · rw [uF_k (by decide), uF_r, pk_un (by decide)]; exact c12
theorem c_soon (hl : l < 2) (hd : 20 ≤ d) (h : CRd F G t p) (hB : CLb F G l B) : Td E d 32 0 [some (vr 7 0), some (vr 9 l)] [] x F G b (some (vi (b2i (okB (sSoon t p B))))) (COb t l F G (sSoon t p B)) := by
  obtain ⟨c1, c2, c3, c4, c5, c6, c7, c8, c9, c10, c11, c12⟩ := id hB
  refine d_run 1 rfl ?_
  refine d_gI k32_1 (by first | assumption | exact Nat.le_of_ble_eq_true rfl | omega) ⟨rfl, rfl, Or.inr rfl⟩ ?_
  rw [c11]
  refine d_if_eq k32_4 (fun h4 => ?_) (fun h4 => ?_)
  · rw [b2i0] at h4
    refine d_run 2 rfl ?_
    refine d_pZ k32_18 (by first | assumption | exact Nat.le_of_ble_eq_true rfl | omega) ⟨rfl, rfl⟩ (by first | exact Or.inl rfl | exact Or.inr rfl) ?_
    have h1 : CRd (uF F 7 0 2 1) G t p := h.u (by decide) (by decide)
    have d1 : D5 (uF F 7 0 2 1) G (uF F 7 0 2 1) G := D5.rf
    refine d_run 1 rfl ?_
    refine d_gR k32_22 (by first | assumption | exact Nat.le_of_ble_eq_true rfl | omega) ⟨rfl, rfl, rfl⟩ rfl ?_
    refine d_call 1 k32_25 (by omega) (Nat.le_of_ble_eq_true rfl) rfl (Nat.le_of_ble_eq_true rfl) (Nat.le_of_ble_eq_true rfl) (recv_ok rfl (by first | assumption | exact Nat.le_of_ble_eq_true rfl | omega)) rfl (c_nx (by omega) h1) rfl ?_
    rintro F2 G2 ⟨h2a, n2a⟩
    refine d_run 1 rfl ?_
    refine d_gR k32_29 (by first | assumption | exact Nat.le_of_ble_eq_true rfl | omega) ⟨rfl, rfl, rfl⟩ rfl ?_
    refine d_run 2 rfl ?_
    refine d_call 3 k32_35 (by omega) (Nat.le_of_ble_eq_true rfl) rfl (Nat.le_of_ble_eq_true rfl) (Nat.le_of_ble_eq_true rfl) (recv_ok rfl (by first | assumption | exact Nat.le_of_ble_eq_true rfl | omega)) rfl (c_num (lo := 1) (hi := 9) (by decide) (by decide) (by omega) h2a (fun e => tV_le e)) rfl ?_
    rintro F3 G3 q3
    refine d_if_ne k32_38 (fun h38 => ?_) (fun h38 => ?_)
    · rw [b2i0, Bool.not_eq_false] at h38
      obtain ⟨p1, ef⟩ := okB_t h38
      obtain ⟨rfl, hK, _⟩ := pNum_r ef
      rw [ef] at q3
      obtain ⟨h3, n3⟩ := q3
      rw [show sSoon t p B = .inr (tN t (tN t p), setSo B (tV t (tN t p))) by simp only [sSoon]; rw [if_neg (by rw [h4]; decide), ef]; rfl]
      have d3 := (d1.nx n2a).nx n3
      refine d_run 2 rfl ?_
      refine d_gR k32_45 (by first | assumption | exact Nat.le_of_ble_eq_true rfl | omega) ⟨rfl, rfl, rfl⟩ rfl ?_
      refine d_gI k32_48 (by first | assumption | exact Nat.le_of_ble_eq_true rfl | omega) ⟨rfl, rfl, Or.inl rfl⟩ ?_
      rw [h3.2.2.2.2.2.2.1 hK]
      refine d_pI k32_51 (by first | assumption | exact lx2 _ | exact Nat.lt_of_lt_of_le (m := 2) hl (Nat.le_of_ble_eq_true rfl) | omega) ⟨rfl, rfl⟩ ?_
      have h5 : CRd (uF F3 9 l 11 (nI (tV t (tN t p)))) G3 t (tN t p) := h3.u (by decide) (by decide)
      refine d_run 1 rfl ?_
      refine d_gR k32_55 (by first | assumption | exact Nat.le_of_ble_eq_true rfl | omega) ⟨rfl, rfl, rfl⟩ rfl ?_
      refine d_call 1 k32_58 (by omega) (Nat.le_of_ble_eq_true rfl) rfl (Nat.le_of_ble_eq_true rfl) (Nat.le_of_ble_eq_true rfl) (recv_ok rfl (by first | assumption | exact Nat.le_of_ble_eq_true rfl | omega)) rfl (c_nx (by omega) h5) rfl ?_
      rintro F6 G6 ⟨h6a, n6a⟩
      refine d_run 1 rfl ?_
      refine d_ib k32_62 (by rfl) ?_
      exact ⟨h6a, hB.setSo.d5 (d3.u.nx n6a), ((CFr.u7 (CFr.rf (l := l) (F := F) (G := G))).u (by decide)).tr (D5.fr (d3.u.nx n6a))⟩
    · rw [b2i0] at h38
      obtain ⟨f, ef⟩ := okB_f h38
      rw [ef] at q3
      rw [show sSoon t p B = .inl f by simp only [sSoon]; rw [if_neg (by rw [h4]; decide), ef]; rfl]
      refine d_run 1 rfl ?_
      refine d_ib k32_42 (by rfl) ?_
      exact ⟨q3.1, (CFr.u7 CFr.rf).tr (D5.fr ((d1.nx n2a).ft q3))⟩
  · rw [b2i0, Bool.not_eq_false] at h4
    rw [show sSoon t p B = .inl (3 + 16 * p) by simp only [sSoon]; rw [if_pos h4]]
    refine d_run 1 rfl ?_
    refine d_gR k32_8 (by first | assumption | exact Nat.le_of_ble_eq_true rfl | omega) ⟨rfl, rfl, rfl⟩ rfl ?_
    refine d_run 1 rfl ?_
    refine d_callT 2 k32_12 (by omega) (Nat.le_of_ble_eq_true rfl) rfl (Nat.le_of_ble_eq_true rfl) (Nat.le_of_ble_eq_true rfl) (recv_ok rfl (by first | assumption | exact Nat.le_of_ble_eq_true rfl | omega)) rfl (c_refuse (c := 3) h) rfl ?_
    refine d_ib k32_15 (by rfl) ?_
    exact ⟨by rw [uF_r, pk_us], D5.fr (D5.rf.ft (CFt.of (f := 3 + 16 * p) CNx.rf))⟩
theorem CLb.setSp {v : Nat} (h : CLb F G l B) : CLb (uF (uF F 7 0 3 1) 9 l 12 (nI v)) G l (setSp B v) := by
  obtain ⟨c1, c2, c3, c4, c5, c6, c7, c8, c9, c10, c11, c12⟩ := h
  refine ⟨?_, ?_, ?_, ?_, ?_, fun i hi => ?_, fun i hi => ?_, c8, c9, fun i hi => ?_, ?_, ?_⟩
  · rw [uF_r, pk_un (by decide), uF_k (by decide)]; exact c1
  · rw [uF_r, pk_un (by decide), uF_k (by decide)]; exact c2
  · rw [uF_r, pk_un (by decide), uF_k (by decide)]; exact c3
  · rw [uF_r, pk_us]; rfl
  · rw [uF_r, pk_un (by decide), uF_k (by decide)]; exact c5
  · rw [uF_k (by decide), uF_k (by decide)]; exact c6 i hi
  · rw [uF_k (by decide), uF_k (by decide), uF_k (by decide), uF_k (by decide), uF_k (by decide), uF_k (by decide), uF_k (by decide), uF_k (by decide)]
    exact c7 i hi
  · rw [uF_k (by decide), uF_k (by decide)]; exact c10 i hi
  · rw [uF_k (by decide), uF_r, pk_un (by decide)]; exact c11
  · rw [uF_k (by decide), uF_r, pk_us]; rfl
theorem c_snap (hl : l < 2) (hd : 20 ≤ d) (h : CRd F G t p) (hB : CLb F G l B) : Td E d 33 0 [some (vr 7 0), some (vr 9 l)] [] x F G b (some (vi (b2i (okB (sSnap t p B))))) (COb t l F G (sSnap t p B)) := by
  obtain ⟨c1, c2, c3, c4, c5, c6, c7, c8, c9, c10, c11, c12⟩ := id hB
  refine d_run 1 rfl ?_
  refine d_gI k33_1 (by first | assumption | exact Nat.le_of_ble_eq_true rfl | omega) ⟨rfl, rfl, Or.inr rfl⟩ ?_
  rw [c12]
  refine d_if_eq k33_4 (fun h4 => ?_) (fun h4 => ?_)
  · rw [b2i0] at h4
    refine d_run 2 rfl ?_
    refine d_pZ k33_18 (by first | assumption | exact Nat.le_of_ble_eq_true rfl | omega) ⟨rfl, rfl⟩ (by first | exact Or.inl rfl | exact Or.inr rfl) ?_
    have h1 : CRd (uF F 7 0 3 1) G t p := h.u (by decide) (by decide)
    have d1 : D5 (uF F 7 0 3 1) G (uF F 7 0 3 1) G := D5.rf
    refine d_run 1 rfl ?_
    refine d_gR k33_22 (by first | assumption | exact Nat.le_of_ble_eq_true rfl | omega) ⟨rfl, rfl, rfl⟩ rfl ?_
    refine d_call 1 k33_25 (by omega) (Nat.le_of_ble_eq_true rfl) rfl (Nat.le_of_ble_eq_true rfl) (Nat.le_of_ble_eq_true rfl) (recv_ok rfl (by first | assumption | exact Nat.le_of_ble_eq_true rfl | omega)) rfl (c_nx (by omega) h1) rfl ?_
    rintro F2 G2 ⟨h2a, n2a⟩
    refine d_run 1 rfl ?_
    refine d_gR k33_29 (by first | assumption | exact Nat.le_of_ble_eq_true rfl | omega) ⟨rfl, rfl, rfl⟩ rfl ?_
    refine d_run 2 rfl ?_
    refine d_call 3 k33_35 (by omega) (Nat.le_of_ble_eq_true rfl) rfl (Nat.le_of_ble_eq_true rfl) (Nat.le_of_ble_eq_true rfl) (recv_ok rfl (by first | assumption | exact Nat.le_of_ble_eq_true rfl | omega)) rfl (c_num (lo := 1) (hi := 99) (by decide) (by decide) (by omega) h2a (fun e => tV_le e)) rfl ?_
    rintro F3 G3 q3
    refine d_if_ne k33_38 (fun h38 => ?_) (fun h38 => ?_)
    · rw [b2i0, Bool.not_eq_false] at h38
      obtain ⟨p1, ef⟩ := okB_t h38
      obtain ⟨rfl, hK, _⟩ := pNum_r ef
      rw [ef] at q3
      obtain ⟨h3, n3⟩ := q3
      rw [show sSnap t p B = .inr (tN t (tN t p), setSp B (tV t (tN t p))) by simp only [sSnap]; rw [if_neg (by rw [h4]; decide), ef]; rfl]
      have d3 := (d1.nx n2a).nx n3
      refine d_run 2 rfl ?_
      refine d_gR k33_45 (by first | assumption | exact Nat.le_of_ble_eq_true rfl | omega) ⟨rfl, rfl, rfl⟩ rfl ?_
      refine d_gI k33_48 (by first | assumption | exact Nat.le_of_ble_eq_true rfl | omega) ⟨rfl, rfl, Or.inl rfl⟩ ?_
      rw [h3.2.2.2.2.2.2.1 hK]
      refine d_pI k33_51 (by first | assumption | exact lx2 _ | exact Nat.lt_of_lt_of_le (m := 2) hl (Nat.le_of_ble_eq_true rfl) | omega) ⟨rfl, rfl⟩ ?_
      have h5 : CRd (uF F3 9 l 12 (nI (tV t (tN t p)))) G3 t (tN t p) := h3.u (by decide) (by decide)
      refine d_run 1 rfl ?_
      refine d_gR k33_55 (by first | assumption | exact Nat.le_of_ble_eq_true rfl | omega) ⟨rfl, rfl, rfl⟩ rfl ?_
      refine d_call 1 k33_58 (by omega) (Nat.le_of_ble_eq_true rfl) rfl (Nat.le_of_ble_eq_true rfl) (Nat.le_of_ble_eq_true rfl) (recv_ok rfl (by first | assumption | exact Nat.le_of_ble_eq_true rfl | omega)) rfl (c_nx (by omega) h5) rfl ?_
      rintro F6 G6 ⟨h6a, n6a⟩
      refine d_run 1 rfl ?_
      refine d_ib k33_62 (by rfl) ?_
      exact ⟨h6a, hB.setSp.d5 (d3.u.nx n6a), ((CFr.u7 (CFr.rf (l := l) (F := F) (G := G))).u (by decide)).tr (D5.fr (d3.u.nx n6a))⟩
    · rw [b2i0] at h38
      obtain ⟨f, ef⟩ := okB_f h38
      rw [ef] at q3
      rw [show sSnap t p B = .inl f by simp only [sSnap]; rw [if_neg (by rw [h4]; decide), ef]; rfl]
      refine d_run 1 rfl ?_
      refine d_ib k33_42 (by rfl) ?_
      exact ⟨q3.1, (CFr.u7 CFr.rf).tr (D5.fr ((d1.nx n2a).ft q3))⟩
  · rw [b2i0, Bool.not_eq_false] at h4
    rw [show sSnap t p B = .inl (3 + 16 * p) by simp only [sSnap]; rw [if_pos h4]]
    refine d_run 1 rfl ?_
    refine d_gR k33_8 (by first | assumption | exact Nat.le_of_ble_eq_true rfl | omega) ⟨rfl, rfl, rfl⟩ rfl ?_
    refine d_run 1 rfl ?_
    refine d_callT 2 k33_12 (by omega) (Nat.le_of_ble_eq_true rfl) rfl (Nat.le_of_ble_eq_true rfl) (Nat.le_of_ble_eq_true rfl) (recv_ok rfl (by first | assumption | exact Nat.le_of_ble_eq_true rfl | omega)) rfl (c_refuse (c := 3) h) rfl ?_
    refine d_ib k33_15 (by rfl) ?_
    exact ⟨by rw [uF_r, pk_us], D5.fr (D5.rf.ft (CFt.of (f := 3 + 16 * p) CNx.rf))⟩
theorem CLb.pairS {a c : Nat} (h : CLb F G l B) (ha : a < bS B) (hc : c < bS B) (hac : a ≠ c) : CLb (uF (uF F 11 l a (orB (F 11 l a) c)) 11 l c (orB (F 11 l c) a)) G l (addP2 B true a c) := by
  obtain ⟨c1, c2, c3, c4, c5, c6, c7, c8, c9, c10, c11, c12⟩ := h
  have k0 : ∀ i, i < bS B → uF (uF F 11 l a (orB (F 11 l a) c)) 11 l c (orB (F 11 l c) a) 11 l i = updR (updR (bR B) 0 a (orB (bR B 0 a) c)) 0 c (orB (bR B 0 c) a) 0 i := by
    intro i hi
    have ea : F 11 l a = bR B 0 a := c6 a ha
    have ec : F 11 l c = bR B 0 c := c6 c hc
    have ei : F 11 l i = bR B 0 i := c6 i hi
    rw [uF_r, uF_r]
    by_cases e : i = c
    · rw [e, pk_us, updR_s, ec]
    · rw [pk_un e, updR_n (by omega)]
      by_cases e2 : i = a
      · rw [e2, pk_us, updR_s, ea]
      · rw [pk_un e2, updR_n (by omega)]; exact ei
  refine ⟨?_, ?_, ?_, ?_, ?_, fun i hi => ?_, fun i hi => ?_, c8, c9, fun i hi => ?_, ?_, ?_⟩
  · rw [uF_k (by decide), uF_k (by decide)]; exact c1
  · rw [uF_k (by decide), uF_k (by decide)]; exact c2
  · rw [uF_k (by decide), uF_k (by decide)]; exact c3
  · rw [uF_k (by decide), uF_k (by decide)]; exact c4
  · rw [uF_k (by decide), uF_k (by decide)]; exact c5
  · exact k0 i hi
  · rw [uF_k (by decide), uF_k (by decide), uF_k (by decide), uF_k (by decide), uF_k (by decide), uF_k (by decide), uF_k (by decide), uF_k (by decide)]
    exact c7 i hi
  · rw [uF_k (by decide), uF_k (by decide)]; exact c10 i hi
  · rw [uF_k (by decide), uF_k (by decide)]; exact c11
  · rw [uF_k (by decide), uF_k (by decide)]; exact c12
theorem CLb.pairP {a c : Nat} (h : CLb F G l B) (ha : a < bP B) (hc : c < bP B) (hac : a ≠ c) : CLb (uF (uF F 16 l a (orB (F 16 l a) c)) 16 l c (orB (F 16 l c) a)) G l (addP2 B false a c) := by
  obtain ⟨c1, c2, c3, c4, c5, c6, c7, c8, c9, c10, c11, c12⟩ := h
  have k0 : ∀ i, i < bP B → uF (uF F 16 l a (orB (F 16 l a) c)) 16 l c (orB (F 16 l c) a) 16 l i = updR (updR (bR B) 4 a (orB (bR B 4 a) c)) 4 c (orB (bR B 4 c) a) 4 i := by
    intro i hi
    have ea : F 16 l a = bR B 4 a := (c7 a ha).2.2.2
    have ec : F 16 l c = bR B 4 c := (c7 c hc).2.2.2
    have ei : F 16 l i = bR B 4 i := (c7 i hi).2.2.2
    rw [uF_r, uF_r]
    by_cases e : i = c
    · rw [e, pk_us, updR_s, ec]
    · rw [pk_un e, updR_n (by omega)]
      by_cases e2 : i = a
      · rw [e2, pk_us, updR_s, ea]
      · rw [pk_un e2, updR_n (by omega)]; exact ei
  refine ⟨?_, ?_, ?_, ?_, ?_, fun i hi => ?_, fun i hi => ?_, c8, c9, fun i hi => ?_, ?_, ?_⟩
  · rw [uF_k (by decide), uF_k (by decide)]; exact c1
  · rw [uF_k (by decide), uF_k (by decide)]; exact c2
  · rw [uF_k (by decide), uF_k (by decide)]; exact c3
  · rw [uF_k (by decide), uF_k (by decide)]; exact c4
  · rw [uF_k (by decide), uF_k (by decide)]; exact c5
  · rw [uF_k (by decide), uF_k (by decide)]; exact c6 i hi
  · rw [uF_k (k2 := 13) (by decide), uF_k (k2 := 13) (by decide), uF_k (k2 := 14) (by decide), uF_k (k2 := 14) (by decide), uF_k (k2 := 15) (by decide), uF_k (k2 := 15) (by decide)]
    exact ⟨(c7 i hi).1, (c7 i hi).2.1, (c7 i hi).2.2.1, k0 i hi⟩
  · rw [uF_k (by decide), uF_k (by decide)]; exact c10 i hi
  · rw [uF_k (by decide), uF_k (by decide)]; exact c11
  · rw [uF_k (by decide), uF_k (by decide)]; exact c12
theorem c_pairS (hl : l < 2) (hd : 20 ≤ d) (h : CRd F G t p) (hB : CLb F G l B) (hw : wfB B) : Td E d 30 0 [some (vr 7 0), some (vr 9 l), some (vi 1), none, none, none] [] x F G b (some (vi (b2i (okB (sPair t p B true))))) (COb t l F G (sPair t p B true)) := by
  obtain ⟨w1, w2, w3, w4, _⟩ := id hw
  refine d_run 1 rfl ?_
  refine d_if_eq k30_1 (fun h1 => ?_) (fun h1 => ?_)
  · exact absurd h1 (by decide)
  · refine d_run 1 rfl ?_
    refine d_gR k30_5 (by first | assumption | exact lx2 _ | exact Nat.lt_of_lt_of_le (m := 2) hl (Nat.le_of_ble_eq_true rfl) | omega) ⟨rfl, rfl, rfl⟩ rfl ?_
    refine d_run 3 rfl ?_
    refine d_gR k30_17 (by first | assumption | exact Nat.le_of_ble_eq_true rfl | omega) ⟨rfl, rfl, rfl⟩ rfl ?_
    refine d_call 1 k30_20 (by omega) (Nat.le_of_ble_eq_true rfl) rfl (Nat.le_of_ble_eq_true rfl) (Nat.le_of_ble_eq_true rfl) (recv_ok rfl (by first | assumption | exact Nat.le_of_ble_eq_true rfl | omega)) rfl (c_nx (by omega) h) rfl ?_
    rintro F1 G1 ⟨h1a, n1a⟩
    refine d_run 3 rfl ?_
    have hB1 := hB.d5 (D5.rf.nx n1a)
    refine d_call 3 k30_26 (by omega) (Nat.le_of_ble_eq_true rfl) rfl (Nat.le_of_ble_eq_true rfl) (Nat.le_of_ble_eq_true rfl) (recv_ok rfl (by first | assumption | exact Nat.le_of_ble_eq_true rfl | omega)) rfl (c_numS hl (by omega) h1a hB1.1 w1 hB1.2.2.2.2.2.2.2.1 w3) rfl ?_
    rintro F2 G2 q2
    refine d_run 3 rfl ?_
    refine d_ic_ne k30_34 (fun h34 => ?_) (fun h34 => ?_)
    · obtain ⟨a, ea⟩ : ∃ a, numH t (tN t p) (fdS B (tW t (tN t p))) = .inr a := by
        cases e : numH t (tN t p) (fdS B (tW t (tN t p))) with
        | inl f => rw [e] at h34; exact absurd rfl h34
        | inr a => exact ⟨a, rfl⟩
      have ha := fdS_lt hw (numH_r ea).2
      rw [ea] at q2
      obtain ⟨rfl, rfl⟩ := q2
      rw [ea, show nmV (.inr a) = nI a from rfl]
      refine d_run 1 rfl ?_
      refine d_gR k30_40 (by first | assumption | exact Nat.le_of_ble_eq_true rfl | omega) ⟨rfl, rfl, rfl⟩ rfl ?_
      refine d_call 1 k30_43 (by omega) (Nat.le_of_ble_eq_true rfl) rfl (Nat.le_of_ble_eq_true rfl) (Nat.le_of_ble_eq_true rfl) (recv_ok rfl (by first | assumption | exact Nat.le_of_ble_eq_true rfl | omega)) rfl (c_nx (by omega) h1a) rfl ?_
      rintro F3 G3 ⟨h3a, n3a⟩
      refine d_run 3 rfl ?_
      have d3 := (D5.rf.nx n1a).nx n3a
      have hB3 := hB.d5 d3
      refine d_call 3 k30_49 (by omega) (Nat.le_of_ble_eq_true rfl) rfl (Nat.le_of_ble_eq_true rfl) (Nat.le_of_ble_eq_true rfl) (recv_ok rfl (by first | assumption | exact Nat.le_of_ble_eq_true rfl | omega)) rfl (c_numS hl (by omega) h3a hB3.1 w1 hB3.2.2.2.2.2.2.2.1 w3) rfl ?_
      rintro F4 G4 q4
      refine d_run 3 rfl ?_
      refine d_ic_ne k30_57 (fun h57 => ?_) (fun h57 => ?_)
      · obtain ⟨c, ec⟩ : ∃ c, numH t (tN t (tN t p)) (fdS B (tW t (tN t (tN t p)))) = .inr c := by
          cases e : numH t (tN t (tN t p)) (fdS B (tW t (tN t (tN t p)))) with
          | inl f => rw [e] at h57; exact absurd rfl h57
          | inr a => exact ⟨a, rfl⟩
        have hc := fdS_lt hw (numH_r ec).2
        rw [ec] at q4
        obtain ⟨rfl, rfl⟩ := q4
        rw [ec, show nmV (.inr c) = nI c from rfl]
        have hB4 := hB3
        have eP : sPair t p B true = if (decide (a = c) || bit (bR B (prR2 true) a) c) = true then .inl (3 + 16 * tN t (tN t p)) else .inr (tN t (tN t (tN t p)), addP2 B true a c) := by
          simp only [sPair]
          rw [show fdX B true (tW t (tN t p)) = fdS B (tW t (tN t p)) from rfl, ea]
          simp only [bnd]
          rw [show fdX B true (tW t (tN t (tN t p))) = fdS B (tW t (tN t (tN t p))) from rfl, ec]
        rw [eP]
        refine d_run 2 rfl ?_
        refine d_ic_eq k30_66 (fun h66 => ?_) (fun h66 => ?_)
        · have e66 : a = c := nI_inj h66 (by omega) (by omega)
          have eC : (decide (a = c) || bit (bR B (prR2 true) a) c) = true := by rw [decide_eq_true e66]; rfl
          rw [if_pos eC]
          refine d_run 1 rfl ?_
          refine d_gR k30_82 (by first | assumption | exact Nat.le_of_ble_eq_true rfl | omega) ⟨rfl, rfl, rfl⟩ rfl ?_
          refine d_run 1 rfl ?_
          refine d_callT 2 k30_86 (by omega) (Nat.le_of_ble_eq_true rfl) rfl (Nat.le_of_ble_eq_true rfl) (Nat.le_of_ble_eq_true rfl) (recv_ok rfl (by first | assumption | exact Nat.le_of_ble_eq_true rfl | omega)) rfl (c_refuse (c := 3) h3a) rfl ?_
          refine d_ib k30_89 (by rfl) ?_
          exact ⟨by rw [uF_r, pk_us], D5.fr (d3.ft (CFt.of (f := 3 + 16 * tN t (tN t p)) CNx.rf))⟩
        · have e66 : ¬ a = c := fun e => h66 (by rw [e])
          refine d_run 2 rfl ?_
          refine d_ia (N := 5) (j := a) k30_72 (by decide) (by first | assumption | exact lx2 _ | exact Nat.lt_of_lt_of_le (m := 2) hl (Nat.le_of_ble_eq_true rfl) | omega) ⟨⟨rfl, rfl⟩, rfl, rfl⟩ (show a < 5 by omega) rfl ?_
          rw [(hB4.2.2.2.2.2.1 a ha)]
          refine d_run 4 rfl ?_
          refine d_if_eq k30_78 (fun h78 => ?_) (fun h78 => ?_)
          · rw [show (ibop 3 (ibop 7 (bR B 0 a) (nI c)) 1 = 0) = (bit (bR B 0 a) c = false) from bitz _ _] at h78
            have eC : (decide (a = c) || bit (bR B (prR2 true) a) c) = false := by rw [decide_eq_false e66, show bit (bR B (prR2 true) a) c = false from h78]; rfl
            rw [if_neg (by rw [eC]; decide)]
            refine d_run 3 rfl ?_
            refine d_ia (N := 5) (j := a) k30_94 (by decide) (by first | assumption | exact lx2 _ | exact Nat.lt_of_lt_of_le (m := 2) hl (Nat.le_of_ble_eq_true rfl) | omega) ⟨⟨rfl, rfl⟩, rfl, rfl⟩ (show a < 5 by omega) rfl ?_
            refine d_run 4 rfl ?_
            refine d_is (N := 5) (j := a) k30_100 (by first | assumption | exact lx2 _ | exact Nat.lt_of_lt_of_le (m := 2) hl (Nat.le_of_ble_eq_true rfl) | omega) ⟨rfl, rfl⟩ (show a < 5 by omega) rfl ?_
            refine d_run 3 rfl ?_
            refine d_ia (N := 5) (j := c) k30_105 (by decide) (by first | assumption | exact lx2 _ | exact Nat.lt_of_lt_of_le (m := 2) hl (Nat.le_of_ble_eq_true rfl) | omega) ⟨⟨rfl, rfl⟩, rfl, rfl⟩ (show c < 5 by omega) rfl ?_
            rw [uF_r, pk_un (show c ≠ a from fun e => e66 e.symm)]
            refine d_run 4 rfl ?_
            refine d_is (N := 5) (j := c) k30_111 (by first | assumption | exact lx2 _ | exact Nat.lt_of_lt_of_le (m := 2) hl (Nat.le_of_ble_eq_true rfl) | omega) ⟨rfl, rfl⟩ (show c < 5 by omega) rfl ?_
            refine d_run 1 rfl ?_
            refine d_gR k30_113 (by first | assumption | exact Nat.le_of_ble_eq_true rfl | omega) ⟨rfl, rfl, rfl⟩ rfl ?_
            have h5 : CRd (uF (uF F4 11 l a (orB (F4 11 l a) c)) 11 l c (orB (F4 11 l c) a)) G4 t (tN t (tN t p)) := (h3a.u (by decide) (by decide)).u (by decide) (by decide)
            have d5' : D5 (uF (uF F 11 l a (orB (F 11 l a) c)) 11 l c (orB (F 11 l c) a)) G (uF (uF F4 11 l a (orB (F4 11 l a) c)) 11 l c (orB (F4 11 l c) a)) G4 := by
              have e1 := d3.at (k := 11) (m := l) (by decide)
              rw [show F4 11 l a = F 11 l a from congrFun e1 a, show F4 11 l c = F 11 l c from congrFun e1 c]
              exact d3.u.u
            refine d_call 1 k30_116 (by omega) (Nat.le_of_ble_eq_true rfl) rfl (Nat.le_of_ble_eq_true rfl) (Nat.le_of_ble_eq_true rfl) (recv_ok rfl (by first | assumption | exact Nat.le_of_ble_eq_true rfl | omega)) rfl (c_nx (by omega) h5) rfl ?_
            rintro F6 G6 ⟨h6a, n6a⟩
            refine d_run 1 rfl ?_
            refine d_ib k30_120 (by rfl) ?_
            exact ⟨h6a, (hB.pairS ha hc e66).d5 (d5'.nx n6a), (((CFr.rf (l := l) (F := F) (G := G)).u (by decide)).u (by decide)).tr (D5.fr (d5'.nx n6a))⟩
          · rw [show (ibop 3 (ibop 7 (bR B 0 a) (nI c)) 1 = 0) = (bit (bR B 0 a) c = false) from bitz _ _, Bool.not_eq_false] at h78
            have eC : (decide (a = c) || bit (bR B (prR2 true) a) c) = true := by rw [show bit (bR B (prR2 true) a) c = true from h78, Bool.or_true]
            rw [if_pos eC]
            refine d_run 1 rfl ?_
            refine d_gR k30_82 (by first | assumption | exact Nat.le_of_ble_eq_true rfl | omega) ⟨rfl, rfl, rfl⟩ rfl ?_
            refine d_run 1 rfl ?_
            refine d_callT 2 k30_86 (by omega) (Nat.le_of_ble_eq_true rfl) rfl (Nat.le_of_ble_eq_true rfl) (Nat.le_of_ble_eq_true rfl) (recv_ok rfl (by first | assumption | exact Nat.le_of_ble_eq_true rfl | omega)) rfl (c_refuse (c := 3) h3a) rfl ?_
            refine d_ib k30_89 (by rfl) ?_
            exact ⟨by rw [uF_r, pk_us], D5.fr (d3.ft (CFt.of (f := 3 + 16 * tN t (tN t p)) CNx.rf))⟩
      · obtain ⟨f, ef⟩ : ∃ f, numH t (tN t (tN t p)) (fdS B (tW t (tN t (tN t p)))) = .inl f := by
          cases e : numH t (tN t (tN t p)) (fdS B (tW t (tN t (tN t p)))) with
          | inl f => exact ⟨f, rfl⟩
          | inr i =>
            rw [e] at h57
            have := fdS_lt hw (numH_r e).2
            exact absurd (show nI i < 0 by rw [show nI i = -1 from h57]; decide) (nn_nI (by omega))
        rw [ef] at q4
        rw [show sPair t p B true = .inl f by simp only [sPair]; rw [show fdX B true (tW t (tN t p)) = fdS B (tW t (tN t p)) from rfl, ea]; simp only [bnd]; rw [show fdX B true (tW t (tN t (tN t p))) = fdS B (tW t (tN t (tN t p))) from rfl, ef]]
        refine d_run 1 rfl ?_
        refine d_ib k30_61 (by rfl) ?_
        exact ⟨q4.1, D5.fr (d3.ft q4)⟩
    · obtain ⟨f, ef⟩ : ∃ f, numH t (tN t p) (fdS B (tW t (tN t p))) = .inl f := by
        cases e : numH t (tN t p) (fdS B (tW t (tN t p))) with
        | inl f => exact ⟨f, rfl⟩
        | inr i =>
          rw [e] at h34
          have := fdS_lt hw (numH_r e).2
          exact absurd (show nI i < 0 by rw [show nI i = -1 from h34]; decide) (nn_nI (by omega))
      rw [ef] at q2
      rw [show sPair t p B true = .inl f by simp only [sPair]; rw [show fdX B true (tW t (tN t p)) = fdS B (tW t (tN t p)) from rfl, ef]; rfl]
      refine d_run 1 rfl ?_
      refine d_ib k30_38 (by rfl) ?_
      exact ⟨q2.1, D5.fr ((D5.rf.nx n1a).ft q2)⟩
theorem c_pairP (hl : l < 2) (hd : 20 ≤ d) (h : CRd F G t p) (hB : CLb F G l B) (hw : wfB B) : Td E d 30 0 [some (vr 7 0), some (vr 9 l), some (vi 0), none, none, none] [] x F G b (some (vi (b2i (okB (sPair t p B false))))) (COb t l F G (sPair t p B false)) := by
  obtain ⟨w1, w2, w3, w4, _⟩ := id hw
  refine d_run 1 rfl ?_
  refine d_if_eq k30_1 (fun h1 => ?_) (fun h1 => ?_)
  · refine d_run 1 rfl ?_
    refine d_gR k30_12 (by first | assumption | exact lx2 _ | exact Nat.lt_of_lt_of_le (m := 2) hl (Nat.le_of_ble_eq_true rfl) | omega) ⟨rfl, rfl, rfl⟩ rfl ?_
    refine d_run 2 rfl ?_
    refine d_gR k30_17 (by first | assumption | exact Nat.le_of_ble_eq_true rfl | omega) ⟨rfl, rfl, rfl⟩ rfl ?_
    refine d_call 1 k30_20 (by omega) (Nat.le_of_ble_eq_true rfl) rfl (Nat.le_of_ble_eq_true rfl) (Nat.le_of_ble_eq_true rfl) (recv_ok rfl (by first | assumption | exact Nat.le_of_ble_eq_true rfl | omega)) rfl (c_nx (by omega) h) rfl ?_
    rintro F1 G1 ⟨h1a, n1a⟩
    refine d_run 3 rfl ?_
    have hB1 := hB.d5 (D5.rf.nx n1a)
    refine d_call 3 k30_26 (by omega) (Nat.le_of_ble_eq_true rfl) rfl (Nat.le_of_ble_eq_true rfl) (Nat.le_of_ble_eq_true rfl) (recv_ok rfl (by first | assumption | exact Nat.le_of_ble_eq_true rfl | omega)) rfl (c_numP hl (by omega) h1a hB1.2.1 w2 hB1.2.2.2.2.2.2.2.2.1 w4) rfl ?_
    rintro F2 G2 q2
    refine d_run 3 rfl ?_
    refine d_ic_ne k30_34 (fun h34 => ?_) (fun h34 => ?_)
    · obtain ⟨a, ea⟩ : ∃ a, numH t (tN t p) (fdP B (tW t (tN t p))) = .inr a := by
        cases e : numH t (tN t p) (fdP B (tW t (tN t p))) with
        | inl f => rw [e] at h34; exact absurd rfl h34
        | inr a => exact ⟨a, rfl⟩
      have ha := fdP_lt hw (numH_r ea).2
      rw [ea] at q2
      obtain ⟨rfl, rfl⟩ := q2
      rw [ea, show nmV (.inr a) = nI a from rfl]
      refine d_run 1 rfl ?_
      refine d_gR k30_40 (by first | assumption | exact Nat.le_of_ble_eq_true rfl | omega) ⟨rfl, rfl, rfl⟩ rfl ?_
      refine d_call 1 k30_43 (by omega) (Nat.le_of_ble_eq_true rfl) rfl (Nat.le_of_ble_eq_true rfl) (Nat.le_of_ble_eq_true rfl) (recv_ok rfl (by first | assumption | exact Nat.le_of_ble_eq_true rfl | omega)) rfl (c_nx (by omega) h1a) rfl ?_
      rintro F3 G3 ⟨h3a, n3a⟩
      refine d_run 3 rfl ?_
      have d3 := (D5.rf.nx n1a).nx n3a
      have hB3 := hB.d5 d3
      refine d_call 3 k30_49 (by omega) (Nat.le_of_ble_eq_true rfl) rfl (Nat.le_of_ble_eq_true rfl) (Nat.le_of_ble_eq_true rfl) (recv_ok rfl (by first | assumption | exact Nat.le_of_ble_eq_true rfl | omega)) rfl (c_numP hl (by omega) h3a hB3.2.1 w2 hB3.2.2.2.2.2.2.2.2.1 w4) rfl ?_
      rintro F4 G4 q4
      refine d_run 3 rfl ?_
      refine d_ic_ne k30_57 (fun h57 => ?_) (fun h57 => ?_)
      · obtain ⟨c, ec⟩ : ∃ c, numH t (tN t (tN t p)) (fdP B (tW t (tN t (tN t p)))) = .inr c := by
          cases e : numH t (tN t (tN t p)) (fdP B (tW t (tN t (tN t p)))) with
          | inl f => rw [e] at h57; exact absurd rfl h57
          | inr a => exact ⟨a, rfl⟩
        have hc := fdP_lt hw (numH_r ec).2
        rw [ec] at q4
        obtain ⟨rfl, rfl⟩ := q4
        rw [ec, show nmV (.inr c) = nI c from rfl]
        have hB4 := hB3
        have eP : sPair t p B false = if (decide (a = c) || bit (bR B (prR2 false) a) c) = true then .inl (3 + 16 * tN t (tN t p)) else .inr (tN t (tN t (tN t p)), addP2 B false a c) := by
          simp only [sPair]
          rw [show fdX B false (tW t (tN t p)) = fdP B (tW t (tN t p)) from rfl, ea]
          simp only [bnd]
          rw [show fdX B false (tW t (tN t (tN t p))) = fdP B (tW t (tN t (tN t p))) from rfl, ec]
        rw [eP]
        refine d_run 2 rfl ?_
        refine d_ic_eq k30_66 (fun h66 => ?_) (fun h66 => ?_)
        · have e66 : a = c := nI_inj h66 (by omega) (by omega)
          have eC : (decide (a = c) || bit (bR B (prR2 false) a) c) = true := by rw [decide_eq_true e66]; rfl
          rw [if_pos eC]
          refine d_run 1 rfl ?_
          refine d_gR k30_82 (by first | assumption | exact Nat.le_of_ble_eq_true rfl | omega) ⟨rfl, rfl, rfl⟩ rfl ?_
          refine d_run 1 rfl ?_
          refine d_callT 2 k30_86 (by omega) (Nat.le_of_ble_eq_true rfl) rfl (Nat.le_of_ble_eq_true rfl) (Nat.le_of_ble_eq_true rfl) (recv_ok rfl (by first | assumption | exact Nat.le_of_ble_eq_true rfl | omega)) rfl (c_refuse (c := 3) h3a) rfl ?_
          refine d_ib k30_89 (by rfl) ?_
          exact ⟨by rw [uF_r, pk_us], D5.fr (d3.ft (CFt.of (f := 3 + 16 * tN t (tN t p)) CNx.rf))⟩
        · have e66 : ¬ a = c := fun e => h66 (by rw [e])
          refine d_run 2 rfl ?_
          refine d_ia (N := 6) (j := a) k30_72 (by decide) (by first | assumption | exact lx2 _ | exact Nat.lt_of_lt_of_le (m := 2) hl (Nat.le_of_ble_eq_true rfl) | omega) ⟨⟨rfl, rfl⟩, rfl, rfl⟩ (show a < 6 by omega) rfl ?_
          rw [(hB4.2.2.2.2.2.2.1 a ha).2.2.2]
          refine d_run 4 rfl ?_
          refine d_if_eq k30_78 (fun h78 => ?_) (fun h78 => ?_)
          · rw [show (ibop 3 (ibop 7 (bR B 4 a) (nI c)) 1 = 0) = (bit (bR B 4 a) c = false) from bitz _ _] at h78
            have eC : (decide (a = c) || bit (bR B (prR2 false) a) c) = false := by rw [decide_eq_false e66, show bit (bR B (prR2 false) a) c = false from h78]; rfl
            rw [if_neg (by rw [eC]; decide)]
            refine d_run 3 rfl ?_
            refine d_ia (N := 6) (j := a) k30_94 (by decide) (by first | assumption | exact lx2 _ | exact Nat.lt_of_lt_of_le (m := 2) hl (Nat.le_of_ble_eq_true rfl) | omega) ⟨⟨rfl, rfl⟩, rfl, rfl⟩ (show a < 6 by omega) rfl ?_
            refine d_run 4 rfl ?_
            refine d_is (N := 6) (j := a) k30_100 (by first | assumption | exact lx2 _ | exact Nat.lt_of_lt_of_le (m := 2) hl (Nat.le_of_ble_eq_true rfl) | omega) ⟨rfl, rfl⟩ (show a < 6 by omega) rfl ?_
            refine d_run 3 rfl ?_
            refine d_ia (N := 6) (j := c) k30_105 (by decide) (by first | assumption | exact lx2 _ | exact Nat.lt_of_lt_of_le (m := 2) hl (Nat.le_of_ble_eq_true rfl) | omega) ⟨⟨rfl, rfl⟩, rfl, rfl⟩ (show c < 6 by omega) rfl ?_
            rw [uF_r, pk_un (show c ≠ a from fun e => e66 e.symm)]
            refine d_run 4 rfl ?_
            refine d_is (N := 6) (j := c) k30_111 (by first | assumption | exact lx2 _ | exact Nat.lt_of_lt_of_le (m := 2) hl (Nat.le_of_ble_eq_true rfl) | omega) ⟨rfl, rfl⟩ (show c < 6 by omega) rfl ?_
            refine d_run 1 rfl ?_
            refine d_gR k30_113 (by first | assumption | exact Nat.le_of_ble_eq_true rfl | omega) ⟨rfl, rfl, rfl⟩ rfl ?_
            have h5 : CRd (uF (uF F4 16 l a (orB (F4 16 l a) c)) 16 l c (orB (F4 16 l c) a)) G4 t (tN t (tN t p)) := (h3a.u (by decide) (by decide)).u (by decide) (by decide)
            have d5' : D5 (uF (uF F 16 l a (orB (F 16 l a) c)) 16 l c (orB (F 16 l c) a)) G (uF (uF F4 16 l a (orB (F4 16 l a) c)) 16 l c (orB (F4 16 l c) a)) G4 := by
              have e1 := d3.at (k := 16) (m := l) (by decide)
              rw [show F4 16 l a = F 16 l a from congrFun e1 a, show F4 16 l c = F 16 l c from congrFun e1 c]
              exact d3.u.u
            refine d_call 1 k30_116 (by omega) (Nat.le_of_ble_eq_true rfl) rfl (Nat.le_of_ble_eq_true rfl) (Nat.le_of_ble_eq_true rfl) (recv_ok rfl (by first | assumption | exact Nat.le_of_ble_eq_true rfl | omega)) rfl (c_nx (by omega) h5) rfl ?_
            rintro F6 G6 ⟨h6a, n6a⟩
            refine d_run 1 rfl ?_
            refine d_ib k30_120 (by rfl) ?_
            exact ⟨h6a, (hB.pairP ha hc e66).d5 (d5'.nx n6a), (((CFr.rf (l := l) (F := F) (G := G)).u (by decide)).u (by decide)).tr (D5.fr (d5'.nx n6a))⟩
          · rw [show (ibop 3 (ibop 7 (bR B 4 a) (nI c)) 1 = 0) = (bit (bR B 4 a) c = false) from bitz _ _, Bool.not_eq_false] at h78
            have eC : (decide (a = c) || bit (bR B (prR2 false) a) c) = true := by rw [show bit (bR B (prR2 false) a) c = true from h78, Bool.or_true]
            rw [if_pos eC]
            refine d_run 1 rfl ?_
            refine d_gR k30_82 (by first | assumption | exact Nat.le_of_ble_eq_true rfl | omega) ⟨rfl, rfl, rfl⟩ rfl ?_
            refine d_run 1 rfl ?_
            refine d_callT 2 k30_86 (by omega) (Nat.le_of_ble_eq_true rfl) rfl (Nat.le_of_ble_eq_true rfl) (Nat.le_of_ble_eq_true rfl) (recv_ok rfl (by first | assumption | exact Nat.le_of_ble_eq_true rfl | omega)) rfl (c_refuse (c := 3) h3a) rfl ?_
            refine d_ib k30_89 (by rfl) ?_
            exact ⟨by rw [uF_r, pk_us], D5.fr (d3.ft (CFt.of (f := 3 + 16 * tN t (tN t p)) CNx.rf))⟩
      · obtain ⟨f, ef⟩ : ∃ f, numH t (tN t (tN t p)) (fdP B (tW t (tN t (tN t p)))) = .inl f := by
          cases e : numH t (tN t (tN t p)) (fdP B (tW t (tN t (tN t p)))) with
          | inl f => exact ⟨f, rfl⟩
          | inr i =>
            rw [e] at h57
            have := fdP_lt hw (numH_r e).2
            exact absurd (show nI i < 0 by rw [show nI i = -1 from h57]; decide) (nn_nI (by omega))
        rw [ef] at q4
        rw [show sPair t p B false = .inl f by simp only [sPair]; rw [show fdX B false (tW t (tN t p)) = fdP B (tW t (tN t p)) from rfl, ea]; simp only [bnd]; rw [show fdX B false (tW t (tN t (tN t p))) = fdP B (tW t (tN t (tN t p))) from rfl, ef]]
        refine d_run 1 rfl ?_
        refine d_ib k30_61 (by rfl) ?_
        exact ⟨q4.1, D5.fr (d3.ft q4)⟩
    · obtain ⟨f, ef⟩ : ∃ f, numH t (tN t p) (fdP B (tW t (tN t p))) = .inl f := by
        cases e : numH t (tN t p) (fdP B (tW t (tN t p))) with
        | inl f => exact ⟨f, rfl⟩
        | inr i =>
          rw [e] at h34
          have := fdP_lt hw (numH_r e).2
          exact absurd (show nI i < 0 by rw [show nI i = -1 from h34]; decide) (nn_nI (by omega))
      rw [ef] at q2
      rw [show sPair t p B false = .inl f by simp only [sPair]; rw [show fdX B false (tW t (tN t p)) = fdP B (tW t (tN t p)) from rfl, ef]; rfl]
      refine d_run 1 rfl ?_
      refine d_ib k30_38 (by rfl) ?_
      exact ⟨q2.1, D5.fr ((D5.rf.nx n1a).ft q2)⟩
  · exact absurd rfl h1
end T3
