/-! WHAT THE REFERENCE KEEPS OF A LAND BEING READ -/
theorem uF_e {F : FT} {k n i : Nat} {v : Int32} : uF F k n i v k n i = v := by rw [uF_r, pk_us]
theorem uF_q {F : FT} {k n i k2 i2 : Nat} {v : Int32} (h : ¬ (k2 = k ∧ i2 = i)) : uF F k n i v k2 n i2 = F k2 n i2 := by
  simp only [uF]
  rw [if_neg (by omega)]
theorem uG_q {G : GT} {k n i : Nat} {v : Int64} : uG G k n i v k n i = v := by simp [uG]
theorem uG_m {G : GT} {k n i k2 i2 : Nat} {v : Int64} (h : ¬ (k2 = k ∧ i2 = i)) : uG G k n i v k2 n i2 = G k2 n i2 := by
  simp only [uG]
  rw [if_neg (by omega)]
def dLd (k : Nat) : Bool := decide (k = 40) || decide (k = 42) || (decide (45 ≤ k) && decide (k ≤ 54))
def kpF (k i : Nat) : Prop := (k = 40 → i ≠ 4 ∧ i ≠ 5 ∧ i ≠ 6 ∧ i ≠ 8 ∧ i ≠ 9 ∧ i ≠ 21 ∧ i ≠ 22 ∧ i ≠ 35 ∧ i ≠ 37) ∧ (k = 42 → i < 4) ∧ (k = 45 → i < 5) ∧ (46 ≤ k → k ≤ 49 → i < 6) ∧ (k = 50 ∨ k = 51 → i = 0) ∧ (k = 52 → i < 1000) ∧ k ≠ 53 ∧ k ≠ 54
def kpG (k i : Nat) : Prop := (k = 40 → i ≠ 7 ∧ i ≠ 36) ∧ (k = 43 → i < 5) ∧ (k = 44 → i < 6)
/-- what reading a land may change -/
def MFr (F : FT) (G : GT) (F2 : FT) (G2 : GT) : Prop := FrK dLd F F2 ∧ (∀ k, k ≠ 40 → k ≠ 43 → k ≠ 44 → G2 k = G k) ∧ (∀ k i, kpF k i → F2 k 0 i = F k 0 i) ∧ ∀ k i, kpG k i → G2 k 0 i = G k 0 i
theorem MFr.rf {F : FT} {G : GT} : MFr F G F G := ⟨FrK.rf, fun _ _ _ _ => rfl, fun _ _ _ => rfl, fun _ _ _ => rfl⟩
theorem MFr.tr {F F1 F2 : FT} {G G1 G2 : GT} (h : MFr F G F1 G1) (h2 : MFr F1 G1 F2 G2) : MFr F G F2 G2 := ⟨h.1.tr h2.1, fun k a b c => (h2.2.1 k a b c).trans (h.2.1 k a b c), fun k i a => (h2.2.2.1 k i a).trans (h.2.2.1 k i a), fun k i a => (h2.2.2.2 k i a).trans (h.2.2.2 k i a)⟩
theorem MFr.u {F F1 : FT} {G G1 : GT} {k i : Nat} {v : Int32} (h : MFr F G F1 G1) (hk : dLd k = true) (hi : ¬ kpF k i) : MFr F G (uF F1 k 0 i v) G1 := h.tr ⟨FrK.rf.u hk, fun _ _ _ _ => rfl, fun k2 i2 a => uF_q (fun e => hi (by rw [← e.1, ← e.2]; exact a)), fun _ _ _ => rfl⟩
theorem MFr.g {F F1 : FT} {G G1 : GT} {k i : Nat} {v : Int64} (h : MFr F G F1 G1) (hk : k = 40 ∨ k = 43 ∨ k = 44) (hi : ¬ kpG k i) : MFr F G F1 (uG G1 k 0 i v) := h.tr ⟨FrK.rf, fun k2 a b c => uG_k (by omega), fun _ _ _ => rfl, fun k2 i2 a => uG_m (fun e => hi (by rw [← e.1, ← e.2]; exact a))⟩
theorem MQf.fr {F F2 : FT} {G G2 : GT} (h : MQf F G F2 G2) : MFr F G F2 G2 := by
  refine ⟨h.2.1.mo (fun k e => ?_), fun k a _ _ => h.2.2.1 k a, fun k i a => ?_, fun k i a => ?_⟩
  · simp only [dLd, Bool.or_eq_false_iff] at e
    exact e.1.1
  · by_cases e : k = 40
    · subst e
      exact h.1 i (by have := a.1 rfl; omega)
    · rw [h.2.1 k (by simp [d40, e])]
  · by_cases e : k = 40
    · subst e
      exact h.2.2.2 i (a.1 rfl).1 (a.1 rfl).2
    · rw [h.2.2.1 k e]
def flI (f : Bool × Bool) : Int32 := (if f.1 then 4 else 0) ||| (if f.2 then 8 else 0)
/-- the codes of a land being read -/
def MLc (F : FT) (fc : List Int32) : Prop := F 40 0 21 = nI (1000 + fc.length) ∧ F 50 0 1 = 1000 ∧ F 51 0 1 = nI (1000 + fc.length) ∧ ∀ i (hi : i < fc.length), F 52 0 (1000 + i) = fc[i]
def MLh (F : FT) (G : GT) (B : LB) : Prop := F 42 0 4 = nI (bS B) ∧ F 42 0 5 = nI (bP B) ∧ F 42 0 6 = bR B 5 0 ∧ F 42 0 7 = bR B 5 1 ∧ (∀ i, i < bS B → F 45 0 (5 + i) = bR B 0 i) ∧ (∀ i, i < bP B → F 46 0 (6 + i) = bR B 1 i) ∧ (∀ i, i < bP B → F 47 0 (6 + i) = bR B 2 i) ∧ (∀ i, i < bP B → F 48 0 (6 + i) = bR B 3 i) ∧ (∀ i, i < bP B → F 49 0 (6 + i) = bR B 4 i) ∧ (∀ i, i < bS B → G 43 0 (5 + i) = w27 ((bN B).1 i)) ∧ (∀ i, i < bP B → G 44 0 (6 + i) = w27 ((bN B).2 i)) ∧ F 40 0 22 = flI (bF B)
def MLb (F : FT) (G : GT) (B : LB) : Prop := MLh F G B ∧ MLc F (bD B)
theorem MLc.fr {F F2 : FT} {fc : List Int32} (h : MLc F fc) (h1 : F2 40 0 21 = F 40 0 21) (h2 : ∀ k, 50 ≤ k → k ≤ 52 → F2 k 0 = F k 0) : MLc F2 fc := by
  unfold MLc
  rw [h1, h2 50 (by decide) (by decide), h2 51 (by decide) (by decide), h2 52 (by decide) (by decide)]
  exact h
theorem MLh.fr {F F2 : FT} {G G2 : GT} {B : LB} (h : MLh F G B) (h1 : F2 40 0 22 = F 40 0 22) (h2 : ∀ k, 42 ≤ k → k ≤ 49 → F2 k 0 = F k 0) (h3 : ∀ k, 43 ≤ k → k ≤ 44 → G2 k 0 = G k 0) : MLh F2 G2 B := by
  unfold MLh
  rw [h1, h2 42 (by decide) (by decide), h2 45 (by decide) (by decide), h2 46 (by decide) (by decide), h2 47 (by decide) (by decide), h2 48 (by decide) (by decide), h2 49 (by decide) (by decide), h3 43 (by decide) (by decide), h3 44 (by decide) (by decide)]
  exact h
theorem d40_f {k : Nat} (h : k ≠ 40) : d40 k = false := by simp [d40, h]
theorem MLb.q {F F2 : FT} {G G2 : GT} {B : LB} (h : MLb F G B) (q : MQf F G F2 G2) : MLb F2 G2 B := ⟨h.1.fr (q.1 22 (by decide)) (fun k a b => by rw [q.2.1 k (d40_f (by omega))]) (fun k a b => by rw [q.2.2.1 k (by omega)]), h.2.fr (q.1 21 (by decide)) (fun k a b => by rw [q.2.1 k (d40_f (by omega))])⟩
/-- a statement read: the fault, or the place and the land -/
def MSo (t : TP) (F : FT) (G : GT) (r : Nat ⊕ (Nat × LB)) (F2 : FT) (G2 : GT) : Prop := MFr F G F2 G2 ∧ match r with
  | .inl f => F2 40 0 9 = nI f
  | .inr q => MRd F2 G2 t q.1 ∧ MLb F2 G2 q.2
def oS (t : TP) (r : Nat ⊕ (Nat × LB)) : Nat ⊕ (Nat × LB) := bnd r (fun q => bnd (pSign t q.1 59) (fun p2 => .inr (p2, q.2)))
theorem oS_ok {t : TP} {q : Nat} {B : LB} : okB (oS t (.inr (q, B))) = okB (pSign t q 59) := by
  show okB (bnd (pSign t q 59) _) = _
  cases pSign t q 59 <;> rfl
theorem MSo.f {t : TP} {F F1 : FT} {G G1 : GT} {f : Nat} (fr : MFr F G F1 G1) : MSo t F G (.inl f) (uF F1 40 0 9 (nI f)) G1 := ⟨fr.u rfl (by unfold kpF; omega), uF_e⟩
theorem MSo.cl {t : TP} {F F1 F2 : FT} {G G1 G2 : GT} {q : Nat} {B : LB} (fr : MFr F G F1 G1) (hB : MLb F1 G1 B) (ho : MOut t F1 G1 (pSign t q 59) F2 G2) : MSo t F G (oS t (.inr (q, B))) F2 G2 := by
  have h1 := fr.tr ho.q.fr
  have h2 := hB.q ho.q
  obtain ⟨_, ho⟩ := ho
  show MSo t F G (bnd (pSign t q 59) _) F2 G2
  cases e : pSign t q 59 with
  | inl f => rw [e] at ho; exact ⟨h1, ho⟩
  | inr p2 => rw [e] at ho; exact ⟨h1, ho.1, h2⟩
/-- two names asked for -/
def tw (t : TP) (p S : Nat) (nm : Nat → List Nat) : Nat ⊕ (Nat × Nat) := bnd (numH t p (findN nm (tW t p) 0 S)) (fun a => bnd (numH t (tN t p) (findN nm (tW t (tN t p)) 0 S)) (fun c => if a = c then .inl (3 + 16 * tN t p) else .inr (a, c)))
def MTw (t : TP) (p : Nat) (F : FT) (G : GT) (r : Nat ⊕ (Nat × Nat)) (F2 : FT) (G2 : GT) : Prop := MQf F G F2 G2 ∧ match r with
  | .inl f => F2 40 0 9 = nI f
  | .inr q => MRd F2 G2 t (tN t p) ∧ F2 40 0 37 = nI q.1 ∧ F2 40 0 35 = nI q.2
def MNw (t : TP) (F : FT) (G : GT) (r : Nat ⊕ Nat) (F2 : FT) (G2 : GT) : Prop := MQf F G F2 G2 ∧ match r with
  | .inl f => F2 40 0 9 = nI f
  | .inr p1 => MRd F2 G2 t (tN t p1) ∧ G2 40 0 36 = w27 (tW t p1)
theorem numH_lt {t : TP} {p S a : Nat} {nm : Nat → List Nat} {w : List Nat} (h : numH t p (findN nm w 0 S) = .inr a) : a < S := by
  unfold numH at h
  split at h
  · cases e : findN nm w 0 S with
    | none => rw [e] at h; cases h
    | some j =>
      rw [e] at h
      cases h
      have := findN_lt _ _ e
      omega
  · cases h
theorem MQf.g36 {F : FT} {G : GT} {v : Int64} : MQf F G F (uG G 40 0 36 v) := ⟨fun _ _ => rfl, FrK.rf, fun k hk => uG_k hk, fun j _ b => uG_m (by omega)⟩
section TB
variable {E : EV} {d x p n : Nat} {F : FT} {G : GT} {b : Bool} {t : TP} {B : LB} {u v w : Int32}
theorem m_needNew (hd : 5 ≤ d) (hB : MLb F G B) (hw : wfB B) (h : MRd F G t p) : Td E d 152 0 [some (vr 40 0)] [] x F G b (some (vi (b2i (okB (newN t p B))))) (MNw t F G (newN t p B)) := by
  obtain ⟨⟨a1, a2, _, _, _, _, _, _, _, a10, a11, _⟩, _⟩ := hB
  obtain ⟨w1, w2, w3, w4, _⟩ := hw
  have fs : (0 ≤ fdV (fdS B (tW t p))) = (fdS B (tW t p) ≠ none) := fdV_ge (fun i e => by have := (findN_lt _ _ e).2; omega)
  have fp : (0 ≤ fdV (fdP B (tW t p))) = (fdP B (tW t p) ≠ none) := fdV_ge (fun i e => by have := (findN_lt _ _ e).2; omega)
  refine d_run 1 rfl ?_
  refine d_callT 1 k152_1 (by omega) (Nat.le_of_ble_eq_true rfl) rfl (Nat.le_of_ble_eq_true rfl) (Nat.le_of_ble_eq_true rfl) (recv_ok rfl (by first | assumption | exact Nat.le_of_ble_eq_true rfl | omega)) rfl (m_isKept h) rfl ?_
  refine d_if_eq k152_4 (fun h4 => ?_) (fun h4 => ?_)
  · rw [b2i0] at h4
    have h4 : isNm t p = true := by simpa using h4
    have hK := isNm_K h4
    refine d_run 2 rfl ?_
    refine d_callT 2 k152_15 (by omega) (Nat.le_of_ble_eq_true rfl) rfl (Nat.le_of_ble_eq_true rfl) (Nat.le_of_ble_eq_true rfl) (recv_ok rfl (by first | assumption | exact Nat.le_of_ble_eq_true rfl | omega)) rfl (m_stN (r := 1) (by decide) a1 w1 a10 w3 h hK) rfl ?_
    refine d_if_ge k152_18 (fun h18 => ?_) (fun h18 => ?_)
    · rw [fs] at h18
      obtain ⟨j, ej⟩ := Option.ne_none_iff_exists'.mp h18
      rw [show newN t p B = .inl (3 + 16 * p) by simp only [newN]; rw [if_pos h4, if_pos (by rw [Bool.or_eq_true, ej]; simp)]]
      refine d_run 2 rfl ?_
      refine d_callT 2 k152_31 (by omega) (Nat.le_of_ble_eq_true rfl) rfl (Nat.le_of_ble_eq_true rfl) (Nat.le_of_ble_eq_true rfl) (recv_ok rfl (by first | assumption | exact Nat.le_of_ble_eq_true rfl | omega)) rfl (m_fails (c := 3) h) rfl ?_
      refine d_ib k152_34 (by rfl) ?_
      exact ⟨MQf.u (by omega), by show _ = _; rw [uF_r, pk_us]⟩
    · rw [fs, Decidable.not_not] at h18
      refine d_run 2 rfl ?_
      refine d_callT 2 k152_23 (by omega) (Nat.le_of_ble_eq_true rfl) rfl (Nat.le_of_ble_eq_true rfl) (Nat.le_of_ble_eq_true rfl) (recv_ok rfl (by first | assumption | exact Nat.le_of_ble_eq_true rfl | omega)) rfl (m_peN (r := 1) (by decide) a2 w2 a11 w4 h hK) rfl ?_
      refine d_if_lt k152_26 (fun h26 => ?_) (fun h26 => ?_)
      · have h26 : fdP B (tW t p) = none := by
          rw [← Int32.not_le, fp, Decidable.not_not] at h26
          exact h26
        rw [show newN t p B = .inr p by simp only [newN]; rw [if_pos h4, h18, h26]; rfl]
        refine d_run 2 rfl ?_
        refine d_gL k152_37 (by first | assumption | exact Nat.le_of_ble_eq_true rfl | omega) ⟨rfl, rfl, rfl⟩ ?_
        rw [h.2.2.2.2.1 hK]
        refine d_pL k152_40 (by first | assumption | exact Nat.le_of_ble_eq_true rfl | omega) ⟨rfl, rfl⟩ ?_
        refine d_run 1 rfl ?_
        refine d_call 1 k152_44 (by omega) (Nat.le_of_ble_eq_true rfl) rfl (Nat.le_of_ble_eq_true rfl) (Nat.le_of_ble_eq_true rfl) (recv_ok rfl (by first | assumption | exact Nat.le_of_ble_eq_true rfl | omega)) rfl (m_nx (by omega) (h.ug (by omega))) rfl ?_
        rintro F1 G1 ⟨h1, n1⟩
        refine d_run 1 rfl ?_
        refine d_ib k152_48 (by rfl) ?_
        exact ⟨MQf.g36.tr n1.q, h1, by rw [n1.2.2.2 36 (by decide), uG_q]⟩
      · have h26 := Int32.not_lt.mp h26
        rw [fp] at h26
        obtain ⟨j, ej⟩ := Option.ne_none_iff_exists'.mp h26
        rw [show newN t p B = .inl (3 + 16 * p) by simp only [newN]; rw [if_pos h4, if_pos (by rw [Bool.or_eq_true, ej]; simp)]]
        refine d_run 2 rfl ?_
        refine d_callT 2 k152_31 (by omega) (Nat.le_of_ble_eq_true rfl) rfl (Nat.le_of_ble_eq_true rfl) (Nat.le_of_ble_eq_true rfl) (recv_ok rfl (by first | assumption | exact Nat.le_of_ble_eq_true rfl | omega)) rfl (m_fails (c := 3) h) rfl ?_
        refine d_ib k152_34 (by rfl) ?_
        exact ⟨MQf.u (by omega), by show _ = _; rw [uF_r, pk_us]⟩
  · rw [b2i0] at h4
    have h4 : isNm t p = false := by simpa using h4
    rw [show newN t p B = .inl (1 + 16 * p) by simp only [newN]; rw [if_neg (by rw [h4]; decide)]]
    refine d_run 2 rfl ?_
    refine d_callT 2 k152_9 (by omega) (Nat.le_of_ble_eq_true rfl) rfl (Nat.le_of_ble_eq_true rfl) (Nat.le_of_ble_eq_true rfl) (recv_ok rfl (by first | assumption | exact Nat.le_of_ble_eq_true rfl | omega)) rfl (m_fails (c := 1) h) rfl ?_
    refine d_ib k152_12 (by rfl) ?_
    exact ⟨MQf.u (by omega), by show _ = _; rw [uF_r, pk_us]⟩
theorem m_twoS {S r : Nat} {nm : Nat → List Nat} (hd : 6 ≤ d) (hr : r ≤ 1) (hS : F 42 0 (4 * r + 0) = nI S) (hS5 : S ≤ 5) (hN : ∀ i, i < S → G 43 0 (5 * r + i) = w27 (nm i)) (hwn : ∀ i, i < S → wfWd (nm i)) (h : MRd F G t p) : Td E d 155 0 [some (vr 40 0), some (vi 1), some (vi (nI r))] [] x F G b (some (vi (b2i (okB (tw t p S nm))))) (MTw t p F G (tw t p S nm)) := by
  refine d_run 1 rfl ?_
  refine d_if_eq k155_1 (fun h1 => ?_) (fun h1 => ?_)
  · exact absurd h1 (by decide)
  · refine d_run 2 rfl ?_
    refine d_call 2 k155_6 (by omega) (Nat.le_of_ble_eq_true rfl) rfl (Nat.le_of_ble_eq_true rfl) (Nat.le_of_ble_eq_true rfl) (recv_ok rfl (by first | assumption | exact Nat.le_of_ble_eq_true rfl | omega)) rfl (m_needS (by omega) hr hS hS5 hN hwn h) rfl ?_
    rintro F1 G1 n1
    refine d_if_ne k155_9 (fun h9 => ?_) (fun h9 => ?_)
    · rw [b2i0, Bool.not_eq_false] at h9
      obtain ⟨a, ea⟩ := okB_t h9
      have z1 := n1.2.2.2.2
      rw [ea] at z1
      have hG := n1.2.2.2.1
      subst hG
      refine d_run 2 rfl ?_
      refine d_gI k155_27 (by first | assumption | exact Nat.le_of_ble_eq_true rfl | omega) ⟨rfl, rfl, Or.inl rfl⟩ ?_
      rw [show F1 40 0 35 = nI a from z1]
      refine d_pI k155_30 (by first | assumption | exact Nat.le_of_ble_eq_true rfl | omega) ⟨rfl, rfl⟩ ?_
      refine d_run 1 rfl ?_
      refine d_call 1 k155_34 (by omega) (Nat.le_of_ble_eq_true rfl) rfl (Nat.le_of_ble_eq_true rfl) (Nat.le_of_ble_eq_true rfl) (recv_ok rfl (by first | assumption | exact Nat.le_of_ble_eq_true rfl | omega)) rfl (m_nx (by omega) (n1.1.u (by omega))) rfl ?_
      rintro F2 G2 ⟨r2, n2⟩
      have k2 : ∀ k, k ≠ 40 → F2 k = F k := fun k hk => by rw [n2.2.1 k (d40_f hk), uF_k hk, n1.2.2.1 k (d40_f hk)]
      have q2 : MQf F G1 F2 G2 := (n1.q.tr (MQf.u (by omega))).tr n2.q
      have s37 : F2 40 0 37 = nI a := by rw [n2.1 37 (by decide) (by decide) (by decide) (by decide), uF_e]
      refine d_run 1 rfl ?_
      refine d_if_eq k155_38 (fun h38 => ?_) (fun h38 => ?_)
      · exact absurd h38 (by decide)
      · refine d_run 2 rfl ?_
        refine d_call 2 k155_43 (by omega) (Nat.le_of_ble_eq_true rfl) rfl (Nat.le_of_ble_eq_true rfl) (Nat.le_of_ble_eq_true rfl) (recv_ok rfl (by first | assumption | exact Nat.le_of_ble_eq_true rfl | omega)) rfl (m_needS (by omega) hr (by rw [k2 42 (by decide)]; exact hS) hS5 (by rw [n2.2.2.1 43 (by decide)]; exact hN) hwn r2) rfl ?_
        rintro F3 G3 n3
        refine d_if_ne k155_46 (fun h46 => ?_) (fun h46 => ?_)
        · rw [b2i0, Bool.not_eq_false] at h46
          obtain ⟨c, ec⟩ := okB_t h46
          have z3 := n3.2.2.2.2
          rw [ec] at z3
          have hla := numH_lt ea
          have hlc := numH_lt ec
          have t37 : F3 40 0 37 = nI a := by rw [n3.2.1 37 (by decide) (by decide)]; exact s37
          refine d_run 1 rfl ?_
          refine d_gI k155_63 (by first | assumption | exact Nat.le_of_ble_eq_true rfl | omega) ⟨rfl, rfl, Or.inl rfl⟩ ?_
          rw [show F3 40 0 35 = nI c from z3]
          refine d_run 1 rfl ?_
          refine d_gI k155_67 (by first | assumption | exact Nat.le_of_ble_eq_true rfl | omega) ⟨rfl, rfl, Or.inl rfl⟩ ?_
          rw [t37]
          refine d_ic_ne k155_70 (fun h70 => ?_) (fun h70 => ?_)
          · have e70 : ¬ a = c := fun e => h70 (by rw [e])
            have eR : tw t p S nm = .inr (a, c) := by unfold tw; rw [ea]; simp only [bnd]; rw [ec]; simp only []; rw [if_neg e70]
            rw [eR]
            refine d_run 2 rfl ?_
            refine d_ib k155_86 (by rfl) ?_
            first | exact ⟨q2.tr n3.q, n3.1, t37, z3⟩ | exact ⟨(q2.tr n3.q).tr (MQf.u (by omega)), uF_e⟩
          · have e70 : a = c := (nI_inj h70 (by omega) (by omega)).symm
            have eR : tw t p S nm = .inl (3 + 16 * tN t p) := by unfold tw; rw [ea]; simp only [bnd]; rw [ec]; simp only []; rw [if_pos e70]
            rw [eR]
            refine d_run 2 rfl ?_
            refine d_callT 2 k155_75 (by omega) (Nat.le_of_ble_eq_true rfl) rfl (Nat.le_of_ble_eq_true rfl) (Nat.le_of_ble_eq_true rfl) (recv_ok rfl (by first | assumption | exact Nat.le_of_ble_eq_true rfl | omega)) rfl (m_fails (c := 3) n3.1) rfl ?_
            refine d_if_eq k155_78 (fun h78 => ?_) (fun h78 => ?_)
            · refine d_run 1 rfl ?_
              refine d_ib k155_86 (by rfl) ?_
              first | exact ⟨q2.tr n3.q, n3.1, t37, z3⟩ | exact ⟨(q2.tr n3.q).tr (MQf.u (by omega)), uF_e⟩
            · exact absurd rfl h78
        · rw [b2i0] at h46
          obtain ⟨f, ef⟩ := okB_f h46
          have eR : tw t p S nm = .inl f := by unfold tw; rw [ea]; simp only [bnd]; rw [ef]
          rw [eR]
          have z1 := n3.2.2.2.2
          rw [ef] at z1
          refine d_run 2 rfl ?_
          refine d_ib k155_61 (by rfl) ?_
          exact ⟨q2.tr n3.q, z1⟩
    · rw [b2i0] at h9
      obtain ⟨f, ef⟩ := okB_f h9
      have eR : tw t p S nm = .inl f := by unfold tw; rw [ef]; rfl
      rw [eR]
      have z1 := n1.2.2.2.2
      rw [ef] at z1
      refine d_run 2 rfl ?_
      refine d_ib k155_24 (by rfl) ?_
      exact ⟨n1.q, z1⟩
theorem m_twoP {S r : Nat} {nm : Nat → List Nat} (hd : 6 ≤ d) (hr : r ≤ 1) (hS : F 42 0 (4 * r + 1) = nI S) (hS5 : S ≤ 6) (hN : ∀ i, i < S → G 44 0 (6 * r + i) = w27 (nm i)) (hwn : ∀ i, i < S → wfWd (nm i)) (h : MRd F G t p) : Td E d 155 0 [some (vr 40 0), some (vi 0), some (vi (nI r))] [] x F G b (some (vi (b2i (okB (tw t p S nm))))) (MTw t p F G (tw t p S nm)) := by
  refine d_run 1 rfl ?_
  refine d_if_eq k155_1 (fun h1 => ?_) (fun h1 => ?_)
  · refine d_run 2 rfl ?_
    refine d_call 2 k155_17 (by omega) (Nat.le_of_ble_eq_true rfl) rfl (Nat.le_of_ble_eq_true rfl) (Nat.le_of_ble_eq_true rfl) (recv_ok rfl (by first | assumption | exact Nat.le_of_ble_eq_true rfl | omega)) rfl (m_needP (by omega) hr hS hS5 hN hwn h) rfl ?_
    rintro F1 G1 n1
    refine d_if_ne k155_20 (fun h20 => ?_) (fun h20 => ?_)
    · rw [b2i0, Bool.not_eq_false] at h20
      obtain ⟨a, ea⟩ := okB_t h20
      have z1 := n1.2.2.2.2
      rw [ea] at z1
      have hG := n1.2.2.2.1
      subst hG
      refine d_run 2 rfl ?_
      refine d_gI k155_27 (by first | assumption | exact Nat.le_of_ble_eq_true rfl | omega) ⟨rfl, rfl, Or.inl rfl⟩ ?_
      rw [show F1 40 0 35 = nI a from z1]
      refine d_pI k155_30 (by first | assumption | exact Nat.le_of_ble_eq_true rfl | omega) ⟨rfl, rfl⟩ ?_
      refine d_run 1 rfl ?_
      refine d_call 1 k155_34 (by omega) (Nat.le_of_ble_eq_true rfl) rfl (Nat.le_of_ble_eq_true rfl) (Nat.le_of_ble_eq_true rfl) (recv_ok rfl (by first | assumption | exact Nat.le_of_ble_eq_true rfl | omega)) rfl (m_nx (by omega) (n1.1.u (by omega))) rfl ?_
      rintro F2 G2 ⟨r2, n2⟩
      have k2 : ∀ k, k ≠ 40 → F2 k = F k := fun k hk => by rw [n2.2.1 k (d40_f hk), uF_k hk, n1.2.2.1 k (d40_f hk)]
      have q2 : MQf F G1 F2 G2 := (n1.q.tr (MQf.u (by omega))).tr n2.q
      have s37 : F2 40 0 37 = nI a := by rw [n2.1 37 (by decide) (by decide) (by decide) (by decide), uF_e]
      refine d_run 1 rfl ?_
      refine d_if_eq k155_38 (fun h38 => ?_) (fun h38 => ?_)
      · refine d_run 2 rfl ?_
        refine d_call 2 k155_54 (by omega) (Nat.le_of_ble_eq_true rfl) rfl (Nat.le_of_ble_eq_true rfl) (Nat.le_of_ble_eq_true rfl) (recv_ok rfl (by first | assumption | exact Nat.le_of_ble_eq_true rfl | omega)) rfl (m_needP (by omega) hr (by rw [k2 42 (by decide)]; exact hS) hS5 (by rw [n2.2.2.1 44 (by decide)]; exact hN) hwn r2) rfl ?_
        rintro F3 G3 n3
        refine d_if_ne k155_57 (fun h57 => ?_) (fun h57 => ?_)
        · rw [b2i0, Bool.not_eq_false] at h57
          obtain ⟨c, ec⟩ := okB_t h57
          have z3 := n3.2.2.2.2
          rw [ec] at z3
          have hla := numH_lt ea
          have hlc := numH_lt ec
          have t37 : F3 40 0 37 = nI a := by rw [n3.2.1 37 (by decide) (by decide)]; exact s37
          refine d_run 1 rfl ?_
          refine d_gI k155_63 (by first | assumption | exact Nat.le_of_ble_eq_true rfl | omega) ⟨rfl, rfl, Or.inl rfl⟩ ?_
          rw [show F3 40 0 35 = nI c from z3]
          refine d_run 1 rfl ?_
          refine d_gI k155_67 (by first | assumption | exact Nat.le_of_ble_eq_true rfl | omega) ⟨rfl, rfl, Or.inl rfl⟩ ?_
          rw [t37]
          refine d_ic_ne k155_70 (fun h70 => ?_) (fun h70 => ?_)
          · have e70 : ¬ a = c := fun e => h70 (by rw [e])
            have eR : tw t p S nm = .inr (a, c) := by unfold tw; rw [ea]; simp only [bnd]; rw [ec]; simp only []; rw [if_neg e70]
            rw [eR]
            refine d_run 2 rfl ?_
            refine d_ib k155_86 (by rfl) ?_
            first | exact ⟨q2.tr n3.q, n3.1, t37, z3⟩ | exact ⟨(q2.tr n3.q).tr (MQf.u (by omega)), uF_e⟩
          · have e70 : a = c := (nI_inj h70 (by omega) (by omega)).symm
            have eR : tw t p S nm = .inl (3 + 16 * tN t p) := by unfold tw; rw [ea]; simp only [bnd]; rw [ec]; simp only []; rw [if_pos e70]
            rw [eR]
            refine d_run 2 rfl ?_
            refine d_callT 2 k155_75 (by omega) (Nat.le_of_ble_eq_true rfl) rfl (Nat.le_of_ble_eq_true rfl) (Nat.le_of_ble_eq_true rfl) (recv_ok rfl (by first | assumption | exact Nat.le_of_ble_eq_true rfl | omega)) rfl (m_fails (c := 3) n3.1) rfl ?_
            refine d_if_eq k155_78 (fun h78 => ?_) (fun h78 => ?_)
            · refine d_run 1 rfl ?_
              refine d_ib k155_86 (by rfl) ?_
              first | exact ⟨q2.tr n3.q, n3.1, t37, z3⟩ | exact ⟨(q2.tr n3.q).tr (MQf.u (by omega)), uF_e⟩
            · exact absurd rfl h78
        · rw [b2i0] at h57
          obtain ⟨f, ef⟩ := okB_f h57
          have eR : tw t p S nm = .inl f := by unfold tw; rw [ea]; simp only [bnd]; rw [ef]
          rw [eR]
          have z1 := n3.2.2.2.2
          rw [ef] at z1
          refine d_run 1 rfl ?_
          refine d_ib k155_61 (by rfl) ?_
          exact ⟨q2.tr n3.q, z1⟩
      · exact absurd rfl h38
    · rw [b2i0] at h20
      obtain ⟨f, ef⟩ := okB_f h20
      have eR : tw t p S nm = .inl f := by unfold tw; rw [ef]; rfl
      rw [eR]
      have z1 := n1.2.2.2.2
      rw [ef] at z1
      refine d_run 1 rfl ?_
      refine d_ib k155_24 (by rfl) ?_
      exact ⟨n1.q, z1⟩
  · exact absurd rfl h1
end TB
