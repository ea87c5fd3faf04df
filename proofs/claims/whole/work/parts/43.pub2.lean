/-! COUNTS; TINKERS, ENGAGED, STAND, COUNT, MARK OF THE CLASS -/
/-- how many of the first six bits -/
def nbt (x : Int32) : Int32 := isum (fun k => b2i (bit x k)) 6
def cnt (f : Nat → Bool) (P : Nat) : Int32 := isum (fun k => b2i (f k)) P
theorem bit_bset {f : Nat → Bool} {k : Nat} (hk : k < 6) : ∀ {P : Nat}, P ≤ 6 → bit (bset f P) k = (decide (k < P) && f k)
  | 0, _ => by
    rw [show bset f 0 = 0 from rfl, bit_0 k hk]
    simp
  | P + 1, hP => by
    have ih := bit_bset (f := f) hk (P := P) (by omega)
    simp only [bset]
    by_cases h : f P = true
    · rw [if_pos h, bit_or _ _ _ hk, bit_sh1 _ _ (by omega) hk, ih]
      by_cases e : k = P
      · subst e
        simp [h]
      · by_cases h2 : k < P
        · simp [h2, show k < P + 1 by omega, e]
        · simp [h2, show ¬ k < P + 1 by omega, e]
    · rw [if_neg h, ih]
      by_cases e : k = P
      · subst e
        simp only [Bool.not_eq_true] at h
        simp [h]
      · by_cases h2 : k < P
        · simp [h2, show k < P + 1 by omega]
        · simp [h2, show ¬ k < P + 1 by omega]
theorem isum_z {f : Nat → Int32} {P : Nat} : ∀ {N : Nat}, P ≤ N → (∀ i, P ≤ i → i < N → f i = 0) → isum f N = isum f P
  | 0, h, _ => by
    have : P = 0 := by omega
    subst this
    rfl
  | N + 1, h, e => by
    by_cases hN : P = N + 1
    · rw [hN]
    · simp only [isum]
      rw [e N (by omega) (by omega), Int32.add_zero]
      exact isum_z (by omega) (fun i a b => e i a (by omega))
theorem nbt_bset {f : Nat → Bool} {P : Nat} (hP : P ≤ 6) : nbt (bset f P) = cnt f P := by
  unfold nbt cnt
  rw [isum_z (P := P) hP]
  · exact isum_c (fun i hi => by rw [bit_bset (by omega) hP]; simp [hi])
  · intro i h1 h2
    rw [bit_bset h2 hP]
    simp [show ¬ i < P by omega, b2i]
theorem bset_nI {f : Nat → Bool} : ∀ {P : Nat}, P ≤ 6 → ∃ n, n < 2 ^ P ∧ bset f P = nI n
  | 0, _ => ⟨0, by decide, rfl⟩
  | P + 1, hP => by
    obtain ⟨n, hn, e⟩ := bset_nI (f := f) (P := P) (by omega)
    simp only [bset]
    split
    · rw [e]
      refine ⟨n + 2 ^ P, by rw [Nat.pow_succ]; omega, ?_⟩
      have hc : P = 0 ∨ P = 1 ∨ P = 2 ∨ P = 3 ∨ P = 4 ∨ P = 5 := by omega
      have key : (∀ n, n < 2 ^ 0 → nI n ||| (1 <<< (nI 0 &&& 31)) = nI (n + 2 ^ 0)) ∧ (∀ n, n < 2 ^ 1 → nI n ||| (1 <<< (nI 1 &&& 31)) = nI (n + 2 ^ 1)) ∧ (∀ n, n < 2 ^ 2 → nI n ||| (1 <<< (nI 2 &&& 31)) = nI (n + 2 ^ 2)) ∧ (∀ n, n < 2 ^ 3 → nI n ||| (1 <<< (nI 3 &&& 31)) = nI (n + 2 ^ 3)) ∧ (∀ n, n < 2 ^ 4 → nI n ||| (1 <<< (nI 4 &&& 31)) = nI (n + 2 ^ 4)) ∧ (∀ n, n < 2 ^ 5 → nI n ||| (1 <<< (nI 5 &&& 31)) = nI (n + 2 ^ 5)) := by decide +kernel
      rcases hc with rfl | rfl | rfl | rfl | rfl | rfl
      · exact key.1 n hn
      · exact key.2.1 n hn
      · exact key.2.2.1 n hn
      · exact key.2.2.2.1 n hn
      · exact key.2.2.2.2.1 n hn
      · exact key.2.2.2.2.2 n hn
    · exact ⟨n, by rw [Nat.pow_succ]; omega, e⟩
theorem pow6 {P : Nat} (hP : P ≤ 6) : 2 ^ P ≤ 64 := Nat.pow_le_pow_right (n := 2) (by decide) hP
section P3
variable {E : EV} {d x n : Nat} {F : FT} {G : GT} {b : Bool} {o : SG} {u v w : Int32}
theorem bcl : ∀ n, n < 64 → (ibop 3 (ibop 0 (ibop 0 (ibop 3 (ibop 0 (ibop 0 (ibop 3 (ibop 1 (nI n) (ibop 3 (ibop 8 (nI n) 1) 1431655765)) 858993459) (ibop 3 (ibop 8 (ibop 1 (nI n) (ibop 3 (ibop 8 (nI n) 1) 1431655765)) 2) 858993459)) (ibop 8 (ibop 0 (ibop 3 (ibop 1 (nI n) (ibop 3 (ibop 8 (nI n) 1) 1431655765)) 858993459) (ibop 3 (ibop 8 (ibop 1 (nI n) (ibop 3 (ibop 8 (nI n) 1) 1431655765)) 2) 858993459)) 4)) 252645135) (ibop 8 (ibop 3 (ibop 0 (ibop 0 (ibop 3 (ibop 1 (nI n) (ibop 3 (ibop 8 (nI n) 1) 1431655765)) 858993459) (ibop 3 (ibop 8 (ibop 1 (nI n) (ibop 3 (ibop 8 (nI n) 1) 1431655765)) 2) 858993459)) (ibop 8 (ibop 0 (ibop 3 (ibop 1 (nI n) (ibop 3 (ibop 8 (nI n) 1) 1431655765)) 858993459) (ibop 3 (ibop 8 (ibop 1 (nI n) (ibop 3 (ibop 8 (nI n) 1) 1431655765)) 2) 858993459)) 4)) 252645135) 8)) (ibop 8 (ibop 0 (ibop 3 (ibop 0 (ibop 0 (ibop 3 (ibop 1 (nI n) (ibop 3 (ibop 8 (nI n) 1) 1431655765)) 858993459) (ibop 3 (ibop 8 (ibop 1 (nI n) (ibop 3 (ibop 8 (nI n) 1) 1431655765)) 2) 858993459)) (ibop 8 (ibop 0 (ibop 3 (ibop 1 (nI n) (ibop 3 (ibop 8 (nI n) 1) 1431655765)) 858993459) (ibop 3 (ibop 8 (ibop 1 (nI n) (ibop 3 (ibop 8 (nI n) 1) 1431655765)) 2) 858993459)) 4)) 252645135) (ibop 8 (ibop 3 (ibop 0 (ibop 0 (ibop 3 (ibop 1 (nI n) (ibop 3 (ibop 8 (nI n) 1) 1431655765)) 858993459) (ibop 3 (ibop 8 (ibop 1 (nI n) (ibop 3 (ibop 8 (nI n) 1) 1431655765)) 2) 858993459)) (ibop 8 (ibop 0 (ibop 3 (ibop 1 (nI n) (ibop 3 (ibop 8 (nI n) 1) 1431655765)) 858993459) (ibop 3 (ibop 8 (ibop 1 (nI n) (ibop 3 (ibop 8 (nI n) 1) 1431655765)) 2) 858993459)) 4)) 252645135) 8)) 16)) 63) = nbt (nI n) := by decide +kernel
theorem c_bits (hn : n < 64) : Tm E d 238 0 [some (vi (nI n))] [] (cC x) F G (Rs b) (some (vi (nbt (nI n)))) (cC x, F, G, Rs b) := by
  refine t_run 41 rfl ?_
  exact t_ir k238_52 rfl (by exact bcl n hn)
theorem c_bitsS {f : Nat → Bool} {P : Nat} (hP : P ≤ 6) : Tm E d 238 0 [some (vi (bset f P))] [] (cC x) F G (Rs b) (some (vi (cnt f P))) (cC x, F, G, Rs b) := by
  obtain ⟨n, hn, e⟩ := bset_nI (f := f) hP
  have h6 := pow6 hP
  have k := c_bits (E := E) (d := d) (x := x) (F := F) (G := G) (b := b) (n := n) (by omega)
  rw [← e, nbt_bset hP] at k
  exact k
def q_tinkers (o : SG) : Int32 := bset (fun p => decide (bset (stgA (gA o) (gS o) p) (lP (gA o)) = 0)) (lP (gA o))
theorem l_tinkers (h : CInv F G b o) (hw : WF o) (hd : 100 ≤ d) : ∀ (r i : Nat) (iv : Int32) (acc : Int32), iv = nI i → i + r = lP (gA o) → acc = bset (fun p => decide (bset (stgA (gA o) (gS o) p) (lP (gA o)) = 0)) i → Td E d 110 4 [some (vr 1 0), some (vi acc), some (vi iv)] [] x F G b (some (vi (q_tinkers o))) (CPost b (o) F G) := by
  intro r
  induction r with
  | zero =>
    intro i iv acc hiv hir ha
    subst hiv
    have hi : i = lP (gA o) := by omega
    have hL := h.2.1
    have hA := hw.1
    have hS := h.2.2.2.1.1
    have hwS := hw.2.1.1
    have hP6 := hA.2.1
    have hS5 := hA.1
    refine d_run 2 rfl ?_
    refine d_gR k110_6 (by first | assumption | exact Nat.le_of_ble_eq_true rfl | omega) ⟨rfl, rfl, rfl⟩ (Rs_land _) ?_
    refine d_gI k110_9 (by first | assumption | exact lx2 _ | exact Nat.le_of_ble_eq_true rfl | omega | exact Nat.lt_of_lt_of_le (m := 2) (by omega) (Nat.le_of_ble_eq_true rfl)) ⟨rfl, rfl, Or.inl rfl⟩ ?_
    refine d_ic_ge k110_12 (fun h12 => ?_) (fun h12 => ?_)
    · refine d_run 1 rfl ?_
      refine d_ir k110_46 rfl (by rw [ha, hi]; rfl) ?_
      exact CPost.q h FrD.rf
    · exact absurd (lt_nI h12 hL.2.1 (by omega) (by omega)) (by omega)
  | succ r ih =>
    intro i iv acc hiv hir ha
    subst hiv
    have hi : i < lP (gA o) := by omega
    have hL := h.2.1
    have hA := hw.1
    have hS := h.2.2.2.1.1
    have hwS := hw.2.1.1
    have hP6 := hA.2.1
    have hS5 := hA.1
    refine d_run 2 rfl ?_
    refine d_gR k110_6 (by first | assumption | exact Nat.le_of_ble_eq_true rfl | omega) ⟨rfl, rfl, rfl⟩ (Rs_land _) ?_
    refine d_gI k110_9 (by first | assumption | exact lx2 _ | exact Nat.le_of_ble_eq_true rfl | omega | exact Nat.lt_of_lt_of_le (m := 2) (by omega) (Nat.le_of_ble_eq_true rfl)) ⟨rfl, rfl, Or.inl rfl⟩ ?_
    refine d_ic_ge k110_12 (fun h12 => ?_) (fun h12 => ?_)
    · exact absurd (ge_nI h12 hL.2.1 (by omega) (by omega)) (by omega)
    · refine d_run 1 rfl ?_
      refine d_gR k110_16 (by first | assumption | exact Nat.le_of_ble_eq_true rfl | omega) ⟨rfl, rfl, rfl⟩ rfl ?_
      refine d_gR k110_19 (by first | assumption | exact Nat.le_of_ble_eq_true rfl | omega | exact Nat.lt_of_lt_of_le (m := 5) (by omega) (Nat.le_of_ble_eq_true rfl)) ⟨rfl, rfl, rfl⟩ rfl ?_
      refine d_run 1 rfl ?_
      refine d_gR k110_23 (by first | assumption | exact Nat.le_of_ble_eq_true rfl | omega) ⟨rfl, rfl, rfl⟩ (Rs_land _) ?_
      refine d_run 1 rfl ?_
      refine d_callT 3 k110_27 (by omega) (Nat.le_of_ble_eq_true rfl) rfl (Nat.le_of_ble_eq_true rfl) (Nat.le_of_ble_eq_true rfl) (recv_ok rfl (by first | assumption | exact Nat.le_of_ble_eq_true rfl | omega | exact Nat.lt_of_lt_of_le (m := 27) (by omega) (Nat.le_of_ble_eq_true rfl))) rfl (a_stgOf (by omega) (lx2 b) hL hA hS hi (by omega)) rfl ?_
      refine d_if_ne k110_30 (fun h30 => ?_) (fun h30 => ?_)
      · refine d_run 2 rfl ?_
        exact ih (i + 1) _ _ (nI_1 i) (by omega) (by rw [ha]; simp only [bset]; simp [h30]; try rfl)
      · refine d_run 8 rfl ?_
        exact ih (i + 1) _ _ (nI_1 i) (by omega) (by rw [ha]; simp only [bset]; simp [h30]; try rfl)
theorem a_tinkers (h : CInv F G b o) (hw : WF o) (hd : 100 ≤ d) : Td E d 110 0 [some (vr 1 0), none, none] [] x F G b (some (vi (q_tinkers o))) (CPost b (o) F G) := by
  have hL := h.2.1
  have hA := hw.1
  have hS := h.2.2.2.1.1
  have hwS := hw.2.1.1
  have hP6 := hA.2.1
  have hS5 := hA.1
  refine d_run 4 rfl ?_
  exact l_tinkers h hw hd (lP (gA o)) 0 _ _ rfl (by omega) rfl
end P3
