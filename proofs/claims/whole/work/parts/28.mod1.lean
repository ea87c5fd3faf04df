/-! THE REFERENCE: its row of numbers, read -/
abbrev mAt (F : FT) : Nat → Int32 := fun p => F 70 0 (2 + p)
abbrev mLf (F : FT) : Nat → Int32 := fun p => F 70 0 (8 + p)
abbrev mWd (F : FT) : Nat → Int32 := fun i => F 70 0 (14 + i)
abbrev mSn (F : FT) : Int32 := F 70 0 1
theorem and1 (y : Int32) : y &&& 1 = 0 ∨ y &&& 1 = 1 := by
  obtain ⟨j, hj, e⟩ := pk_andE y (m := 1) 1 (by decide)
  rw [e]
  have : j = 0 ∨ j = 1 := by omega
  rcases this with rfl | rfl
  · exact Or.inl rfl
  · exact Or.inr rfl
theorem bit1 (y : Int32) (p : Nat) : ((y >>> (nI p &&& 31)) &&& 1 = 1) = (bit y p = true) := by
  rcases and1 (y >>> (nI p &&& 31)) with h | h <;> simp [bit, h]
theorem ix14 (a b : Nat) : ibop 0 (ibop 0 14 (ibop 2 6 (nI a))) (nI b) = nI (14 + (6 * a + b)) := by
  show nI 14 + nI 6 * nI a + nI b = _
  rw [pk_mul, nI_add, nI_add, Nat.add_assoc]
section M1
variable {E : EV} {d p x q w : Nat} {F : FT} {G : GT} {b : Bool} {P : Nat} {st u v lo hi : Int32}
theorem m_isSnapped  : Tm E d 180 0 [some (vr 40 0), some (vi (nI p))] [] (cC x) F G (Rs b) (some (vi (b2i (bit (mSn F) p)))) (cC x, F, G, Rs b) := by
  refine t_run 1 rfl ?_
  refine t_gR k180_1 (by first | assumption | exact Nat.le_of_ble_eq_true rfl | omega) ⟨rfl, rfl, rfl⟩ rfl ?_
  refine t_run 1 rfl ?_
  refine t_ia (N := 50) (j := 1) k180_5 (by decide) (by first | assumption | exact Nat.le_of_ble_eq_true rfl | omega) ⟨⟨rfl, rfl⟩, rfl, rfl⟩ (by decide) rfl ?_
  refine t_run 5 rfl ?_
  refine t_ic_ne k180_11 (fun h11 => ?_) (fun h11 => ?_)
  · refine t_run 1 rfl ?_
    exact t_ib k180_19 (by simp only [ibop, bit1] at h11; simp_all [b2i])
  · refine t_run 2 rfl ?_
    exact t_ib k180_19 (by simp only [ibop, bit1] at h11; simp_all [b2i])
theorem m_isSitting (hp : p < 6) (hd : 1 ≤ d) : Tm E d 181 0 [some (vr 40 0), some (vi (nI p))] [] (cC x) F G (Rs b) (some (vi (b2i (sit (mLf F) (mSn F) p)))) (cC x, F, G, Rs b) := by
  refine t_run 2 rfl ?_
  refine t_call 2 k181_2 (by omega) (Nat.le_of_ble_eq_true rfl) rfl (Nat.le_of_ble_eq_true rfl) (Nat.le_of_ble_eq_true rfl) (recv_ok rfl (by first | assumption | exact Nat.le_of_ble_eq_true rfl | omega)) rfl m_isSnapped rfl ?_
  refine t_if_ne k181_5 (fun h5 => ?_) (fun h5 => ?_)
  · refine t_run 2 rfl ?_
    exact t_ib k181_25 (by (try simp only [b2i0] at *); simp_all [b2i, sit])
  · refine t_run 1 rfl ?_
    refine t_gR k181_9 (by first | assumption | exact Nat.le_of_ble_eq_true rfl | omega) ⟨rfl, rfl, rfl⟩ rfl ?_
    refine t_run 3 rfl ?_
    refine t_ia (N := 50) k181_16 (by decide) (by first | assumption | exact Nat.le_of_ble_eq_true rfl | omega) ⟨⟨rfl, rfl⟩, rfl, rfl⟩ (by first | assumption | omega) (nI_add 8 _) ?_
    refine t_if_ne k181_17 (fun h17 => ?_) (fun h17 => ?_)
    · refine t_run 1 rfl ?_
      exact t_ib k181_25 (by (try simp only [b2i0] at *); simp_all [b2i, sit])
    · refine t_run 2 rfl ?_
      exact t_ib k181_25 (by (try simp only [b2i0] at *); simp_all [b2i, sit])
theorem m_together (hp : p < 6) (hq : q < 6) : Tm E d 178 0 [some (vr 40 0), some (vi (nI p)), some (vi (nI q))] [] (cC x) F G (Rs b) (some (vi (tog (mWd F) p q))) (cC x, F, G, Rs b) := by
  refine t_run 1 rfl ?_
  refine t_gR k178_1 (by first | assumption | exact Nat.le_of_ble_eq_true rfl | omega) ⟨rfl, rfl, rfl⟩ rfl ?_
  refine t_run 7 rfl ?_
  refine t_ia (N := 50) k178_13 (by decide) (by first | assumption | exact Nat.le_of_ble_eq_true rfl | omega) ⟨⟨rfl, rfl⟩, rfl, rfl⟩ (by first | assumption | omega) (ix14 p q) ?_
  refine t_run 1 rfl ?_
  refine t_gR k178_15 (by first | assumption | exact Nat.le_of_ble_eq_true rfl | omega) ⟨rfl, rfl, rfl⟩ rfl ?_
  refine t_run 7 rfl ?_
  refine t_ia (N := 50) k178_27 (by decide) (by first | assumption | exact Nat.le_of_ble_eq_true rfl | omega) ⟨⟨rfl, rfl⟩, rfl, rfl⟩ (by first | assumption | omega) (ix14 q p) ?_
  refine t_run 1 rfl ?_
  exact t_ir k178_29 rfl (by rfl)
theorem m_strg (hp : p < 6) (hq : q < 6) (hd : 1 ≤ d) : Tm E d 179 0 [some (vr 40 0), some (vi (nI p)), some (vi (nI q))] [] (cC x) F G (Rs b) (some (vi (b2i (strg (F 49 0) (mWd F) (F 42 0 2) p q)))) (cC x, F, G, Rs b) := by
  refine t_run 2 rfl ?_
  refine t_ic_eq k179_2 (fun h2 => ?_) (fun h2 => ?_)
  · have h2 := nI_inj h2 (by omega) (by omega)
    refine t_run 1 rfl ?_
    exact t_ib k179_38 (by simp_all [b2i, strg, bit, ibop, Int32.not_lt])
  · have h2 := nI_ne h2
    refine t_run 1 rfl ?_
    refine t_gR k179_6 (by first | assumption | exact Nat.le_of_ble_eq_true rfl | omega) ⟨rfl, rfl, rfl⟩ rfl ?_
    refine t_run 1 rfl ?_
    refine t_ia (N := 12) k179_10 (by decide) (by first | assumption | exact Nat.le_of_ble_eq_true rfl | omega) ⟨⟨rfl, rfl⟩, rfl, rfl⟩ (by first | assumption | omega) rfl ?_
    refine t_run 4 rfl ?_
    refine t_if_ne k179_15 (fun h15 => ?_) (fun h15 => ?_)
    · refine t_run 1 rfl ?_
      exact t_ib k179_38 (by simp_all [b2i, strg, bit, ibop, Int32.not_lt])
    · refine t_run 3 rfl ?_
      refine t_call 3 k179_21 (by omega) (Nat.le_of_ble_eq_true rfl) rfl (Nat.le_of_ble_eq_true rfl) (Nat.le_of_ble_eq_true rfl) (recv_ok rfl (by first | assumption | exact Nat.le_of_ble_eq_true rfl | omega)) rfl (m_together hp hq) rfl ?_
      refine t_run 1 rfl ?_
      refine t_gR k179_25 (by first | assumption | exact Nat.le_of_ble_eq_true rfl | omega) ⟨rfl, rfl, rfl⟩ rfl ?_
      refine t_run 1 rfl ?_
      refine t_ia (N := 8) (j := 2) k179_29 (by decide) (by first | assumption | exact Nat.le_of_ble_eq_true rfl | omega) ⟨⟨rfl, rfl⟩, rfl, rfl⟩ (by decide) rfl ?_
      refine t_ic_ge k179_30 (fun h30 => ?_) (fun h30 => ?_)
      · refine t_run 1 rfl ?_
        exact t_ib k179_38 (by simp_all [b2i, strg, bit, ibop, Int32.not_lt])
      · refine t_run 2 rfl ?_
        exact t_ib k179_38 (by simp_all [b2i, strg, bit, ibop, Int32.not_lt])
theorem ml_sitting (hP : F 42 0 1 = nI P) (hP6 : P ≤ 6) (hd : 2 ≤ d) : ∀ (r : Nat) (i : Nat) (acc iv : Int32), iv = nI i → i ≤ P → P < i + r → acc = bset (sit (mLf F) (mSn F)) i → Tm E d 182 4 [some (vr 40 0), some (vi acc), some (vi iv)] [] (cC x) F G (Rs b) (some (vi (bset (sit (mLf F) (mSn F)) P))) (cC x, F, G, Rs b) := by
  intro r
  induction r with
  | zero => intros; omega
  | succ r ih =>
    intro i acc iv hiv hi hr ha
    subst hiv
    refine t_run 2 rfl ?_
    refine t_gR k182_6 (by first | assumption | exact Nat.le_of_ble_eq_true rfl | omega) ⟨rfl, rfl, rfl⟩ rfl ?_
    refine t_run 1 rfl ?_
    refine t_ia (N := 8) (j := 1) k182_10 (by decide) (by first | assumption | exact Nat.le_of_ble_eq_true rfl | omega) ⟨⟨rfl, rfl⟩, rfl, rfl⟩ (by decide) rfl ?_
    refine t_ic_ge k182_11 (fun h11 => ?_) (fun h11 => ?_)
    · have h11 := ge_nI h11 hP (by omega) (by omega)
      have hip : i = P := by omega
      subst hip
      refine t_run 1 rfl ?_
      exact t_ir k182_39 rfl (by exact ha)
    · have h11 := lt_nI h11 hP (by omega) (by omega)
      refine t_run 3 rfl ?_
      refine t_call 2 k182_17 (by omega) (Nat.le_of_ble_eq_true rfl) rfl (Nat.le_of_ble_eq_true rfl) (Nat.le_of_ble_eq_true rfl) (recv_ok rfl (by first | assumption | exact Nat.le_of_ble_eq_true rfl | omega)) rfl (m_isSitting (by omega) (by omega)) rfl ?_
      refine t_if_eq k182_20 (fun h20 => ?_) (fun h20 => ?_)
      · refine t_run 5 rfl ?_
        exact ih (i + 1) _ _ (nI_1 i) (by omega) (by omega) (by simp only [b2i0] at h20; simp_all [bset, ibop])
      · refine t_run 8 rfl ?_
        exact ih (i + 1) _ _ (nI_1 i) (by omega) (by omega) (by simp only [b2i0] at h20; simp_all [bset, ibop])
theorem m_sitting (hP : F 42 0 1 = nI P) (hP6 : P ≤ 6) (hd : 2 ≤ d) : Tm E d 182 0 [some (vr 40 0), none, none] [] (cC x) F G (Rs b) (some (vi (bset (sit (mLf F) (mSn F)) P))) (cC x, F, G, Rs b) := by
  refine t_run 4 rfl ?_
  exact ml_sitting hP hP6 hd (P + 1) 0 _ _ rfl (by omega) (by omega) rfl
theorem m_canWalk (hp : p < 6) {a : Nat} (ha : F 70 0 (2 + p) = nI a) (ha5 : a < 5) (hd : 2 ≤ d) : Tm E d 184 0 [some (vr 40 0), some (vi (nI p)), some (vi (nI q))] [] (cC x) F G (Rs b) (some (vi (b2i (cwk (F 45 0) (mAt F) (mLf F) (mSn F) p q)))) (cC x, F, G, Rs b) := by
  refine t_run 2 rfl ?_
  refine t_call 2 k184_2 (by omega) (Nat.le_of_ble_eq_true rfl) rfl (Nat.le_of_ble_eq_true rfl) (Nat.le_of_ble_eq_true rfl) (recv_ok rfl (by first | assumption | exact Nat.le_of_ble_eq_true rfl | omega)) rfl (m_isSitting hp (by omega)) rfl ?_
  refine t_if_ne k184_5 (fun h5 => ?_) (fun h5 => ?_)
  · refine t_run 1 rfl ?_
    exact t_ib k184_34 (by (try simp only [ibop, bit1] at h26); have hc : (nI a).toNatClampNeg = a := nI_clamp (by omega); simp_all [b2i0, b2i, cwk])
  · refine t_run 1 rfl ?_
    refine t_gR k184_9 (by first | assumption | exact Nat.le_of_ble_eq_true rfl | omega) ⟨rfl, rfl, rfl⟩ rfl ?_
    refine t_run 1 rfl ?_
    refine t_gR k184_13 (by first | assumption | exact Nat.le_of_ble_eq_true rfl | omega) ⟨rfl, rfl, rfl⟩ rfl ?_
    refine t_run 3 rfl ?_
    refine t_ia (N := 50) k184_19 (by decide) (by first | assumption | exact Nat.le_of_ble_eq_true rfl | omega) ⟨⟨rfl, rfl⟩, rfl, rfl⟩ (by first | assumption | omega) (nI_add 2 _) ?_
    refine t_ia (N := 10) k184_20 (by decide) (by first | assumption | exact Nat.le_of_ble_eq_true rfl | omega) ⟨⟨rfl, rfl⟩, rfl, rfl⟩ (by first | assumption | omega) ha ?_
    refine t_run 5 rfl ?_
    refine t_ic_ne k184_26 (fun h26 => ?_) (fun h26 => ?_)
    · refine t_run 1 rfl ?_
      exact t_ib k184_34 (by (try simp only [ibop, bit1] at h26); have hc : (nI a).toNatClampNeg = a := nI_clamp (by omega); simp_all [b2i0, b2i, cwk])
    · refine t_run 2 rfl ?_
      exact t_ib k184_34 (by (try simp only [ibop, bit1] at h26); have hc : (nI a).toNatClampNeg = a := nI_clamp (by omega); simp_all [b2i0, b2i, cwk])
def mwd (ki kn at_ lf wd : Nat → Int32) (so sn : Int32) (a b : Nat) : Bool := decide (¬ ki a = 1) && !sit lf sn a && decide (at_ a = at_ b) && strg kn wd so a b
theorem m_might (hp : p < 6) (hq : q < 6) (hd : 2 ≤ d) : Tm E d 185 0 [some (vr 40 0), some (vi (nI p)), some (vi (nI q))] [] (cC x) F G (Rs b) (some (vi (b2i (mwd (F 46 0) (F 49 0) (mAt F) (mLf F) (mWd F) (F 42 0 2) (mSn F) p q)))) (cC x, F, G, Rs b) := by
  refine t_run 1 rfl ?_
  refine t_gR k185_1 (by first | assumption | exact Nat.le_of_ble_eq_true rfl | omega) ⟨rfl, rfl, rfl⟩ rfl ?_
  refine t_run 1 rfl ?_
  refine t_ia (N := 12) k185_5 (by decide) (by first | assumption | exact Nat.le_of_ble_eq_true rfl | omega) ⟨⟨rfl, rfl⟩, rfl, rfl⟩ (by first | assumption | omega) rfl ?_
  refine t_run 1 rfl ?_
  refine t_ic_eq k185_7 (fun h7 => ?_) (fun h7 => ?_)
  · refine t_run 1 rfl ?_
    exact t_ib k185_51 (by (try simp only [b2i0] at *); simp_all [b2i, mwd])
  · refine t_run 2 rfl ?_
    refine t_call 2 k185_12 (by omega) (Nat.le_of_ble_eq_true rfl) rfl (Nat.le_of_ble_eq_true rfl) (Nat.le_of_ble_eq_true rfl) (recv_ok rfl (by first | assumption | exact Nat.le_of_ble_eq_true rfl | omega)) rfl (m_isSitting hp (by omega)) rfl ?_
    refine t_if_ne k185_15 (fun h15 => ?_) (fun h15 => ?_)
    · refine t_run 1 rfl ?_
      exact t_ib k185_51 (by (try simp only [b2i0] at *); simp_all [b2i, mwd])
    · refine t_run 1 rfl ?_
      refine t_gR k185_19 (by first | assumption | exact Nat.le_of_ble_eq_true rfl | omega) ⟨rfl, rfl, rfl⟩ rfl ?_
      refine t_run 3 rfl ?_
      refine t_ia (N := 50) k185_25 (by decide) (by first | assumption | exact Nat.le_of_ble_eq_true rfl | omega) ⟨⟨rfl, rfl⟩, rfl, rfl⟩ (by first | assumption | omega) (nI_add 2 _) ?_
      refine t_run 1 rfl ?_
      refine t_gR k185_27 (by first | assumption | exact Nat.le_of_ble_eq_true rfl | omega) ⟨rfl, rfl, rfl⟩ rfl ?_
      refine t_run 3 rfl ?_
      refine t_ia (N := 50) k185_33 (by decide) (by first | assumption | exact Nat.le_of_ble_eq_true rfl | omega) ⟨⟨rfl, rfl⟩, rfl, rfl⟩ (by first | assumption | omega) (nI_add 2 _) ?_
      refine t_ic_ne k185_34 (fun h34 => ?_) (fun h34 => ?_)
      · refine t_run 1 rfl ?_
        exact t_ib k185_51 (by (try simp only [b2i0] at *); simp_all [b2i, mwd])
      · refine t_run 3 rfl ?_
        refine t_call 3 k185_40 (by omega) (Nat.le_of_ble_eq_true rfl) rfl (Nat.le_of_ble_eq_true rfl) (Nat.le_of_ble_eq_true rfl) (recv_ok rfl (by first | assumption | exact Nat.le_of_ble_eq_true rfl | omega)) rfl (m_strg hp hq (by omega)) rfl ?_
        refine t_if_eq k185_43 (fun h43 => ?_) (fun h43 => ?_)
        · refine t_run 1 rfl ?_
          exact t_ib k185_51 (by (try simp only [b2i0] at *); simp_all [b2i, mwd])
        · refine t_run 2 rfl ?_
          exact t_ib k185_51 (by (try simp only [b2i0] at *); simp_all [b2i, mwd])
theorem m_canBe (hp : p < 6) (hd : 1 ≤ d) : Tm E d 186 0 [some (vr 40 0), some (vi (nI p))] [] (cC x) F G (Rs b) (some (vi (b2i (decide (¬ F 46 0 p = 3) && !bit (mSn F) p)))) (cC x, F, G, Rs b) := by
  refine t_run 1 rfl ?_
  refine t_gR k186_1 (by first | assumption | exact Nat.le_of_ble_eq_true rfl | omega) ⟨rfl, rfl, rfl⟩ rfl ?_
  refine t_run 1 rfl ?_
  refine t_ia (N := 12) k186_5 (by decide) (by first | assumption | exact Nat.le_of_ble_eq_true rfl | omega) ⟨⟨rfl, rfl⟩, rfl, rfl⟩ (by first | assumption | omega) rfl ?_
  refine t_run 1 rfl ?_
  refine t_ic_eq k186_7 (fun h7 => ?_) (fun h7 => ?_)
  · refine t_run 1 rfl ?_
    exact t_ib k186_23 (by (try simp only [b2i0] at *); simp_all [b2i])
  · refine t_run 2 rfl ?_
    refine t_call 2 k186_12 (by omega) (Nat.le_of_ble_eq_true rfl) rfl (Nat.le_of_ble_eq_true rfl) (Nat.le_of_ble_eq_true rfl) (recv_ok rfl (by first | assumption | exact Nat.le_of_ble_eq_true rfl | omega)) rfl m_isSnapped rfl ?_
    refine t_if_ne k186_15 (fun h15 => ?_) (fun h15 => ?_)
    · refine t_run 1 rfl ?_
      exact t_ib k186_23 (by (try simp only [b2i0] at *); simp_all [b2i])
    · refine t_run 2 rfl ?_
      exact t_ib k186_23 (by (try simp only [b2i0] at *); simp_all [b2i])
theorem ml_crowd (hP : F 42 0 1 = nI P) (hP6 : P ≤ 6) (hp : p < 6) (hq : q < 6) : ∀ (r : Nat) (i : Nat) (acc iv : Int32), iv = nI i → i ≤ P → P < i + r → acc = crd (mAt F) p q i → Tm E d 187 5 [some (vr 40 0), some (vi (nI p)), some (vi (nI q)), some (vi acc), some (vi iv)] [] (cC x) F G (Rs b) (some (vi (crd (mAt F) p q P))) (cC x, F, G, Rs b) := by
  intro r
  induction r with
  | zero => intros; omega
  | succ r ih =>
    intro i acc iv hiv hi hr ha
    subst hiv
    refine t_run 2 rfl ?_
    refine t_gR k187_8 (by first | assumption | exact Nat.le_of_ble_eq_true rfl | omega) ⟨rfl, rfl, rfl⟩ rfl ?_
    refine t_run 1 rfl ?_
    refine t_ia (N := 8) (j := 1) k187_12 (by decide) (by first | assumption | exact Nat.le_of_ble_eq_true rfl | omega) ⟨⟨rfl, rfl⟩, rfl, rfl⟩ (by decide) rfl ?_
    refine t_ic_ge k187_13 (fun h13 => ?_) (fun h13 => ?_)
    · have h13 := ge_nI h13 hP (by omega) (by omega)
      have hip : i = P := by omega
      subst hip
      refine t_run 1 rfl ?_
      exact t_ir k187_63 rfl (by exact ha)
    · have h13 := lt_nI h13 hP (by omega) (by omega)
      refine t_run 3 rfl ?_
      refine t_ic_eq k187_20 (fun h20 => ?_) (fun h20 => ?_)
      · have h20 := nI_inj h20 (by omega) (by omega)
        refine t_run 5 rfl ?_
        exact ih (i + 1) _ _ (nI_1 i) (by omega) (by omega) (by simp_all [crd, ibop])
      · have h20 := nI_ne h20
        refine t_run 2 rfl ?_
        refine t_ic_eq k187_26 (fun h26 => ?_) (fun h26 => ?_)
        · have h26 := nI_inj h26 (by omega) (by omega)
          refine t_run 5 rfl ?_
          exact ih (i + 1) _ _ (nI_1 i) (by omega) (by omega) (by simp_all [crd, ibop])
        · have h26 := nI_ne h26
          refine t_run 1 rfl ?_
          refine t_gR k187_30 (by first | assumption | exact Nat.le_of_ble_eq_true rfl | omega) ⟨rfl, rfl, rfl⟩ rfl ?_
          refine t_run 3 rfl ?_
          refine t_ia (N := 50) k187_37 (by decide) (by first | assumption | exact Nat.le_of_ble_eq_true rfl | omega) ⟨⟨rfl, rfl⟩, rfl, rfl⟩ (by first | assumption | omega) (nI_add 2 _) ?_
          refine t_run 1 rfl ?_
          refine t_gR k187_39 (by first | assumption | exact Nat.le_of_ble_eq_true rfl | omega) ⟨rfl, rfl, rfl⟩ rfl ?_
          refine t_run 3 rfl ?_
          refine t_ia (N := 50) k187_45 (by decide) (by first | assumption | exact Nat.le_of_ble_eq_true rfl | omega) ⟨⟨rfl, rfl⟩, rfl, rfl⟩ (by first | assumption | omega) (nI_add 2 _) ?_
          refine t_ic_ne k187_46 (fun h46 => ?_) (fun h46 => ?_)
          · refine t_run 5 rfl ?_
            exact ih (i + 1) _ _ (nI_1 i) (by omega) (by omega) (by simp_all [crd, ibop])
          · refine t_run 6 rfl ?_
            exact ih (i + 1) _ _ (nI_1 i) (by omega) (by omega) (by simp_all [crd, ibop])
theorem m_crowd (hP : F 42 0 1 = nI P) (hP6 : P ≤ 6) (hp : p < 6) (hq : q < 6) : Tm E d 187 0 [some (vr 40 0), some (vi (nI p)), some (vi (nI q)), none, none] [] (cC x) F G (Rs b) (some (vi (crd (mAt F) p q P))) (cC x, F, G, Rs b) := by
  refine t_run 4 rfl ?_
  exact ml_crowd hP hP6 hp hq (P + 1) 0 _ _ rfl (by omega) (by omega) rfl
theorem m_between  : Tm E d 131 0 [some (vi u), some (vi lo), some (vi hi)] [] (cC x) F G (Rs b) (some (vi (if u < lo then lo else if hi < u then hi else u))) (cC x, F, G, Rs b) := by
  refine t_run 2 rfl ?_
  refine t_ic_ge k131_2 (fun h2 => ?_) (fun h2 => ?_)
  · refine t_run 2 rfl ?_
    refine t_ic_le k131_11 (fun h11 => ?_) (fun h11 => ?_)
    · refine t_run 1 rfl ?_
      exact t_ir k131_19 rfl (by first | rw [if_pos (Int32.not_le.mp h2)] | rw [if_neg (Int32.not_lt.mpr h2), if_neg (Int32.not_lt.mpr h11)] | rw [if_neg (Int32.not_lt.mpr h2), if_pos (Int32.not_le.mp h11)])
    · refine t_run 2 rfl ?_
      exact t_ir k131_19 rfl (by first | rw [if_pos (Int32.not_le.mp h2)] | rw [if_neg (Int32.not_lt.mpr h2), if_neg (Int32.not_lt.mpr h11)] | rw [if_neg (Int32.not_lt.mpr h2), if_pos (Int32.not_le.mp h11)])
  · refine t_run 2 rfl ?_
    exact t_ir k131_19 rfl (by first | rw [if_pos (Int32.not_le.mp h2)] | rw [if_neg (Int32.not_lt.mpr h2), if_neg (Int32.not_lt.mpr h11)] | rw [if_neg (Int32.not_lt.mpr h2), if_pos (Int32.not_le.mp h11)])
end M1
