theorem b2i0 (w : Bool) : (b2i w = 0) = (w = false) := by cases w <;> simp [b2i]
theorem b2i1 (w : Bool) : (b2i w = 1) = (w = true) := by cases w <;> simp [b2i]
theorem nI_ne {a b : Nat} (h : ¬ nI a = nI b) : a ≠ b := fun e => h (by rw [e])
section S2
variable {E : EV} {d n p x l q w : Nat} {F : FT} {G : GT} {b : Bool} {P : Nat} {st : Int32}
theorem l_leftAll (hn : n < 27) (hl : l < 2) (hP : F 9 l 10 = nI P) (hP6 : P ≤ 6) : ∀ (r : Nat) (i : Nat) (acc iv : Int32), iv = nI i → i ≤ P → P < i + r → acc = isum (F 27 n) i → Tm E d 49 4 [some (vr 25 n), some (vr 9 l), some (vi acc), some (vi iv)] [] (cC x) F G (Rs b) (some (vi (isum (F 27 n) P))) (cC x, F, G, Rs b) := by
  intro r
  induction r with
  | zero => intros; omega
  | succ r ih =>
    intro i acc iv hiv hi hr ha
    subst hiv
    refine t_run 2 rfl ?_
    refine t_gI k49_6 (by first | assumption | exact Nat.le_of_ble_eq_true rfl | omega) ⟨rfl, rfl, Or.inl rfl⟩ ?_
    refine t_ic_ge k49_9 (fun h9 => ?_) (fun h9 => ?_)
    · have h9 := ge_nI h9 hP (by omega) (by omega)
      have hip : i = P := by omega
      subst hip
      refine t_run 1 rfl ?_
      exact t_ir k49_28 rfl (by exact ha)
    · have h9 := lt_nI h9 hP (by omega) (by omega)
      refine t_run 2 rfl ?_
      refine t_gR k49_14 (by first | assumption | exact Nat.le_of_ble_eq_true rfl | omega) ⟨rfl, rfl, rfl⟩ rfl ?_
      refine t_run 1 rfl ?_
      refine t_ia (N := 6) k49_18 (by decide) (by first | assumption | exact Nat.le_of_ble_eq_true rfl | omega) ⟨⟨rfl, rfl⟩, rfl, rfl⟩ (by first | assumption | omega) rfl ?_
      refine t_run 4 rfl ?_
      exact ih (i + 1) _ _ (nI_1 i) (by omega) (by omega) (by rw [ha]; rfl)
theorem c_leftAll (hn : n < 27) (hl : l < 2) (hP : F 9 l 10 = nI P) (hP6 : P ≤ 6) : Tm E d 49 0 [some (vr 25 n), some (vr 9 l), none, none] [] (cC x) F G (Rs b) (some (vi (isum (F 27 n) P))) (cC x, F, G, Rs b) := by
  refine t_run 4 rfl ?_
  exact l_leftAll hn hl hP hP6 (P + 1) 0 _ _ rfl (by omega) (by omega) rfl
theorem c_canWalk (hn : n < 27) (hl : l < 2) (hp : p < 6) {a : Nat} (ha : F 26 n p = nI a) (ha5 : a < 5) (hd : 2 ≤ d) : Tm E d 54 0 [some (vr 25 n), some (vr 9 l), some (vi (nI p)), some (vi (nI q))] [] (cC x) F G (Rs b) (some (vi (b2i (cwk (F 11 l) (F 26 n) (F 27 n) (F 25 n 3) p q)))) (cC x, F, G, Rs b) := by
  refine t_run 2 rfl ?_
  refine t_call 2 k54_2 (by omega) (Nat.le_of_ble_eq_true rfl) rfl (Nat.le_of_ble_eq_true rfl) (Nat.le_of_ble_eq_true rfl) (recv_ok rfl (by first | assumption | exact Nat.le_of_ble_eq_true rfl | omega)) rfl (c_sits hn hp (by omega)) rfl ?_
  refine t_if_ne k54_5 (fun h5 => ?_) (fun h5 => ?_)
  · refine t_run 1 rfl ?_
    exact t_ib k54_31 (by have hc : (nI a).toNatClampNeg = a := nI_clamp (by omega); simp_all [b2i0, b2i, cwk, bit, ibop])
  · refine t_run 1 rfl ?_
    refine t_gR k54_9 (by first | assumption | exact Nat.le_of_ble_eq_true rfl | omega) ⟨rfl, rfl, rfl⟩ rfl ?_
    refine t_run 1 rfl ?_
    refine t_gR k54_13 (by first | assumption | exact Nat.le_of_ble_eq_true rfl | omega) ⟨rfl, rfl, rfl⟩ rfl ?_
    refine t_run 1 rfl ?_
    refine t_ia (N := 6) k54_17 (by decide) (by first | assumption | exact Nat.le_of_ble_eq_true rfl | omega) ⟨⟨rfl, rfl⟩, rfl, rfl⟩ (by first | assumption | omega) rfl ?_
    refine t_ia (N := 5) k54_18 (by decide) (by first | assumption | exact Nat.le_of_ble_eq_true rfl | omega) ⟨⟨rfl, rfl⟩, rfl, rfl⟩ (by first | assumption | omega) ha ?_
    refine t_run 4 rfl ?_
    refine t_if_eq k54_23 (fun h23 => ?_) (fun h23 => ?_)
    · refine t_run 1 rfl ?_
      exact t_ib k54_31 (by have hc : (nI a).toNatClampNeg = a := nI_clamp (by omega); simp_all [b2i0, b2i, cwk, bit, ibop])
    · refine t_run 2 rfl ?_
      exact t_ib k54_31 (by have hc : (nI a).toNatClampNeg = a := nI_clamp (by omega); simp_all [b2i0, b2i, cwk, bit, ibop])
theorem c_canWind (hn : n < 27) (hl : l < 2) (hp : p < 6) (hq : q < 6) (hd : 2 ≤ d) : Tm E d 56 0 [some (vr 25 n), some (vr 9 l), some (vi (nI p)), some (vi (nI q))] [] (cC x) F G (Rs b) (some (vi (b2i (cwd (F 13 l) (F 16 l) (F 26 n) (F 27 n) (F 28 n) (F 9 l 11) (F 25 n 3) p q)))) (cC x, F, G, Rs b) := by
  refine t_run 1 rfl ?_
  refine t_gR k56_1 (by first | assumption | exact Nat.le_of_ble_eq_true rfl | omega) ⟨rfl, rfl, rfl⟩ rfl ?_
  refine t_run 1 rfl ?_
  refine t_ia (N := 6) k56_5 (by decide) (by first | assumption | exact Nat.le_of_ble_eq_true rfl | omega) ⟨⟨rfl, rfl⟩, rfl, rfl⟩ (by first | assumption | omega) rfl ?_
  refine t_run 1 rfl ?_
  refine t_gR k56_7 (by first | assumption | exact Nat.le_of_ble_eq_true rfl | omega) ⟨rfl, rfl, rfl⟩ rfl ?_
  refine t_run 1 rfl ?_
  refine t_ia (N := 6) k56_11 (by decide) (by first | assumption | exact Nat.le_of_ble_eq_true rfl | omega) ⟨⟨rfl, rfl⟩, rfl, rfl⟩ (by first | assumption | omega) rfl ?_
  refine t_ic_ne k56_12 (fun h12 => ?_) (fun h12 => ?_)
  · refine t_run 1 rfl ?_
    exact t_ib k56_66 (by (try simp only [b2i0] at *); simp_all [b2i, cwd])
  · refine t_run 1 rfl ?_
    refine t_gR k56_16 (by first | assumption | exact Nat.le_of_ble_eq_true rfl | omega) ⟨rfl, rfl, rfl⟩ rfl ?_
    refine t_run 1 rfl ?_
    refine t_ia (N := 6) k56_20 (by decide) (by first | assumption | exact Nat.le_of_ble_eq_true rfl | omega) ⟨⟨rfl, rfl⟩, rfl, rfl⟩ (by first | assumption | omega) rfl ?_
    refine t_run 1 rfl ?_
    refine t_ic_eq k56_22 (fun h22 => ?_) (fun h22 => ?_)
    · refine t_run 1 rfl ?_
      exact t_ib k56_66 (by (try simp only [b2i0] at *); simp_all [b2i, cwd])
    · refine t_run 2 rfl ?_
      refine t_call 2 k56_27 (by omega) (Nat.le_of_ble_eq_true rfl) rfl (Nat.le_of_ble_eq_true rfl) (Nat.le_of_ble_eq_true rfl) (recv_ok rfl (by first | assumption | exact Nat.le_of_ble_eq_true rfl | omega)) rfl (c_sits hn hp (by omega)) rfl ?_
      refine t_if_ne k56_30 (fun h30 => ?_) (fun h30 => ?_)
      · refine t_run 1 rfl ?_
        exact t_ib k56_66 (by (try simp only [b2i0] at *); simp_all [b2i, cwd])
      · refine t_run 1 rfl ?_
        refine t_gR k56_34 (by first | assumption | exact Nat.le_of_ble_eq_true rfl | omega) ⟨rfl, rfl, rfl⟩ rfl ?_
        refine t_run 1 rfl ?_
        refine t_ia (N := 6) k56_38 (by decide) (by first | assumption | exact Nat.le_of_ble_eq_true rfl | omega) ⟨⟨rfl, rfl⟩, rfl, rfl⟩ (by first | assumption | omega) rfl ?_
        refine t_run 1 rfl ?_
        refine t_ic_eq k56_40 (fun h40 => ?_) (fun h40 => ?_)
        · refine t_run 1 rfl ?_
          exact t_ib k56_66 (by (try simp only [b2i0] at *); simp_all [b2i, cwd])
        · refine t_run 2 rfl ?_
          refine t_call 2 k56_45 (by omega) (Nat.le_of_ble_eq_true rfl) rfl (Nat.le_of_ble_eq_true rfl) (Nat.le_of_ble_eq_true rfl) (recv_ok rfl (by first | assumption | exact Nat.le_of_ble_eq_true rfl | omega)) rfl (c_isSnapped hn) rfl ?_
          refine t_if_ne k56_48 (fun h48 => ?_) (fun h48 => ?_)
          · refine t_run 1 rfl ?_
            exact t_ib k56_66 (by (try simp only [b2i0] at *); simp_all [b2i, cwd])
          · refine t_run 4 rfl ?_
            refine t_call 4 k56_55 (by omega) (Nat.le_of_ble_eq_true rfl) rfl (Nat.le_of_ble_eq_true rfl) (Nat.le_of_ble_eq_true rfl) (recv_ok rfl (by first | assumption | exact Nat.le_of_ble_eq_true rfl | omega)) rfl (c_strg hn hl hp hq (by omega)) rfl ?_
            refine t_if_eq k56_58 (fun h58 => ?_) (fun h58 => ?_)
            · refine t_run 1 rfl ?_
              exact t_ib k56_66 (by (try simp only [b2i0] at *); simp_all [b2i, cwd])
            · refine t_run 2 rfl ?_
              exact t_ib k56_66 (by (try simp only [b2i0] at *); simp_all [b2i, cwd])
theorem l_offer (hn : n < 27) (hl : l < 2) (hP : F 9 l 10 = nI P) (hP6 : P ≤ 6) (hp : p < 6) (hd : 2 ≤ d) : ∀ (r : Nat) (i : Nat) (acc iv : Int32), iv = nI i → i ≤ P → P < i + r → acc = bset (offr (F 13 l) (F 16 l) (F 26 n) (F 27 n) (F 28 n) (F 9 l 11) (F 25 n 3) p st) i → Tm E d 53 6 [some (vr 25 n), some (vr 9 l), some (vi (nI p)), some (vi st), some (vi acc), some (vi iv)] [] (cC x) F G (Rs b) (some (vi (bset (offr (F 13 l) (F 16 l) (F 26 n) (F 27 n) (F 28 n) (F 9 l 11) (F 25 n 3) p st) P))) (cC x, F, G, Rs b) := by
  intro r
  induction r with
  | zero => intros; omega
  | succ r ih =>
    intro i acc iv hiv hi hr ha
    subst hiv
    refine t_run 2 rfl ?_
    refine t_gI k53_9 (by first | assumption | exact Nat.le_of_ble_eq_true rfl | omega) ⟨rfl, rfl, Or.inl rfl⟩ ?_
    refine t_ic_ge k53_12 (fun h12 => ?_) (fun h12 => ?_)
    · have h12 := ge_nI h12 hP (by omega) (by omega)
      have hip : i = P := by omega
      subst hip
      refine t_run 1 rfl ?_
      exact t_ir k53_74 rfl (by exact ha)
    · have h12 := lt_nI h12 hP (by omega) (by omega)
      refine t_run 1 rfl ?_
      refine t_gR k53_16 (by first | assumption | exact Nat.le_of_ble_eq_true rfl | omega) ⟨rfl, rfl, rfl⟩ rfl ?_
      refine t_run 1 rfl ?_
      refine t_ia (N := 6) k53_21 (by decide) (by first | assumption | exact Nat.le_of_ble_eq_true rfl | omega) ⟨⟨rfl, rfl⟩, rfl, rfl⟩ (by first | assumption | omega) rfl ?_
      refine t_run 1 rfl ?_
      refine t_ic_ne k53_23 (fun h23 => ?_) (fun h23 => ?_)
      · refine t_run 2 rfl ?_
        exact ih (i + 1) _ _ (nI_1 i) (by omega) (by omega) (by (try simp only [b2i0] at *); simp_all [bset, offr, ibop])
      · refine t_run 1 rfl ?_
        refine t_gR k53_27 (by first | assumption | exact Nat.le_of_ble_eq_true rfl | omega) ⟨rfl, rfl, rfl⟩ rfl ?_
        refine t_run 1 rfl ?_
        refine t_ia (N := 6) k53_32 (by decide) (by first | assumption | exact Nat.le_of_ble_eq_true rfl | omega) ⟨⟨rfl, rfl⟩, rfl, rfl⟩ (by first | assumption | omega) rfl ?_
        refine t_run 1 rfl ?_
        refine t_ic_eq k53_34 (fun h34 => ?_) (fun h34 => ?_)
        · refine t_run 2 rfl ?_
          exact ih (i + 1) _ _ (nI_1 i) (by omega) (by omega) (by (try simp only [b2i0] at *); simp_all [bset, offr, ibop])
        · refine t_run 2 rfl ?_
          refine t_call 2 k53_40 (by omega) (Nat.le_of_ble_eq_true rfl) rfl (Nat.le_of_ble_eq_true rfl) (Nat.le_of_ble_eq_true rfl) (recv_ok rfl (by first | assumption | exact Nat.le_of_ble_eq_true rfl | omega)) rfl (c_sits hn (by omega) (by omega)) rfl ?_
          refine t_if_ne k53_43 (fun h43 => ?_) (fun h43 => ?_)
          · refine t_run 2 rfl ?_
            exact ih (i + 1) _ _ (nI_1 i) (by omega) (by omega) (by (try simp only [b2i0] at *); simp_all [bset, offr, ibop])
          · refine t_run 4 rfl ?_
            refine t_call 4 k53_51 (by omega) (Nat.le_of_ble_eq_true rfl) rfl (Nat.le_of_ble_eq_true rfl) (Nat.le_of_ble_eq_true rfl) (recv_ok rfl (by first | assumption | exact Nat.le_of_ble_eq_true rfl | omega)) rfl (c_strg hn hl hp (by omega) (by omega)) rfl ?_
            refine t_if_eq k53_54 (fun h54 => ?_) (fun h54 => ?_)
            · refine t_run 2 rfl ?_
              exact ih (i + 1) _ _ (nI_1 i) (by omega) (by omega) (by (try simp only [b2i0] at *); simp_all [bset, offr, ibop])
            · refine t_run 8 rfl ?_
              exact ih (i + 1) _ _ (nI_1 i) (by omega) (by omega) (by (try simp only [b2i0] at *); simp_all [bset, offr, ibop])
theorem c_offer (hn : n < 27) (hl : l < 2) (hP : F 9 l 10 = nI P) (hP6 : P ≤ 6) (hp : p < 6) (hd : 2 ≤ d) : Tm E d 53 0 [some (vr 25 n), some (vr 9 l), some (vi (nI p)), some (vi st), none, none] [] (cC x) F G (Rs b) (some (vi (bset (offr (F 13 l) (F 16 l) (F 26 n) (F 27 n) (F 28 n) (F 9 l 11) (F 25 n 3) p st) P))) (cC x, F, G, Rs b) := by
  refine t_run 4 rfl ?_
  exact l_offer hn hl hP hP6 hp hd (P + 1) 0 _ _ rfl (by omega) (by omega) rfl
theorem l_crowd (hn : n < 27) (hl : l < 2) (hP : F 9 l 10 = nI P) (hP6 : P ≤ 6) (hp : p < 6) (hq : q < 6) : ∀ (r : Nat) (i : Nat) (acc iv : Int32), iv = nI i → i ≤ P → P < i + r → acc = crd (F 26 n) p q i → Tm E d 57 6 [some (vr 25 n), some (vr 9 l), some (vi (nI p)), some (vi (nI q)), some (vi acc), some (vi iv)] [] (cC x) F G (Rs b) (some (vi (crd (F 26 n) p q P))) (cC x, F, G, Rs b) := by
  intro r
  induction r with
  | zero => intros; omega
  | succ r ih =>
    intro i acc iv hiv hi hr ha
    subst hiv
    refine t_run 2 rfl ?_
    refine t_gI k57_9 (by first | assumption | exact Nat.le_of_ble_eq_true rfl | omega) ⟨rfl, rfl, Or.inl rfl⟩ ?_
    refine t_ic_ge k57_12 (fun h12 => ?_) (fun h12 => ?_)
    · have h12 := ge_nI h12 hP (by omega) (by omega)
      have hip : i = P := by omega
      subst hip
      refine t_run 1 rfl ?_
      exact t_ir k57_54 rfl (by exact ha)
    · have h12 := lt_nI h12 hP (by omega) (by omega)
      refine t_run 2 rfl ?_
      refine t_ic_eq k57_18 (fun h18 => ?_) (fun h18 => ?_)
      · have h18 := nI_inj h18 (by omega) (by omega)
        refine t_run 2 rfl ?_
        exact ih (i + 1) _ _ (nI_1 i) (by omega) (by omega) (by simp_all [crd])
      · have h18 := nI_ne h18
        refine t_run 2 rfl ?_
        refine t_ic_eq k57_24 (fun h24 => ?_) (fun h24 => ?_)
        · have h24 := nI_inj h24 (by omega) (by omega)
          refine t_run 2 rfl ?_
          exact ih (i + 1) _ _ (nI_1 i) (by omega) (by omega) (by simp_all [crd])
        · have h24 := nI_ne h24
          refine t_run 1 rfl ?_
          refine t_gR k57_28 (by first | assumption | exact Nat.le_of_ble_eq_true rfl | omega) ⟨rfl, rfl, rfl⟩ rfl ?_
          refine t_run 1 rfl ?_
          refine t_ia (N := 6) k57_33 (by decide) (by first | assumption | exact Nat.le_of_ble_eq_true rfl | omega) ⟨⟨rfl, rfl⟩, rfl, rfl⟩ (by first | assumption | omega) rfl ?_
          refine t_run 1 rfl ?_
          refine t_gR k57_35 (by first | assumption | exact Nat.le_of_ble_eq_true rfl | omega) ⟨rfl, rfl, rfl⟩ rfl ?_
          refine t_run 1 rfl ?_
          refine t_ia (N := 6) k57_39 (by decide) (by first | assumption | exact Nat.le_of_ble_eq_true rfl | omega) ⟨⟨rfl, rfl⟩, rfl, rfl⟩ (by first | assumption | omega) rfl ?_
          refine t_ic_ne k57_40 (fun h40 => ?_) (fun h40 => ?_)
          · refine t_run 2 rfl ?_
            exact ih (i + 1) _ _ (nI_1 i) (by omega) (by omega) (by simp_all [crd])
          · refine t_run 3 rfl ?_
            exact ih (i + 1) _ _ (nI_1 i) (by omega) (by omega) (by simp_all [crd])
theorem c_crowd (hn : n < 27) (hl : l < 2) (hP : F 9 l 10 = nI P) (hP6 : P ≤ 6) (hp : p < 6) (hq : q < 6) : Tm E d 57 0 [some (vr 25 n), some (vr 9 l), some (vi (nI p)), some (vi (nI q)), none, none] [] (cC x) F G (Rs b) (some (vi (crd (F 26 n) p q P))) (cC x, F, G, Rs b) := by
  refine t_run 4 rfl ?_
  exact l_crowd hn hl hP hP6 hp hq (P + 1) 0 _ _ rfl (by omega) (by omega) rfl
theorem c_repair (hn : n < 27) (hp : p < 6) : Tm E d 60 0 [some (vr 25 n), some (vi (nI p))] [] (cC x) F G (Rs b) none (cC x, uF (uF F 25 n 3 (F 25 n 3 &&& ((1 <<< (nI p &&& 31)) ^^^ (-1)))) 27 n p 1, G, Rs b) := by
  refine t_run 2 rfl ?_
  refine t_gI k60_2 (by first | assumption | exact Nat.le_of_ble_eq_true rfl | omega) ⟨rfl, rfl, Or.inl rfl⟩ ?_
  refine t_run 6 rfl ?_
  refine t_pI k60_11 (by first | assumption | exact Nat.le_of_ble_eq_true rfl | omega) ⟨rfl, rfl⟩ ?_
  refine t_run 1 rfl ?_
  refine t_gR k60_15 (by first | assumption | exact Nat.le_of_ble_eq_true rfl | omega) ⟨rfl, rfl, rfl⟩ rfl ?_
  refine t_run 2 rfl ?_
  refine t_is (N := 6) k60_20 (by first | assumption | exact Nat.le_of_ble_eq_true rfl | omega) ⟨rfl, rfl⟩ (by first | assumption | omega) rfl ?_
  exact t_ret k60_21
theorem c_walkIf (hn : n < 27) (hl : l < 2) (hp : p < 6) {a : Nat} (ha : F 26 n p = nI a) (ha5 : a < 5) (hd : 3 ≤ d) : Tm E d 55 0 [some (vr 25 n), some (vr 9 l), some (vi (nI p)), some (vi (nI q))] [] (cC x) F G (Rs b) (some (vi (b2i (cwk (F 11 l) (F 26 n) (F 27 n) (F 25 n 3) p q)))) (cC x, if cwk (F 11 l) (F 26 n) (F 27 n) (F 25 n 3) p q = true then uF F 26 n p (nI q) else F, G, Rs b) := by
  refine t_run 4 rfl ?_
  refine t_call 4 k55_4 (by omega) (Nat.le_of_ble_eq_true rfl) rfl (Nat.le_of_ble_eq_true rfl) (Nat.le_of_ble_eq_true rfl) (recv_ok rfl (by first | assumption | exact Nat.le_of_ble_eq_true rfl | omega)) rfl (c_canWalk hn hl hp ha ha5 (by omega)) rfl ?_
  refine t_if_ne k55_7 (fun h7 => ?_) (fun h7 => ?_)
  · rw [b2i0, Bool.not_eq_false] at h7
    rw [if_pos h7]
    refine t_run 1 rfl ?_
    refine t_gR k55_13 (by first | assumption | exact Nat.le_of_ble_eq_true rfl | omega) ⟨rfl, rfl, rfl⟩ rfl ?_
    refine t_run 2 rfl ?_
    refine t_is (N := 6) k55_18 (by first | assumption | exact Nat.le_of_ble_eq_true rfl | omega) ⟨rfl, rfl⟩ (by first | assumption | omega) rfl ?_
    refine t_run 1 rfl ?_
    exact t_ib k55_20 (by (try simp only [b2i0] at *); simp_all [b2i])
  · rw [b2i0] at h7
    rw [if_neg (by simp [h7])]
    refine t_run 1 rfl ?_
    exact t_ib k55_11 (by (try simp only [b2i0] at *); simp_all [b2i])
end S2
