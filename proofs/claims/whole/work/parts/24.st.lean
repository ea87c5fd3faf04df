/-! STATES: plain functions of rows, and the class's State methods -/
def b2i (b : Bool) : Int32 := if b then 1 else 0
theorem b2i_01 (b : Bool) : b2i b = 0 ∨ b2i b = 1 := by cases b <;> simp [b2i]
def bit (x : Int32) (p : Nat) : Bool := decide (¬ (x >>> (nI p &&& 31)) &&& 1 = 0)
section T2
variable {E : EV} {d m pc a b q x : Nat} {z : PV} {L : LL} {C : CT} {F : FT} {G : GT} {R : RT} {u v : Int32}
theorem t_ir (hc : cod m pc = some (36, a, b, z, q)) (hk : okr a u = true) (e : u = v) : Tm E d m pc L [vi u] C F G R (some (vi v)) (C, F, G, R) := by
  subst e
  exact t_iret hc hk
theorem t_ib {w : Bool} (hc : cod m pc = some (36, 2, b, z, q)) (e : u = b2i w) : Tm E d m pc L [vi u] C F G R (some (vi (b2i w))) (C, F, G, R) := by
  subst e
  exact t_iret hc (by simp only [okr, decide_eq_true_eq]; exact b2i_01 w)
end T2
theorem ge_nI {a b : Nat} {y : Int32} (h : y ≤ nI a) (hy : y = nI b) (ha : a ≤ 100000) (hb : b ≤ 100000) : b ≤ a := by
  subst hy
  exact (nI_leI (by omega) (by omega)).mp h
theorem lt_nI {a b : Nat} {y : Int32} (h : ¬ y ≤ nI a) (hy : y = nI b) (ha : a ≤ 100000) (hb : b ≤ 100000) : a < b := by
  subst hy
  apply Decidable.byContradiction
  intro h2
  exact h ((nI_leI (by omega) (by omega)).mpr (by omega))
theorem nI_inj {a b : Nat} (h : nI a = nI b) (ha : a ≤ 100000) (hb : b ≤ 100000) : a = b := (nI_eq (by omega) (by omega)).mp h
theorem ix6 (a b : Nat) : ibop 0 (ibop 2 (nI a) 6) (nI b) = nI (6 * a + b) := by
  show nI a * 6 + nI b = _
  rw [show (6 : Int32) = nI 6 from rfl, pk_mul, nI_add, Nat.mul_comm a 6]
/-- bits of those that are so -/
def bset (f : Nat → Bool) : Nat → Int32
  | 0 => 0
  | k + 1 => if f k then bset f k ||| (1 <<< (nI k &&& 31)) else bset f k
def isum (f : Nat → Int32) : Nat → Int32
  | 0 => 0
  | k + 1 => isum f k + f k
def sit (lf : Nat → Int32) (sn : Int32) (p : Nat) : Bool := decide (lf p = 0) || bit sn p
def tog (wd : Nat → Int32) (a b : Nat) : Int32 := wd (6 * a + b) + wd (6 * b + a)
def strg (kn wd : Nat → Int32) (so : Int32) (a b : Nat) : Bool := decide (a ≠ b) && !bit (kn a) b && decide (tog wd a b < so)
def cwk (ln at_ lf : Nat → Int32) (sn : Int32) (p q : Nat) : Bool := !sit lf sn p && bit (ln (at_ p).toNatClampNeg) q
def offr (ki kn at_ lf wd : Nat → Int32) (so sn : Int32) (p : Nat) (st : Int32) (o : Nat) : Bool := decide (at_ o = st) && decide (¬ ki o = 1) && !sit lf sn o && strg kn wd so p o
def cwd (ki kn at_ lf wd : Nat → Int32) (so sn : Int32) (w o : Nat) : Bool := decide (at_ w = at_ o) && decide (¬ ki w = 1) && !sit lf sn w && decide (¬ ki o = 3) && !bit sn o && strg kn wd so w o
def crd (at_ : Nat → Int32) (w o : Nat) : Nat → Int32
  | 0 => 0
  | k + 1 => if k ≠ w ∧ k ≠ o ∧ at_ k = at_ o then crd at_ w o k + 1 else crd at_ w o k
section SS
variable {E : EV} {d n p x l q w : Nat} {F : FT} {G : GT} {b : Bool} {P : Nat}
theorem c_isSnapped (hn : n < 27) : Tm E d 46 0 [some (vr 25 n), some (vi (nI p))] [] (cC x) F G (Rs b) (some (vi (b2i (bit (F 25 n 3) p)))) (cC x, F, G, Rs b) := by
  refine t_run 1 rfl ?_
  refine t_gI k46_1 (by first | assumption | exact Nat.le_of_ble_eq_true rfl | omega) ⟨rfl, rfl, Or.inl rfl⟩ ?_
  refine t_run 4 rfl ?_
  refine t_if_eq k46_8 (fun h8 => ?_) (fun h8 => ?_)
  · refine t_run 1 rfl ?_
    exact t_ib k46_16 (by simp only [ibop] at h8; simp [b2i, bit, h8])
  · refine t_run 2 rfl ?_
    exact t_ib k46_16 (by simp only [ibop] at h8; simp [b2i, bit, h8])
theorem c_sits (hn : n < 27) (hp : p < 6) (hd : 1 ≤ d) : Tm E d 47 0 [some (vr 25 n), some (vi (nI p))] [] (cC x) F G (Rs b) (some (vi (b2i (sit (F 27 n) (F 25 n 3) p)))) (cC x, F, G, Rs b) := by
  refine t_run 1 rfl ?_
  refine t_gR k47_1 (by first | assumption | exact Nat.le_of_ble_eq_true rfl | omega) ⟨rfl, rfl, rfl⟩ rfl ?_
  refine t_run 1 rfl ?_
  refine t_ia (N := 6) k47_5 (by decide) (by first | assumption | exact Nat.le_of_ble_eq_true rfl | omega) ⟨⟨rfl, rfl⟩, rfl, rfl⟩ (by first | assumption | omega) rfl ?_
  refine t_if_eq k47_6 (fun h6 => ?_) (fun h6 => ?_)
  · refine t_run 2 rfl ?_
    exact t_ib k47_22 (by first | (simp [b2i, sit, h6]; done) | (cases hb : bit (F 25 n 3) p <;> simp_all [b2i, sit]))
  · refine t_run 2 rfl ?_
    refine t_call 2 k47_11 (by omega) (Nat.le_of_ble_eq_true rfl) rfl (Nat.le_of_ble_eq_true rfl) (Nat.le_of_ble_eq_true rfl) (recv_ok rfl (by first | assumption | exact Nat.le_of_ble_eq_true rfl | omega)) rfl (c_isSnapped hn) rfl ?_
    refine t_if_eq k47_14 (fun h14 => ?_) (fun h14 => ?_)
    · refine t_run 1 rfl ?_
      exact t_ib k47_22 (by first | (simp [b2i, sit, h6]; done) | (cases hb : bit (F 25 n 3) p <;> simp_all [b2i, sit]))
    · refine t_run 2 rfl ?_
      exact t_ib k47_22 (by first | (simp [b2i, sit, h6]; done) | (cases hb : bit (F 25 n 3) p <;> simp_all [b2i, sit]))
theorem l_sitters (hn : n < 27) (hl : l < 2) (hP : F 9 l 10 = nI P) (hP6 : P ≤ 6) (hd : 2 ≤ d) : ∀ (r : Nat) (i : Nat) (acc iv : Int32), iv = nI i → i ≤ P → P < i + r → acc = bset (sit (F 27 n) (F 25 n 3)) i → Tm E d 48 4 [some (vr 25 n), some (vr 9 l), some (vi acc), some (vi iv)] [] (cC x) F G (Rs b) (some (vi (bset (sit (F 27 n) (F 25 n 3)) P))) (cC x, F, G, Rs b) := by
  intro r
  induction r with
  | zero => intros; omega
  | succ r ih =>
    intro i acc iv hiv hi hr ha
    subst hiv
    refine t_run 2 rfl ?_
    refine t_gI k48_6 (by first | assumption | exact Nat.le_of_ble_eq_true rfl | omega) ⟨rfl, rfl, Or.inl rfl⟩ ?_
    refine t_ic_ge k48_9 (fun h9 => ?_) (fun h9 => ?_)
    · have h9 := ge_nI h9 hP (by omega) (by omega)
      have hip : i = P := by omega
      subst hip
      refine t_run 1 rfl ?_
      exact t_ir k48_33 rfl (by exact ha)
    · have h9 := lt_nI h9 hP (by omega) (by omega)
      refine t_run 2 rfl ?_
      refine t_call 2 k48_14 (by omega) (Nat.le_of_ble_eq_true rfl) rfl (Nat.le_of_ble_eq_true rfl) (Nat.le_of_ble_eq_true rfl) (recv_ok rfl (by first | assumption | exact Nat.le_of_ble_eq_true rfl | omega)) rfl (c_sits hn (by omega) (by omega)) rfl ?_
      refine t_if_eq k48_17 (fun h17 => ?_) (fun h17 => ?_)
      · refine t_run 2 rfl ?_
        exact ih (i + 1) _ _ (nI_1 i) (by omega) (by omega) (by cases hb : sit (F 27 n) (F 25 n 3) i <;> simp_all [b2i, bset, ibop])
      · refine t_run 8 rfl ?_
        exact ih (i + 1) _ _ (nI_1 i) (by omega) (by omega) (by cases hb : sit (F 27 n) (F 25 n 3) i <;> simp_all [b2i, bset, ibop])
theorem c_sitters (hn : n < 27) (hl : l < 2) (hP : F 9 l 10 = nI P) (hP6 : P ≤ 6) (hd : 2 ≤ d) : Tm E d 48 0 [some (vr 25 n), some (vr 9 l), none, none] [] (cC x) F G (Rs b) (some (vi (bset (sit (F 27 n) (F 25 n 3)) P))) (cC x, F, G, Rs b) := by
  refine t_run 4 rfl ?_
  exact l_sitters hn hl hP hP6 hd (P + 1) 0 _ _ rfl (by omega) (by omega) rfl
theorem c_winds2 (hn : n < 27) (hp : p < 6) (hq : q < 6) : Tm E d 50 0 [some (vr 25 n), some (vi (nI p)), some (vi (nI q))] [] (cC x) F G (Rs b) (some (vi (tog (F 28 n) p q))) (cC x, F, G, Rs b) := by
  refine t_run 1 rfl ?_
  refine t_gR k50_1 (by first | assumption | exact Nat.le_of_ble_eq_true rfl | omega) ⟨rfl, rfl, rfl⟩ rfl ?_
  refine t_run 5 rfl ?_
  refine t_ia (N := 36) k50_10 (by decide) (by first | assumption | exact Nat.le_of_ble_eq_true rfl | omega) ⟨⟨rfl, rfl⟩, rfl, rfl⟩ (by first | assumption | omega) (ix6 p q) ?_
  refine t_run 1 rfl ?_
  refine t_gR k50_12 (by first | assumption | exact Nat.le_of_ble_eq_true rfl | omega) ⟨rfl, rfl, rfl⟩ rfl ?_
  refine t_run 5 rfl ?_
  refine t_ia (N := 36) k50_21 (by decide) (by first | assumption | exact Nat.le_of_ble_eq_true rfl | omega) ⟨⟨rfl, rfl⟩, rfl, rfl⟩ (by first | assumption | omega) (ix6 q p) ?_
  refine t_run 1 rfl ?_
  exact t_ir k50_23 rfl (by rfl)
theorem c_strg (hn : n < 27) (hl : l < 2) (hp : p < 6) (hq : q < 6) (hd : 1 ≤ d) : Tm E d 51 0 [some (vr 25 n), some (vr 9 l), some (vi (nI p)), some (vi (nI q))] [] (cC x) F G (Rs b) (some (vi (b2i (strg (F 16 l) (F 28 n) (F 9 l 11) p q)))) (cC x, F, G, Rs b) := by
  refine t_run 2 rfl ?_
  refine t_ic_eq k51_2 (fun h2 => ?_) (fun h2 => ?_)
  · have h2 := nI_inj h2 (by omega) (by omega)
    refine t_run 1 rfl ?_
    exact t_ib k51_36 (by simp_all [b2i, strg, bit, ibop, Int32.not_lt])
  · have h2 : p ≠ q := fun e => h2 (by rw [e])
    refine t_run 1 rfl ?_
    refine t_gR k51_6 (by first | assumption | exact Nat.le_of_ble_eq_true rfl | omega) ⟨rfl, rfl, rfl⟩ rfl ?_
    refine t_run 1 rfl ?_
    refine t_ia (N := 6) k51_10 (by decide) (by first | assumption | exact Nat.le_of_ble_eq_true rfl | omega) ⟨⟨rfl, rfl⟩, rfl, rfl⟩ (by first | assumption | omega) rfl ?_
    refine t_run 4 rfl ?_
    refine t_if_ne k51_15 (fun h15 => ?_) (fun h15 => ?_)
    · refine t_run 1 rfl ?_
      exact t_ib k51_36 (by simp_all [b2i, strg, bit, ibop, Int32.not_lt])
    · refine t_run 3 rfl ?_
      refine t_call 3 k51_21 (by omega) (Nat.le_of_ble_eq_true rfl) rfl (Nat.le_of_ble_eq_true rfl) (Nat.le_of_ble_eq_true rfl) (recv_ok rfl (by first | assumption | exact Nat.le_of_ble_eq_true rfl | omega)) rfl (c_winds2 hn hp hq) rfl ?_
      refine t_run 1 rfl ?_
      refine t_gI k51_25 (by first | assumption | exact Nat.le_of_ble_eq_true rfl | omega) ⟨rfl, rfl, Or.inl rfl⟩ ?_
      refine t_ic_ge k51_28 (fun h28 => ?_) (fun h28 => ?_)
      · refine t_run 1 rfl ?_
        exact t_ib k51_36 (by simp_all [b2i, strg, bit, ibop, Int32.not_lt])
      · refine t_run 2 rfl ?_
        exact t_ib k51_36 (by simp_all [b2i, strg, bit, ibop, Int32.not_lt])
theorem l_strgOf (hn : n < 27) (hl : l < 2) (hP : F 9 l 10 = nI P) (hP6 : P ≤ 6) (hp : p < 6) (hd : 2 ≤ d) : ∀ (r : Nat) (i : Nat) (acc iv : Int32), iv = nI i → i ≤ P → P < i + r → acc = bset (strg (F 16 l) (F 28 n) (F 9 l 11) p) i → Tm E d 52 5 [some (vr 25 n), some (vr 9 l), some (vi (nI p)), some (vi acc), some (vi iv)] [] (cC x) F G (Rs b) (some (vi (bset (strg (F 16 l) (F 28 n) (F 9 l 11) p) P))) (cC x, F, G, Rs b) := by
  intro r
  induction r with
  | zero => intros; omega
  | succ r ih =>
    intro i acc iv hiv hi hr ha
    subst hiv
    refine t_run 2 rfl ?_
    refine t_gI k52_8 (by first | assumption | exact Nat.le_of_ble_eq_true rfl | omega) ⟨rfl, rfl, Or.inl rfl⟩ ?_
    refine t_ic_ge k52_11 (fun h11 => ?_) (fun h11 => ?_)
    · have h11 := ge_nI h11 hP (by omega) (by omega)
      have hip : i = P := by omega
      subst hip
      refine t_run 1 rfl ?_
      exact t_ir k52_39 rfl (by exact ha)
    · have h11 := lt_nI h11 hP (by omega) (by omega)
      refine t_run 4 rfl ?_
      refine t_call 4 k52_19 (by omega) (Nat.le_of_ble_eq_true rfl) rfl (Nat.le_of_ble_eq_true rfl) (Nat.le_of_ble_eq_true rfl) (recv_ok rfl (by first | assumption | exact Nat.le_of_ble_eq_true rfl | omega)) rfl (c_strg hn hl hp (by omega) (by omega)) rfl ?_
      refine t_if_eq k52_22 (fun h22 => ?_) (fun h22 => ?_)
      · refine t_run 2 rfl ?_
        exact ih (i + 1) _ _ (nI_1 i) (by omega) (by omega) (by cases hb : strg (F 16 l) (F 28 n) (F 9 l 11) p i <;> simp_all [b2i, bset, ibop])
      · refine t_run 8 rfl ?_
        exact ih (i + 1) _ _ (nI_1 i) (by omega) (by omega) (by cases hb : strg (F 16 l) (F 28 n) (F 9 l 11) p i <;> simp_all [b2i, bset, ibop])
theorem c_strgOf (hn : n < 27) (hl : l < 2) (hP : F 9 l 10 = nI P) (hP6 : P ≤ 6) (hp : p < 6) (hd : 2 ≤ d) : Tm E d 52 0 [some (vr 25 n), some (vr 9 l), some (vi (nI p)), none, none] [] (cC x) F G (Rs b) (some (vi (bset (strg (F 16 l) (F 28 n) (F 9 l 11) p) P))) (cC x, F, G, Rs b) := by
  refine t_run 4 rfl ?_
  exact l_strgOf hn hl hP hP6 hp hd (P + 1) 0 _ _ rfl (by omega) (by omega) rfl
end SS
