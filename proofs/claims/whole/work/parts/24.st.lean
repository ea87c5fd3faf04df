/-! STATES: plain functions of rows, and the class's State methods -/
def b2i (b : Bool) : Int32 := if b then 1 else 0
theorem b2i_01 (b : Bool) : b2i b = 0 ∨ b2i b = 1 := by cases b <;> simp [b2i]
def bit (x : Int32) (p : Nat) : Bool := decide (¬ (x >>> (nI p &&& 31)) &&& 1 = 0)
section T2
variable {E : EV} {d m pc a b q x : Nat} {z : PV} {L : LL} {C : CT} {F : FT} {G : GT} {R : RT} {u v : Int32}
theorem t_ir (hc : cod m pc = some (36, a, b, z, q)) (hk : okr a u = true) (e : u = v) : Tm E d m pc L [vi u] C F G R (some (vi v)) (C, F, G, R) := by
  subst e
  exact t_iret hc hk
theorem t_ib {w : Bool} (hc : cod m pc = some (36, 2, b, z, q)) (e : u = b2i w) : Tm E d m pc L [vi u] C F G R (some (vi (b2i w))) (C, F, G, R) := by
  subst e
  exact t_iret hc (by simp only [okr, decide_eq_true_eq]; exact b2i_01 w)
end T2
section SS
variable {E : EV} {d n p x l q : Nat} {F : FT} {G : GT} {b : Bool}
theorem c_isSnapped (hn : n < 27) : Tm E d 46 0 [some (vr 25 n), some (vi (nI p))] [] (cC x) F G (Rs b) (some (vi (b2i (bit (F 25 n 3) p)))) (cC x, F, G, Rs b) := by
  refine t_run 1 rfl ?_
  refine t_gI k46_1 hn ⟨rfl, rfl, Or.inl rfl⟩ ?_
  refine t_run 4 rfl ?_
  refine t_if_eq k46_8 (fun h => ?_) (fun h => ?_)
  · refine t_run 1 rfl ?_
    exact t_ib k46_16 (by simp only [ibop] at h; simp [b2i, bit, h])
  · refine t_run 2 rfl ?_
    exact t_ib k46_16 (by simp only [ibop] at h; simp [b2i, bit, h])
def sit (lf : Nat → Int32) (sn : Int32) (p : Nat) : Bool := decide (lf p = 0) || bit sn p
theorem c_sits (hn : n < 27) (hp : p < 6) (hd : 1 ≤ d) : Tm E d 47 0 [some (vr 25 n), some (vi (nI p))] [] (cC x) F G (Rs b) (some (vi (b2i (sit (F 27 n) (F 25 n 3) p)))) (cC x, F, G, Rs b) := by
  refine t_run 1 rfl ?_
  refine t_gR k47_1 hn ⟨rfl, rfl, rfl⟩ rfl ?_
  refine t_run 1 rfl ?_
  refine t_ia k47_5 (by decide) hn ⟨⟨rfl, rfl⟩, rfl, rfl⟩ hp rfl ?_
  refine t_if_eq k47_6 (fun h => ?_) (fun h => ?_)
  · refine t_run 2 rfl ?_
    exact t_ib k47_22 (by simp [b2i, sit, h])
  · refine t_run 2 rfl ?_
    refine t_call 2 k47_11 (by omega) (Nat.le_of_ble_eq_true rfl) rfl (Nat.le_of_ble_eq_true rfl) (Nat.le_of_ble_eq_true rfl) (recv_ok rfl hn) rfl (c_isSnapped hn) rfl ?_
    refine t_if_eq k47_14 (fun h2 => ?_) (fun h2 => ?_)
    · refine t_run 1 rfl ?_
      exact t_ib k47_22 (by cases hb : bit (F 25 n 3) p <;> simp_all [b2i, sit])
    · refine t_run 2 rfl ?_
      exact t_ib k47_22 (by cases hb : bit (F 25 n 3) p <;> simp_all [b2i, sit])
end SS
