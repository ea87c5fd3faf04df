/-! THE LAW OF WINDINGS as the class holds it: codes behind what they work on -/
theorem sw_to {x : Int32} {lo : Int} {ts : List Nat} {df j : Nat} (h : x.toInt = lo + j) (hj : j < ts.length) : (if x.toInt < lo then df else (ts[(x.toInt - lo).toNat]?).getD df) = ts[j] := by
  rw [if_neg (by omega), show (x.toInt - lo).toNat = j by omega, List.getElem?_eq_getElem hj]
  rfl
theorem sw_out {x : Int32} {lo : Int} {ts : List Nat} {df : Nat} (h : x.toInt < lo ∨ lo + ts.length ≤ x.toInt) : (if x.toInt < lo then df else (ts[(x.toInt - lo).toNat]?).getD df) = df := by
  by_cases h1 : x.toInt < lo
  · rw [if_pos h1]
  · rw [if_neg h1, List.getElem?_eq_none (by omega)]
    rfl
theorem i32_of {x y : Int32} (h : x.toInt = y.toInt) : x = y := Int32.toInt_inj.mp h
def fct (c g t m w : Int32) : Int32 := if c = -1 then g else if c = -2 then t else if c = -3 then m else w
def jnd (c u v : Int32) : Int32 := if c = -6 then b2i (decide (¬ u = 0) && decide (¬ v = 0)) else if c = -7 then b2i (decide (¬ u = 0) || decide (¬ v = 0)) else if c = -8 then b2i (decide (u < v)) else if c = -9 then b2i (decide (u = v)) else if c = -10 then u + v else if c = -11 then u - v else u * v
section L1
variable {E : EV} {d x l : Nat} {F : FT} {G : GT} {b : Bool} {c t m w u v : Int32} {gg : Int32}
theorem c_fct : Tm E d 8 0 [some (vi c), some (vi gg), some (vi t), some (vi m), some (vi w)] [] (cC x) F G (Rs b) (some (vi (fct c gg t m w))) (cC x, F, G, Rs b) := by
  refine t_run 1 rfl ?_
  by_cases h1 : c = -1
  · subst h1
    refine t_sw k8_1 rfl (q1 := 28) (by decide) ?_
    refine t_run 1 rfl ?_
    exact t_ir k8_29 rfl (by simp [fct])
  · by_cases h2 : c = -2
    · subst h2
      refine t_sw k8_1 rfl (q1 := 30) (by decide) ?_
      refine t_run 1 rfl ?_
      exact t_ir k8_31 rfl (by simp [fct])
    · by_cases h3 : c = -3
      · subst h3
        refine t_sw k8_1 rfl (q1 := 32) (by decide) ?_
        refine t_run 1 rfl ?_
        exact t_ir k8_33 rfl (by simp [fct])
      · have e1 : c.toInt ≠ -1 := fun e => h1 (i32_of e)
        have e2 : c.toInt ≠ -2 := fun e => h2 (i32_of e)
        have e3 : c.toInt ≠ -3 := fun e => h3 (i32_of e)
        refine t_sw k8_1 rfl (q1 := 34) (sw_out (by simp only [List.length_cons, List.length_nil]; omega)) ?_
        refine t_run 1 rfl ?_
        exact t_ir k8_36 rfl (by simp [fct, h1, h2, h3])
theorem c_jnd : Tm E d 9 0 [some (vi c), some (vi u), some (vi v)] [] (cC x) F G (Rs b) (some (vi (jnd c u v))) (cC x, F, G, Rs b) := by
  refine t_run 1 rfl ?_
  by_cases h6 : c = -6
  · subst h6
    refine t_sw k9_1 rfl (q1 := 40) (by decide) ?_
    refine t_run 1 rfl ?_
    refine t_if_eq k9_41 (fun h41 => ?_) (fun h41 => ?_)
    · refine t_run 1 rfl ?_
      exact t_ir k9_53 rfl (by simp_all [jnd, b2i, ibop, Int32.not_lt])
    · refine t_run 1 rfl ?_
      refine t_if_eq k9_45 (fun h45 => ?_) (fun h45 => ?_)
      · refine t_run 1 rfl ?_
        exact t_ir k9_53 rfl (by simp_all [jnd, b2i, ibop, Int32.not_lt])
      · refine t_run 2 rfl ?_
        exact t_ir k9_53 rfl (by simp_all [jnd, b2i, ibop, Int32.not_lt])
  by_cases h7 : c = -7
  · subst h7
    refine t_sw k9_1 rfl (q1 := 54) (by decide) ?_
    refine t_run 1 rfl ?_
    refine t_if_ne k9_55 (fun h55 => ?_) (fun h55 => ?_)
    · refine t_run 2 rfl ?_
      exact t_ir k9_67 rfl (by simp_all [jnd, b2i, ibop, Int32.not_lt])
    · refine t_run 1 rfl ?_
      refine t_if_eq k9_59 (fun h59 => ?_) (fun h59 => ?_)
      · refine t_run 1 rfl ?_
        exact t_ir k9_67 rfl (by simp_all [jnd, b2i, ibop, Int32.not_lt])
      · refine t_run 2 rfl ?_
        exact t_ir k9_67 rfl (by simp_all [jnd, b2i, ibop, Int32.not_lt])
  by_cases h8 : c = -8
  · subst h8
    refine t_sw k9_1 rfl (q1 := 68) (by decide) ?_
    refine t_run 2 rfl ?_
    refine t_ic_ge k9_70 (fun h70 => ?_) (fun h70 => ?_)
    · refine t_run 1 rfl ?_
      exact t_ir k9_78 rfl (by simp_all [jnd, b2i, ibop, Int32.not_lt])
    · refine t_run 2 rfl ?_
      exact t_ir k9_78 rfl (by simp_all [jnd, b2i, ibop, Int32.not_lt])
  by_cases h9 : c = -9
  · subst h9
    refine t_sw k9_1 rfl (q1 := 79) (by decide) ?_
    refine t_run 2 rfl ?_
    refine t_ic_ne k9_81 (fun h81 => ?_) (fun h81 => ?_)
    · refine t_run 1 rfl ?_
      exact t_ir k9_89 rfl (by simp_all [jnd, b2i, ibop, Int32.not_lt])
    · refine t_run 2 rfl ?_
      exact t_ir k9_89 rfl (by simp_all [jnd, b2i, ibop, Int32.not_lt])
  by_cases h10 : c = -10
  · subst h10
    refine t_sw k9_1 rfl (q1 := 90) (by decide) ?_
    refine t_run 3 rfl ?_
    exact t_ir k9_93 rfl (by simp_all [jnd, b2i, ibop, Int32.not_lt])
  by_cases h11 : c = -11
  · subst h11
    refine t_sw k9_1 rfl (q1 := 94) (by decide) ?_
    refine t_run 3 rfl ?_
    exact t_ir k9_97 rfl (by simp_all [jnd, b2i, ibop, Int32.not_lt])
  have e6 : c.toInt ≠ -6 := fun e => h6 (i32_of e)
  have e7 : c.toInt ≠ -7 := fun e => h7 (i32_of e)
  have e8 : c.toInt ≠ -8 := fun e => h8 (i32_of e)
  have e9 : c.toInt ≠ -9 := fun e => h9 (i32_of e)
  have e10 : c.toInt ≠ -10 := fun e => h10 (i32_of e)
  have e11 : c.toInt ≠ -11 := fun e => h11 (i32_of e)
  refine t_sw k9_1 rfl (q1 := 98) (sw_out (by simp only [List.length_cons, List.length_nil]; omega)) ?_
  refine t_run 3 rfl ?_
  exact t_ir k9_101 rfl (by simp [jnd, h6, h7, h8, h9, h10, h11, ibop])
/-- a row of ints in place of a cell's -/
def srow (F : FT) (k n : Nat) (f : Nat → Int32) : FT := fun k' n' i' => if k' = k ∧ n' = n then f i' else F k' n' i'
theorem srow_u (F : FT) (k n i : Nat) (f : Nat → Int32) (v : Int32) : uF (srow F k n f) k n i v = srow F k n (upd f i v) := by
  funext k' n' i'
  simp only [uF, srow, upd]
  by_cases h : k' = k ∧ n' = n
  · obtain ⟨rfl, rfl⟩ := h
    by_cases h2 : i' = i <;> simp [h2]
  · simp only [h, if_false]
    rw [if_neg (fun q => h ⟨q.1, q.2.1⟩)]
theorem srow_self (F : FT) (k n : Nat) : srow F k n (F k n) = F := by
  funext k' n' i'
  simp only [srow]
  split
  · rename_i h
    rw [h.1, h.2]
  · rfl
/-- one code: how many wait, and what -/
def lst (g t m w c : Int32) (s : Nat × (Nat → Int32)) : Nat × (Nat → Int32) :=
  if -4 ≤ c ∧ s.1 < 32 then (s.1 + 1, upd s.2 s.1 (if 0 ≤ c then c else fct c g t m w))
  else if c = -5 ∧ 0 < s.1 then (s.1, upd s.2 (s.1 - 1) (if s.2 (s.1 - 1) = 0 then 1 else 0))
  else if c < -5 ∧ 1 < s.1 then (s.1 - 1, upd s.2 (s.1 - 2) (jnd c (s.2 (s.1 - 2)) (s.2 (s.1 - 1))))
  else s
def lrn (cs : Nat → Int32) (g t m w : Int32) (v0 : Nat → Int32) : Nat → Nat × (Nat → Int32)
  | 0 => (0, v0)
  | k + 1 => lst g t m w (cs k) (lrn cs g t m w v0 k)
theorem lrn_le {cs : Nat → Int32} {g t m w : Int32} {v0 : Nat → Int32} : ∀ k, (lrn cs g t m w v0 k).1 ≤ 32
  | 0 => Nat.zero_le _
  | k + 1 => by
    have ih := lrn_le (cs := cs) (g := g) (t := t) (m := m) (w := w) (v0 := v0) k
    simp only [lrn, lst]
    split
    · rename_i h
      exact h.2
    · split
      · exact ih
      · split
        · simp only; omega
        · exact ih
def lres (cs : Nat → Int32) (N : Nat) (g t m w : Int32) (v0 : Nat → Int32) : Int32 := if N = 0 then 30 - g else (lrn cs g t m w v0 N).2 0
def lrow (F : FT) (l N : Nat) (g t m w : Int32) : FT := srow F 18 l (lrn (F 17 l) g t m w (F 18 l) N).2
end L1
