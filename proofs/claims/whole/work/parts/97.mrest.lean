/-! rests() of the reference -/
def getB (a c e k l : Int32) : Int32 := if k = 1 then (if l = 1 then a else -c) else (if l = 1 then e else 0)
section TQ
variable {E : EV} {d x : Nat} {F : FT} {G : GT} {b : Bool} {o : SG} {a c e k l : Int32}
theorem e_getsBy : Tm E d 229 0 [some (vi a), some (vi c), some (vi e), some (vi k), some (vi l)] [] (cC x) F G (Rs b) (some (vi (getB a c e k l))) (cC x, F, G, Rs b) := by
  refine t_run 2 rfl ?_
  refine t_ic_ne k229_2 (fun h2 => ?_) (fun h2 => ?_)
  · refine t_run 2 rfl ?_
    refine t_ic_ne k229_23 (fun h23 => ?_) (fun h23 => ?_)
    · refine t_run 1 rfl ?_
      exact t_ir k229_31 rfl (by simp [getB, *])
    · refine t_run 2 rfl ?_
      exact t_ir k229_31 rfl (by simp [getB, *])
  · refine t_run 2 rfl ?_
    refine t_ic_ne k229_8 (fun h8 => ?_) (fun h8 => ?_)
    · refine t_run 3 rfl ?_
      exact t_ir k229_31 rfl (by simp [getB, *])
    · refine t_run 2 rfl ?_
      exact t_ir k229_31 rfl (by simp [getB, *])
def stb (a c e p q : Int32) : Bool := decide (getB a c e (ibop 1 1 p) q ≤ getB a c e p q) && decide (getB a c e (ibop 1 1 q) p ≤ getB a c e q p)
def rsG (a c e w : Int32) : List (Int32 × Int32 × Int32) → Int32 → Int32 × Int32
  | [], n => if w = -1 then (n, 0) else (0, 1)
  | (i, p, q) :: r, n => if stb a c e p q = true then (if n = w then (i, 0) else rsG a c e w r (n + 1)) else rsG a c e w r n
theorem rsG_no {w i p q n : Int32} {r : List (Int32 × Int32 × Int32)} (h : stb a c e p q = false) : rsG a c e w ((i, p, q) :: r) n = rsG a c e w r n := by
  show (if stb a c e p q = true then _ else _) = _
  rw [if_neg (by rw [h]; decide)]
theorem rsG_at {w i p q n : Int32} {r : List (Int32 × Int32 × Int32)} (h : stb a c e p q = true) (hn : n = w) : rsG a c e w ((i, p, q) :: r) n = (i, 0) := by
  show (if stb a c e p q = true then _ else _) = _
  rw [if_pos h, if_pos hn]
theorem rsG_go {w i p q n : Int32} {r : List (Int32 × Int32 × Int32)} (h : stb a c e p q = true) (hn : ¬ n = w) : rsG a c e w ((i, p, q) :: r) n = rsG a c e w r (n + 1) := by
  show (if stb a c e p q = true then _ else _) = _
  rw [if_pos h, if_neg hn]
def RsQ (F : FT) (G : GT) (f : Int32) (F2 : FT) (G2 : GT) : Prop := G2 = G ∧ FrK d40 F F2 ∧ (∀ i, i ≠ 0 → F2 40 0 i = F 40 0 i) ∧ F2 40 0 0 = f
theorem rs4 {w n v7 v8 : Int32} (hd : 2 ≤ d) (h0 : F 40 0 0 = 0) : Td E d 230 61 [some (vr 40 0), some (vi a), some (vi c), some (vi e), some (vi w), some (vi n), some (vi 4), some (vi v7), some (vi v8)] [] x F G b (some (vi (rsG a c e w [] n).1)) (RsQ F G (rsG a c e w [] n).2) := by
  by_cases hw : w = -1
  · rw [show rsG a c e w [] n = (n, 0) by simp only [rsG]; rw [if_pos hw]]
    refine d_run 2 rfl ?_
    refine d_ic_ge k230_64 (fun h64 => ?_) (fun h64 => ?_)
    · refine d_run 3 rfl ?_
      refine d_ic_ne k230_155 (fun h155 => ?_) (fun h155 => ?_)
      · exact absurd hw h155
      · refine d_run 2 rfl ?_
        refine d_pI k230_163 (by first | assumption | exact Nat.le_of_ble_eq_true rfl | omega) ⟨rfl, rfl⟩ ?_
        refine d_run 2 rfl ?_
        refine d_ic_ne k230_169 (fun h169 => ?_) (fun h169 => ?_)
        · exact absurd hw h169
        · refine d_run 2 rfl ?_
          refine d_ir k230_178 rfl (by rfl) ?_
          exact ⟨rfl, FrK.rf.u rfl, fun i hi => uF_q (by omega), uF_e⟩
    · first | exact absurd h64 (by decide) | exact absurd (by decide) h64
  · rw [show rsG a c e w [] n = (0, 1) by simp only [rsG]; rw [if_neg hw]]
    refine d_run 2 rfl ?_
    refine d_ic_ge k230_64 (fun h64 => ?_) (fun h64 => ?_)
    · refine d_run 3 rfl ?_
      refine d_ic_ne k230_155 (fun h155 => ?_) (fun h155 => ?_)
      · refine d_run 1 rfl ?_
        refine d_pI k230_163 (by first | assumption | exact Nat.le_of_ble_eq_true rfl | omega) ⟨rfl, rfl⟩ ?_
        refine d_run 2 rfl ?_
        refine d_ic_ne k230_169 (fun h169 => ?_) (fun h169 => ?_)
        · refine d_run 1 rfl ?_
          refine d_ir k230_178 rfl (by rfl) ?_
          exact ⟨rfl, FrK.rf.u rfl, fun i hi => uF_q (by omega), uF_e⟩
        · exact absurd h169 hw
      · exact absurd h155 hw
    · first | exact absurd h64 (by decide) | exact absurd (by decide) h64
theorem rs3 {w n v7 v8 : Int32} (hd : 2 ≤ d) (h0 : F 40 0 0 = 0) : Td E d 230 61 [some (vr 40 0), some (vi a), some (vi c), some (vi e), some (vi w), some (vi n), some (vi 3), some (vi v7), some (vi v8)] [] x F G b (some (vi (rsG a c e w [(3, 1, 1)] n).1)) (RsQ F G (rsG a c e w [(3, 1, 1)] n).2) := by
  refine d_run 2 rfl ?_
  refine d_ic_ge k230_64 (fun h64 => ?_) (fun h64 => ?_)
  · first | exact absurd h64 (by decide) | exact absurd (by decide) h64
  · refine d_run 15 rfl ?_
    rw [show (3 : Int32) / 2 = 1 by decide, show (3 : Int32) - 1 * 2 = 1 by decide]
    refine d_callT 5 k230_88 (by omega) (Nat.le_of_ble_eq_true rfl) rfl (Nat.le_of_ble_eq_true rfl) (Nat.le_of_ble_eq_true rfl) recv_st rfl e_getsBy rfl ?_
    refine d_run 5 rfl ?_
    refine d_callT 5 k230_98 (by omega) (Nat.le_of_ble_eq_true rfl) rfl (Nat.le_of_ble_eq_true rfl) (Nat.le_of_ble_eq_true rfl) recv_st rfl e_getsBy rfl ?_
    refine d_ic_gt k230_101 (fun h101 => ?_) (fun h101 => ?_)
    · have eS : stb a c e 1 1 = false := by simp only [stb]; rw [decide_eq_false (Int32.not_le.mpr h101), Bool.false_and]
      rw [show rsG a c e w [(3, 1, 1)] n = rsG a c e w [] n from rsG_no eS]
      refine d_run 2 rfl ?_
      rw [show (3 : Int32) + 1 = 4 by decide]
      exact rs4 hd h0
    · refine d_run 7 rfl ?_
      refine d_callT 5 k230_113 (by omega) (Nat.le_of_ble_eq_true rfl) rfl (Nat.le_of_ble_eq_true rfl) (Nat.le_of_ble_eq_true rfl) recv_st rfl e_getsBy rfl ?_
      refine d_run 5 rfl ?_
      refine d_callT 5 k230_123 (by omega) (Nat.le_of_ble_eq_true rfl) rfl (Nat.le_of_ble_eq_true rfl) (Nat.le_of_ble_eq_true rfl) recv_st rfl e_getsBy rfl ?_
      refine d_ic_le k230_126 (fun h126 => ?_) (fun h126 => ?_)
      · have eS : stb a c e 1 1 = true := by simp only [stb, Bool.and_eq_true, decide_eq_true_eq]; exact ⟨Int32.not_lt.mp h101, h126⟩
        refine d_run 2 rfl ?_
        refine d_ic_ne k230_136 (fun h136 => ?_) (fun h136 => ?_)
        · rw [show rsG a c e w [(3, 1, 1)] n = rsG a c e w [] (n + 1) from rsG_go eS h136]
          refine d_run 3 rfl ?_
          rw [show (3 : Int32) + 1 = 4 by decide]
          exact rs4 hd h0
        · rw [show rsG a c e w [(3, 1, 1)] n = (3, 0) from rsG_at eS h136]
          refine d_run 1 rfl ?_
          refine d_ir k230_141 rfl (by rfl) ?_
          exact ⟨rfl, FrK.rf, fun _ _ => rfl, h0⟩
      · have eS : stb a c e 1 1 = false := by simp only [stb]; rw [decide_eq_false h126, Bool.and_false]
        rw [show rsG a c e w [(3, 1, 1)] n = rsG a c e w [] n from rsG_no eS]
        refine d_run 3 rfl ?_
        rw [show (3 : Int32) + 1 = 4 by decide]
        exact rs4 hd h0
theorem rs2 {w n v7 v8 : Int32} (hd : 2 ≤ d) (h0 : F 40 0 0 = 0) : Td E d 230 61 [some (vr 40 0), some (vi a), some (vi c), some (vi e), some (vi w), some (vi n), some (vi 2), some (vi v7), some (vi v8)] [] x F G b (some (vi (rsG a c e w [(2, 1, 0), (3, 1, 1)] n).1)) (RsQ F G (rsG a c e w [(2, 1, 0), (3, 1, 1)] n).2) := by
  refine d_run 2 rfl ?_
  refine d_ic_ge k230_64 (fun h64 => ?_) (fun h64 => ?_)
  · first | exact absurd h64 (by decide) | exact absurd (by decide) h64
  · refine d_run 15 rfl ?_
    rw [show (2 : Int32) / 2 = 1 by decide, show (2 : Int32) - 1 * 2 = 0 by decide]
    refine d_callT 5 k230_88 (by omega) (Nat.le_of_ble_eq_true rfl) rfl (Nat.le_of_ble_eq_true rfl) (Nat.le_of_ble_eq_true rfl) recv_st rfl e_getsBy rfl ?_
    refine d_run 5 rfl ?_
    refine d_callT 5 k230_98 (by omega) (Nat.le_of_ble_eq_true rfl) rfl (Nat.le_of_ble_eq_true rfl) (Nat.le_of_ble_eq_true rfl) recv_st rfl e_getsBy rfl ?_
    refine d_ic_gt k230_101 (fun h101 => ?_) (fun h101 => ?_)
    · have eS : stb a c e 1 0 = false := by simp only [stb]; rw [decide_eq_false (Int32.not_le.mpr h101), Bool.false_and]
      rw [show rsG a c e w [(2, 1, 0), (3, 1, 1)] n = rsG a c e w [(3, 1, 1)] n from rsG_no eS]
      refine d_run 2 rfl ?_
      rw [show (2 : Int32) + 1 = 3 by decide]
      exact rs3 hd h0
    · refine d_run 7 rfl ?_
      refine d_callT 5 k230_113 (by omega) (Nat.le_of_ble_eq_true rfl) rfl (Nat.le_of_ble_eq_true rfl) (Nat.le_of_ble_eq_true rfl) recv_st rfl e_getsBy rfl ?_
      refine d_run 5 rfl ?_
      refine d_callT 5 k230_123 (by omega) (Nat.le_of_ble_eq_true rfl) rfl (Nat.le_of_ble_eq_true rfl) (Nat.le_of_ble_eq_true rfl) recv_st rfl e_getsBy rfl ?_
      refine d_ic_le k230_126 (fun h126 => ?_) (fun h126 => ?_)
      · have eS : stb a c e 1 0 = true := by simp only [stb, Bool.and_eq_true, decide_eq_true_eq]; exact ⟨Int32.not_lt.mp h101, h126⟩
        refine d_run 2 rfl ?_
        refine d_ic_ne k230_136 (fun h136 => ?_) (fun h136 => ?_)
        · rw [show rsG a c e w [(2, 1, 0), (3, 1, 1)] n = rsG a c e w [(3, 1, 1)] (n + 1) from rsG_go eS h136]
          refine d_run 3 rfl ?_
          rw [show (2 : Int32) + 1 = 3 by decide]
          exact rs3 hd h0
        · rw [show rsG a c e w [(2, 1, 0), (3, 1, 1)] n = (2, 0) from rsG_at eS h136]
          refine d_run 1 rfl ?_
          refine d_ir k230_141 rfl (by rfl) ?_
          exact ⟨rfl, FrK.rf, fun _ _ => rfl, h0⟩
      · have eS : stb a c e 1 0 = false := by simp only [stb]; rw [decide_eq_false h126, Bool.and_false]
        rw [show rsG a c e w [(2, 1, 0), (3, 1, 1)] n = rsG a c e w [(3, 1, 1)] n from rsG_no eS]
        refine d_run 3 rfl ?_
        rw [show (2 : Int32) + 1 = 3 by decide]
        exact rs3 hd h0
theorem rs1 {w n v7 v8 : Int32} (hd : 2 ≤ d) (h0 : F 40 0 0 = 0) : Td E d 230 61 [some (vr 40 0), some (vi a), some (vi c), some (vi e), some (vi w), some (vi n), some (vi 1), some (vi v7), some (vi v8)] [] x F G b (some (vi (rsG a c e w [(1, 0, 1), (2, 1, 0), (3, 1, 1)] n).1)) (RsQ F G (rsG a c e w [(1, 0, 1), (2, 1, 0), (3, 1, 1)] n).2) := by
  refine d_run 2 rfl ?_
  refine d_ic_ge k230_64 (fun h64 => ?_) (fun h64 => ?_)
  · first | exact absurd h64 (by decide) | exact absurd (by decide) h64
  · refine d_run 15 rfl ?_
    rw [show (1 : Int32) / 2 = 0 by decide, show (1 : Int32) - 0 * 2 = 1 by decide]
    refine d_callT 5 k230_88 (by omega) (Nat.le_of_ble_eq_true rfl) rfl (Nat.le_of_ble_eq_true rfl) (Nat.le_of_ble_eq_true rfl) recv_st rfl e_getsBy rfl ?_
    refine d_run 5 rfl ?_
    refine d_callT 5 k230_98 (by omega) (Nat.le_of_ble_eq_true rfl) rfl (Nat.le_of_ble_eq_true rfl) (Nat.le_of_ble_eq_true rfl) recv_st rfl e_getsBy rfl ?_
    refine d_ic_gt k230_101 (fun h101 => ?_) (fun h101 => ?_)
    · have eS : stb a c e 0 1 = false := by simp only [stb]; rw [decide_eq_false (Int32.not_le.mpr h101), Bool.false_and]
      rw [show rsG a c e w [(1, 0, 1), (2, 1, 0), (3, 1, 1)] n = rsG a c e w [(2, 1, 0), (3, 1, 1)] n from rsG_no eS]
      refine d_run 2 rfl ?_
      rw [show (1 : Int32) + 1 = 2 by decide]
      exact rs2 hd h0
    · refine d_run 7 rfl ?_
      refine d_callT 5 k230_113 (by omega) (Nat.le_of_ble_eq_true rfl) rfl (Nat.le_of_ble_eq_true rfl) (Nat.le_of_ble_eq_true rfl) recv_st rfl e_getsBy rfl ?_
      refine d_run 5 rfl ?_
      refine d_callT 5 k230_123 (by omega) (Nat.le_of_ble_eq_true rfl) rfl (Nat.le_of_ble_eq_true rfl) (Nat.le_of_ble_eq_true rfl) recv_st rfl e_getsBy rfl ?_
      refine d_ic_le k230_126 (fun h126 => ?_) (fun h126 => ?_)
      · have eS : stb a c e 0 1 = true := by simp only [stb, Bool.and_eq_true, decide_eq_true_eq]; exact ⟨Int32.not_lt.mp h101, h126⟩
        refine d_run 2 rfl ?_
        refine d_ic_ne k230_136 (fun h136 => ?_) (fun h136 => ?_)
        · rw [show rsG a c e w [(1, 0, 1), (2, 1, 0), (3, 1, 1)] n = rsG a c e w [(2, 1, 0), (3, 1, 1)] (n + 1) from rsG_go eS h136]
          refine d_run 3 rfl ?_
          rw [show (1 : Int32) + 1 = 2 by decide]
          exact rs2 hd h0
        · rw [show rsG a c e w [(1, 0, 1), (2, 1, 0), (3, 1, 1)] n = (1, 0) from rsG_at eS h136]
          refine d_run 1 rfl ?_
          refine d_ir k230_141 rfl (by rfl) ?_
          exact ⟨rfl, FrK.rf, fun _ _ => rfl, h0⟩
      · have eS : stb a c e 0 1 = false := by simp only [stb]; rw [decide_eq_false h126, Bool.and_false]
        rw [show rsG a c e w [(1, 0, 1), (2, 1, 0), (3, 1, 1)] n = rsG a c e w [(2, 1, 0), (3, 1, 1)] n from rsG_no eS]
        refine d_run 3 rfl ?_
        rw [show (1 : Int32) + 1 = 2 by decide]
        exact rs2 hd h0
theorem rs0 {w n v7 v8 : Int32} (hd : 2 ≤ d) (h0 : F 40 0 0 = 0) : Td E d 230 61 [some (vr 40 0), some (vi a), some (vi c), some (vi e), some (vi w), some (vi n), some (vi 0), none, none] [] x F G b (some (vi (rsG a c e w [(0, 0, 0), (1, 0, 1), (2, 1, 0), (3, 1, 1)] n).1)) (RsQ F G (rsG a c e w [(0, 0, 0), (1, 0, 1), (2, 1, 0), (3, 1, 1)] n).2) := by
  refine d_run 2 rfl ?_
  refine d_ic_ge k230_64 (fun h64 => ?_) (fun h64 => ?_)
  · first | exact absurd h64 (by decide) | exact absurd (by decide) h64
  · refine d_run 15 rfl ?_
    rw [show (0 : Int32) / 2 = 0 by decide, show (0 : Int32) - 0 * 2 = 0 by decide]
    refine d_callT 5 k230_88 (by omega) (Nat.le_of_ble_eq_true rfl) rfl (Nat.le_of_ble_eq_true rfl) (Nat.le_of_ble_eq_true rfl) recv_st rfl e_getsBy rfl ?_
    refine d_run 5 rfl ?_
    refine d_callT 5 k230_98 (by omega) (Nat.le_of_ble_eq_true rfl) rfl (Nat.le_of_ble_eq_true rfl) (Nat.le_of_ble_eq_true rfl) recv_st rfl e_getsBy rfl ?_
    refine d_ic_gt k230_101 (fun h101 => ?_) (fun h101 => ?_)
    · have eS : stb a c e 0 0 = false := by simp only [stb]; rw [decide_eq_false (Int32.not_le.mpr h101), Bool.false_and]
      rw [show rsG a c e w [(0, 0, 0), (1, 0, 1), (2, 1, 0), (3, 1, 1)] n = rsG a c e w [(1, 0, 1), (2, 1, 0), (3, 1, 1)] n from rsG_no eS]
      refine d_run 2 rfl ?_
      rw [show (0 : Int32) + 1 = 1 by decide]
      exact rs1 hd h0
    · refine d_run 7 rfl ?_
      refine d_callT 5 k230_113 (by omega) (Nat.le_of_ble_eq_true rfl) rfl (Nat.le_of_ble_eq_true rfl) (Nat.le_of_ble_eq_true rfl) recv_st rfl e_getsBy rfl ?_
      refine d_run 5 rfl ?_
      refine d_callT 5 k230_123 (by omega) (Nat.le_of_ble_eq_true rfl) rfl (Nat.le_of_ble_eq_true rfl) (Nat.le_of_ble_eq_true rfl) recv_st rfl e_getsBy rfl ?_
      refine d_ic_le k230_126 (fun h126 => ?_) (fun h126 => ?_)
      · have eS : stb a c e 0 0 = true := by simp only [stb, Bool.and_eq_true, decide_eq_true_eq]; exact ⟨Int32.not_lt.mp h101, h126⟩
        refine d_run 2 rfl ?_
        refine d_ic_ne k230_136 (fun h136 => ?_) (fun h136 => ?_)
        · rw [show rsG a c e w [(0, 0, 0), (1, 0, 1), (2, 1, 0), (3, 1, 1)] n = rsG a c e w [(1, 0, 1), (2, 1, 0), (3, 1, 1)] (n + 1) from rsG_go eS h136]
          refine d_run 3 rfl ?_
          rw [show (0 : Int32) + 1 = 1 by decide]
          exact rs1 hd h0
        · rw [show rsG a c e w [(0, 0, 0), (1, 0, 1), (2, 1, 0), (3, 1, 1)] n = (0, 0) from rsG_at eS h136]
          refine d_run 1 rfl ?_
          refine d_ir k230_141 rfl (by rfl) ?_
          exact ⟨rfl, FrK.rf, fun _ _ => rfl, h0⟩
      · have eS : stb a c e 0 0 = false := by simp only [stb]; rw [decide_eq_false h126, Bool.and_false]
        rw [show rsG a c e w [(0, 0, 0), (1, 0, 1), (2, 1, 0), (3, 1, 1)] n = rsG a c e w [(1, 0, 1), (2, 1, 0), (3, 1, 1)] n from rsG_no eS]
        refine d_run 3 rfl ?_
        rw [show (0 : Int32) + 1 = 1 by decide]
        exact rs1 hd h0
def g_rests (a c e w : Int32) : Bool := isW2 a 0 9 && (isW2 c 0 9 && (isW2 e 0 9 && decide (-1 ≤ w)))
def rsA (a c e w : Int32) : Int32 × Int32 := if g_rests a c e w = true then rsG a c e w [(0, 0, 0), (1, 0, 1), (2, 1, 0), (3, 1, 1)] 0 else (0, 1)
theorem RsQ.u {F2 : FT} {G2 : GT} {f v : Int32} (h : RsQ (uF F 40 0 0 v) G f F2 G2) : RsQ F G f F2 G2 := ⟨h.1, (FrK.rf.u rfl).tr h.2.1, fun i hi => (h.2.2.1 i hi).trans (uF_q (by omega)), h.2.2.2⟩
end TQ
