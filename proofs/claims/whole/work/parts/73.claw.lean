/-! THE LAW READ BY THE CLASS -/
def COL (t : TP) (l : Nat) (F : FT) (G : GT) (B : LB) (r : Nat ⊕ RA) (F2 : FT) (G2 : GT) : Prop := match r with
  | .inl f => F2 5 0 7 = nI f ∧ CFr l F G F2 G2
  | .inr r => CRd F2 G2 t r.1 ∧ CLb F2 G2 l (setC B r.2.2.1 r.2.2.2 r.2.1) ∧ CFr l F G F2 G2
theorem COL.tr {t : TP} {l : Nat} {F F1 F2 : FT} {G G1 G2 : GT} {B : LB} {z : Nat ⊕ RA} (h : CFr l F G F1 G1) (h2 : COL t l F1 G1 B z F2 G2) : COL t l F G B z F2 G2 := by
  cases z with
  | inl f => exact ⟨h2.1, h.tr h2.2⟩
  | inr r => exact ⟨h2.1, h2.2.1, h.tr h2.2.2⟩
theorem CLb.fc {F : FT} {G : GT} {l : Nat} {B : LB} {pc fc fc2 : List Int32} {D D2 : LWT} (h : CLb F G l (setC B pc fc D)) : CLb F G l (setC B pc fc2 D2) := h
def RdP (E : EV) (x : Nat) (b : Bool) (t : TP) (l : Nat) (B : LB) (n : Nat) : Prop := ∀ (m lvl dep : Nat) (r : RA) (z : Nat ⊕ RA), rdL t n m lvl dep r = some z → lvl ≤ 4 → (m ≠ 0 → lvl ≤ 3) → dep ≤ 5 → r.1 ≤ t.1 → r.2.2.1.length ≤ r.1 → ∀ (d : Nat) (F : FT) (G : GT), CRd F G t r.1 → CLb F G l (setC B r.2.2.1 r.2.2.2 r.2.1) →
  (m = 0 → lvl < 4 → 26 + 6 * (6 - dep) ≤ d + lvl → Td E d 12 0 [some (vr 8 0), some (vi (nI lvl)), some (vi (nI dep)), some (vr 9 l), none, none] [] x F G b (some (vi (b2i (okB z)))) (COL t l F G B z)) ∧
  (m = 0 → lvl = 4 → 21 + 6 * (6 - dep) ≤ d → Td E d 13 0 [some (vr 8 0), some (vi (nI dep)), some (vr 9 l), none, none, none] [] x F G b (some (vi (b2i (okB z)))) (COL t l F G B z)) ∧
  (m ≠ 0 → 26 + 6 * (6 - dep) ≤ d + lvl → ∀ i, i ≤ r.1 → Td E d 12 29 [some (vr 8 0), some (vi (nI lvl)), some (vi (nI dep)), some (vr 9 l), some (vi (nI i)), none] [] x F G b (some (vi (b2i (okB z)))) (COL t l F G B z))
section T5
variable {E : EV} {d x p l n : Nat} {F : FT} {G : GT} {b : Bool} {t : TP} {B : LB} {u v w : Int32}
theorem c_vcode (hd : 6 ≤ d) (h : CRd F G t p) : Tm E d 14 0 [some (vr 8 0)] [] (cC x) F G (Rs b) (some (vi (vcode t p))) (cC x, F, G, Rs b) := by
  have hk4 := tK_4 (t := t) (p := p)
  refine t_run 1 rfl ?_
  refine t_gR k14_1 (by first | assumption | exact Nat.le_of_ble_eq_true rfl | omega) ⟨rfl, rfl, rfl⟩ rfl ?_
  refine t_gI k14_4 (by first | assumption | exact Nat.le_of_ble_eq_true rfl | omega) ⟨rfl, rfl, Or.inl rfl⟩ ?_
  rw [h.2.2.1]
  refine t_run 1 rfl ?_
  refine t_ic_ne k14_8 (fun h8 => ?_) (fun h8 => ?_)
  · have e8 : ¬ tK t p = 2 := fun e => h8 (by rw [e]; rfl)
    refine t_run 1 rfl ?_
    refine t_gR k14_20 (by first | assumption | exact Nat.le_of_ble_eq_true rfl | omega) ⟨rfl, rfl, rfl⟩ rfl ?_
    refine t_run 1 rfl ?_
    refine t_call 2 k14_25 (by omega) (Nat.le_of_ble_eq_true rfl) rfl (Nat.le_of_ble_eq_true rfl) (Nat.le_of_ble_eq_true rfl) (recv_ok rfl (by first | assumption | exact Nat.le_of_ble_eq_true rfl | omega)) rfl (c_isWd (n := 16) (by decide) (by decide) (by decide) (by omega) h) rfl ?_
    refine t_if_eq k14_28 (fun h28 => ?_) (fun h28 => ?_)
    · rw [b2i0] at h28
      refine t_run 1 rfl ?_
      refine t_gR k14_34 (by first | assumption | exact Nat.le_of_ble_eq_true rfl | omega) ⟨rfl, rfl, rfl⟩ rfl ?_
      refine t_run 1 rfl ?_
      refine t_call 2 k14_39 (by omega) (Nat.le_of_ble_eq_true rfl) rfl (Nat.le_of_ble_eq_true rfl) (Nat.le_of_ble_eq_true rfl) (recv_ok rfl (by first | assumption | exact Nat.le_of_ble_eq_true rfl | omega)) rfl (c_isWd (n := 17) (by decide) (by decide) (by decide) (by omega) h) rfl ?_
      refine t_if_eq k14_42 (fun h42 => ?_) (fun h42 => ?_)
      · rw [b2i0] at h42
        refine t_run 1 rfl ?_
        refine t_gR k14_49 (by first | assumption | exact Nat.le_of_ble_eq_true rfl | omega) ⟨rfl, rfl, rfl⟩ rfl ?_
        refine t_run 1 rfl ?_
        refine t_call 2 k14_54 (by omega) (Nat.le_of_ble_eq_true rfl) rfl (Nat.le_of_ble_eq_true rfl) (Nat.le_of_ble_eq_true rfl) (recv_ok rfl (by first | assumption | exact Nat.le_of_ble_eq_true rfl | omega)) rfl (c_isWd (n := 18) (by decide) (by decide) (by decide) (by omega) h) rfl ?_
        refine t_if_eq k14_57 (fun h57 => ?_) (fun h57 => ?_)
        · rw [b2i0] at h57
          refine t_run 1 rfl ?_
          refine t_gR k14_64 (by first | assumption | exact Nat.le_of_ble_eq_true rfl | omega) ⟨rfl, rfl, rfl⟩ rfl ?_
          refine t_run 1 rfl ?_
          refine t_call 2 k14_69 (by omega) (Nat.le_of_ble_eq_true rfl) rfl (Nat.le_of_ble_eq_true rfl) (Nat.le_of_ble_eq_true rfl) (recv_ok rfl (by first | assumption | exact Nat.le_of_ble_eq_true rfl | omega)) rfl (c_isWd (n := 19) (by decide) (by decide) (by decide) (by omega) h) rfl ?_
          refine t_if_eq k14_72 (fun h72 => ?_) (fun h72 => ?_)
          · rw [b2i0] at h72
            refine t_run 1 rfl ?_
            exact t_ir k14_82 rfl (by simp [vcode, *])
          · rw [b2i0, Bool.not_eq_false] at h72
            refine t_run 2 rfl ?_
            exact t_ir k14_82 rfl (by simp [vcode, *])
        · rw [b2i0, Bool.not_eq_false] at h57
          refine t_run 1 rfl ?_
          exact t_ir k14_62 rfl (by simp [vcode, *])
      · rw [b2i0, Bool.not_eq_false] at h42
        refine t_run 1 rfl ?_
        exact t_ir k14_47 rfl (by simp [vcode, *])
    · rw [b2i0, Bool.not_eq_false] at h28
      refine t_run 1 rfl ?_
      exact t_ir k14_32 rfl (by simp [vcode, *])
  · have e8 : tK t p = 2 := nI_inj (b := 2) h8 (by omega) (by omega)
    refine t_run 1 rfl ?_
    refine t_gR k14_12 (by first | assumption | exact Nat.le_of_ble_eq_true rfl | omega) ⟨rfl, rfl, rfl⟩ rfl ?_
    refine t_gI k14_15 (by first | assumption | exact Nat.le_of_ble_eq_true rfl | omega) ⟨rfl, rfl, Or.inl rfl⟩ ?_
    rw [h.2.2.2.2.2.2.1 e8]
    exact t_ir k14_18 rfl (by simp only [vcode]; rw [if_pos e8])
theorem c_jc0 (hd : 6 ≤ d) (h : CRd F G t p) : Tm E d 15 0 [some (vr 8 0), some (vi (nI 0))] [] (cC x) F G (Rs b) (some (vi (jc 0 t p))) (cC x, F, G, Rs b) := by
  refine t_run 1 rfl ?_
  refine t_sw k15_1 rfl (q1 := 28) (by decide) ?_
  refine t_run 1 rfl ?_
  refine t_gR k15_29 (by first | assumption | exact Nat.le_of_ble_eq_true rfl | omega) ⟨rfl, rfl, rfl⟩ rfl ?_
  refine t_run 1 rfl ?_
  refine t_call 2 k15_34 (by omega) (Nat.le_of_ble_eq_true rfl) rfl (Nat.le_of_ble_eq_true rfl) (Nat.le_of_ble_eq_true rfl) (recv_ok rfl (by first | assumption | exact Nat.le_of_ble_eq_true rfl | omega)) rfl (c_isWd (n := 20) (by decide) (by decide) (by decide) (by omega) h) rfl ?_
  refine t_if_eq k15_37 (fun h37 => ?_) (fun h37 => ?_)
  · rw [b2i0] at h37
    refine t_run 1 rfl ?_
    refine t_gR k15_46 (by first | assumption | exact Nat.le_of_ble_eq_true rfl | omega) ⟨rfl, rfl, rfl⟩ rfl ?_
    refine t_run 1 rfl ?_
    refine t_call 2 k15_51 (by omega) (Nat.le_of_ble_eq_true rfl) rfl (Nat.le_of_ble_eq_true rfl) (Nat.le_of_ble_eq_true rfl) (recv_ok rfl (by first | assumption | exact Nat.le_of_ble_eq_true rfl | omega)) rfl (c_isWd (n := 21) (by decide) (by decide) (by decide) (by omega) h) rfl ?_
    refine t_if_eq k15_54 (fun h54 => ?_) (fun h54 => ?_)
    · rw [b2i0] at h54
      refine t_run 1 rfl ?_
      exact t_ir k15_63 rfl (by simp [jc, *])
    · rw [b2i0, Bool.not_eq_false] at h54
      refine t_run 2 rfl ?_
      exact t_ir k15_63 rfl (by simp [jc, *])
  · rw [b2i0, Bool.not_eq_false] at h37
    refine t_run 2 rfl ?_
    exact t_ir k15_63 rfl (by simp [jc, *])
theorem c_jc1 (hd : 6 ≤ d) (h : CRd F G t p) : Tm E d 15 0 [some (vr 8 0), some (vi (nI 1))] [] (cC x) F G (Rs b) (some (vi (jc 1 t p))) (cC x, F, G, Rs b) := by
  refine t_run 1 rfl ?_
  refine t_sw k15_1 rfl (q1 := 64) (by decide) ?_
  refine t_run 1 rfl ?_
  refine t_gR k15_65 (by first | assumption | exact Nat.le_of_ble_eq_true rfl | omega) ⟨rfl, rfl, rfl⟩ rfl ?_
  refine t_run 1 rfl ?_
  refine t_call 2 k15_70 (by omega) (Nat.le_of_ble_eq_true rfl) rfl (Nat.le_of_ble_eq_true rfl) (Nat.le_of_ble_eq_true rfl) (recv_ok rfl (by first | assumption | exact Nat.le_of_ble_eq_true rfl | omega)) rfl (c_isSg (c := 60) (by decide) h) rfl ?_
  refine t_if_eq k15_73 (fun h73 => ?_) (fun h73 => ?_)
  · rw [b2i0] at h73
    refine t_run 1 rfl ?_
    refine t_gR k15_82 (by first | assumption | exact Nat.le_of_ble_eq_true rfl | omega) ⟨rfl, rfl, rfl⟩ rfl ?_
    refine t_run 1 rfl ?_
    refine t_call 2 k15_87 (by omega) (Nat.le_of_ble_eq_true rfl) rfl (Nat.le_of_ble_eq_true rfl) (Nat.le_of_ble_eq_true rfl) (recv_ok rfl (by first | assumption | exact Nat.le_of_ble_eq_true rfl | omega)) rfl (c_isSg (c := 61) (by decide) h) rfl ?_
    refine t_if_eq k15_90 (fun h90 => ?_) (fun h90 => ?_)
    · rw [b2i0] at h90
      refine t_run 1 rfl ?_
      exact t_ir k15_99 rfl (by simp [jc, *])
    · rw [b2i0, Bool.not_eq_false] at h90
      refine t_run 2 rfl ?_
      exact t_ir k15_99 rfl (by simp [jc, *])
  · rw [b2i0, Bool.not_eq_false] at h73
    refine t_run 2 rfl ?_
    exact t_ir k15_99 rfl (by simp [jc, *])
theorem c_jc2 (hd : 6 ≤ d) (h : CRd F G t p) : Tm E d 15 0 [some (vr 8 0), some (vi (nI 2))] [] (cC x) F G (Rs b) (some (vi (jc 2 t p))) (cC x, F, G, Rs b) := by
  refine t_run 1 rfl ?_
  refine t_sw k15_1 rfl (q1 := 100) (by decide) ?_
  refine t_run 1 rfl ?_
  refine t_gR k15_101 (by first | assumption | exact Nat.le_of_ble_eq_true rfl | omega) ⟨rfl, rfl, rfl⟩ rfl ?_
  refine t_run 1 rfl ?_
  refine t_call 2 k15_106 (by omega) (Nat.le_of_ble_eq_true rfl) rfl (Nat.le_of_ble_eq_true rfl) (Nat.le_of_ble_eq_true rfl) (recv_ok rfl (by first | assumption | exact Nat.le_of_ble_eq_true rfl | omega)) rfl (c_isSg (c := 43) (by decide) h) rfl ?_
  refine t_if_eq k15_109 (fun h109 => ?_) (fun h109 => ?_)
  · rw [b2i0] at h109
    refine t_run 1 rfl ?_
    refine t_gR k15_118 (by first | assumption | exact Nat.le_of_ble_eq_true rfl | omega) ⟨rfl, rfl, rfl⟩ rfl ?_
    refine t_run 1 rfl ?_
    refine t_call 2 k15_123 (by omega) (Nat.le_of_ble_eq_true rfl) rfl (Nat.le_of_ble_eq_true rfl) (Nat.le_of_ble_eq_true rfl) (recv_ok rfl (by first | assumption | exact Nat.le_of_ble_eq_true rfl | omega)) rfl (c_isSg (c := 45) (by decide) h) rfl ?_
    refine t_if_eq k15_126 (fun h126 => ?_) (fun h126 => ?_)
    · rw [b2i0] at h126
      refine t_run 1 rfl ?_
      exact t_ir k15_135 rfl (by simp [jc, *])
    · rw [b2i0, Bool.not_eq_false] at h126
      refine t_run 2 rfl ?_
      exact t_ir k15_135 rfl (by simp [jc, *])
  · rw [b2i0, Bool.not_eq_false] at h109
    refine t_run 2 rfl ?_
    exact t_ir k15_135 rfl (by simp [jc, *])
theorem c_jc3 (hd : 6 ≤ d) (h : CRd F G t p) : Tm E d 15 0 [some (vr 8 0), some (vi (nI 3))] [] (cC x) F G (Rs b) (some (vi (jc 3 t p))) (cC x, F, G, Rs b) := by
  refine t_run 1 rfl ?_
  refine t_sw k15_1 rfl (q1 := 136) (by decide) ?_
  refine t_run 1 rfl ?_
  refine t_gR k15_137 (by first | assumption | exact Nat.le_of_ble_eq_true rfl | omega) ⟨rfl, rfl, rfl⟩ rfl ?_
  refine t_run 1 rfl ?_
  refine t_call 2 k15_142 (by omega) (Nat.le_of_ble_eq_true rfl) rfl (Nat.le_of_ble_eq_true rfl) (Nat.le_of_ble_eq_true rfl) (recv_ok rfl (by first | assumption | exact Nat.le_of_ble_eq_true rfl | omega)) rfl (c_isSg (c := 42) (by decide) h) rfl ?_
  refine t_if_eq k15_145 (fun h145 => ?_) (fun h145 => ?_)
  · rw [b2i0] at h145
    refine t_run 1 rfl ?_
    exact t_ir k15_154 rfl (by simp [jc, *])
  · rw [b2i0, Bool.not_eq_false] at h145
    refine t_run 2 rfl ?_
    exact t_ir k15_154 rfl (by simp [jc, *])
theorem c_jc {lvl : Nat} (hl : lvl ≤ 3) (hd : 6 ≤ d) (h : CRd F G t p) : Tm E d 15 0 [some (vr 8 0), some (vi (nI lvl))] [] (cC x) F G (Rs b) (some (vi (jc lvl t p))) (cC x, F, G, Rs b) := by
  have e : lvl = 0 ∨ lvl = 1 ∨ lvl = 2 ∨ lvl = 3 := by omega
  rcases e with rfl | rfl | rfl | rfl
  · exact c_jc0 hd h
  · exact c_jc1 hd h
  · exact c_jc2 hd h
  · exact c_jc3 hd h
theorem c_addC {N : Nat} (hl : l < 2) (hN : F 9 l 13 = nI N) (hN1 : N < 1000) : Td E d 6 0 [some (vr 9 l), some (vi u)] [] x F G b none (fun F2 G2 => F2 = uF (uF F 17 l N u) 9 l 13 (nI (N + 1)) ∧ G2 = G) := by
  refine d_run 1 rfl ?_
  refine d_gI k6_1 (by first | assumption | exact lx2 _ | exact Nat.le_of_ble_eq_true rfl | omega | exact Nat.lt_of_lt_of_le (m := 2) (by omega) (Nat.le_of_ble_eq_true rfl)) ⟨rfl, rfl, Or.inl rfl⟩ ?_
  rw [hN]
  refine d_run 1 rfl ?_
  refine d_ic_ge k6_7 (fun h7 => ?_) (fun h7 => ?_)
  · exact absurd (ge_nI (b := 1000) h7 rfl (by omega) (by omega)) (by omega)
  · refine d_run 1 rfl ?_
    refine d_gR k6_11 (by first | assumption | exact lx2 _ | exact Nat.le_of_ble_eq_true rfl | omega | exact Nat.lt_of_lt_of_le (m := 2) (by omega) (Nat.le_of_ble_eq_true rfl)) ⟨rfl, rfl, rfl⟩ rfl ?_
    refine d_run 1 rfl ?_
    refine d_gI k6_15 (by first | assumption | exact lx2 _ | exact Nat.le_of_ble_eq_true rfl | omega | exact Nat.lt_of_lt_of_le (m := 2) (by omega) (Nat.le_of_ble_eq_true rfl)) ⟨rfl, rfl, Or.inl rfl⟩ ?_
    rw [hN]
    refine d_run 1 rfl ?_
    refine d_is (N := 1000) (j := N) k6_19 (by first | assumption | exact lx2 _ | exact Nat.le_of_ble_eq_true rfl | omega | exact Nat.lt_of_lt_of_le (m := 2) (by omega) (Nat.le_of_ble_eq_true rfl)) ⟨rfl, rfl⟩ (show N < 1000 by omega) rfl ?_
    refine d_run 2 rfl ?_
    refine d_gI k6_22 (by first | assumption | exact lx2 _ | exact Nat.le_of_ble_eq_true rfl | omega | exact Nat.lt_of_lt_of_le (m := 2) (by omega) (Nat.le_of_ble_eq_true rfl)) ⟨rfl, rfl, Or.inl rfl⟩ ?_
    rw [uF_k (by decide), hN]
    refine d_run 2 rfl ?_
    rw [show ibop 0 (nI N) 1 = nI (N + 1) from nI_1 N]
    refine d_pI k6_27 (by first | assumption | exact lx2 _ | exact Nat.le_of_ble_eq_true rfl | omega | exact Nat.lt_of_lt_of_le (m := 2) (by omega) (Nat.le_of_ble_eq_true rfl)) ⟨rfl, rfl⟩ ?_
    refine d_ret k6_30 ?_
    exact ⟨rfl, rfl⟩
theorem CLb.addC {pc fc fc2 : List Int32} {D D2 : LWT} {c : Int32} (h : CLb F G l (setC B pc fc D)) : CLb (uF (uF F 17 l pc.length c) 9 l 13 (nI (pc.length + 1))) G l (setC B (pc ++ [c]) fc2 D2) := by
  obtain ⟨c1, c2, c3, c4, c5, c6, c7, c8, c9, c10, c11, c12⟩ := h
  refine ⟨?_, ?_, ?_, ?_, ?_, fun i hi => ?_, fun i hi => ?_, c8, c9, fun i hi => ?_, ?_, ?_⟩
  · rw [uF_r, pk_un (by decide), uF_k (by decide)]; exact c1
  · rw [uF_r, pk_un (by decide), uF_k (by decide)]; exact c2
  · rw [uF_r, pk_un (by decide), uF_k (by decide)]; exact c3
  · rw [uF_r, pk_un (by decide), uF_k (by decide)]; exact c4
  · rw [uF_r, pk_us]
    show _ = nI (pc ++ [c]).length
    rw [List.length_append]
    rfl
  · rw [uF_k (by decide), uF_k (by decide)]; exact c6 i hi
  · rw [uF_k (by decide), uF_k (by decide), uF_k (by decide), uF_k (by decide), uF_k (by decide), uF_k (by decide), uF_k (by decide), uF_k (by decide)]
    exact c7 i hi
  · have hi : i < (pc ++ [c]).length := hi
    rw [uF_k (by decide), uF_r]
    show _ = (pc ++ [c])[i]
    by_cases e : i = pc.length
    · subst e
      rw [pk_us]
      simp
    · rw [pk_un e]
      rw [List.length_append, List.length_cons, List.length_nil] at hi
      rw [List.getElem_append_left (by omega)]
      exact c10 i (show i < pc.length by omega)
  · rw [uF_k (by decide), uF_k (by decide)]; exact c11
  · rw [uF_k (by decide), uF_k (by decide)]; exact c12
theorem not_vc {t : TP} {p : Nat} (h : isWd t p 15 = true) : vcode t p = -5 := by
  simp only [isWd, Bool.and_eq_true, decide_eq_true_eq] at h
  have ne : ∀ m, lets 15 ≠ lets m → isWd t p m = false := fun m hm => by
    simp only [isWd]
    rw [h.2, decide_eq_false hm, Bool.and_false]
  unfold vcode
  rw [if_neg (by omega), ne 16 (by decide), ne 17 (by decide), ne 18 (by decide), ne 19 (by decide)]
  rfl
/-- readFrom above the last level is readPart -/
theorem c_rf4 {dep : Nat} {z : Nat ⊕ RA} {Q : FT → GT → Prop} (hd : 1 ≤ d) (hl : l < 2) (h : Td E (d - 1) 13 0 [some (vr 8 0), some (vi (nI dep)), some (vr 9 l), none, none, none] [] x F G b (some (vi (b2i (okB z)))) Q) : Td E d 12 0 [some (vr 8 0), some (vi (nI 4)), some (vi (nI dep)), some (vr 9 l), none, none] [] x F G b (some (vi (b2i (okB z)))) Q := by
  refine d_run 2 rfl ?_
  refine d_ic_le k12_2 (fun h2 => ?_) (fun h2 => ?_)
  · exact absurd h2 (by decide)
  · refine d_run 3 rfl ?_
    refine d_call 3 k12_8 (by omega) (Nat.le_of_ble_eq_true rfl) rfl (Nat.le_of_ble_eq_true rfl) (Nat.le_of_ble_eq_true rfl) (recv_ok rfl (by first | assumption | exact Nat.le_of_ble_eq_true rfl | omega)) rfl h rfl ?_
    intro F1 G1 q1
    refine d_ib k12_11 (by rfl) ?_
    exact q1
theorem c_rfc (IH : RdP E x b t l B n) (hl : l < 2) {lvl dep : Nat} {r : RA} {z : Nat ⊕ RA} (hz : rdL t n 0 (lvl + 1) dep r = some z) (hlv : lvl ≤ 3) (hdp : dep ≤ 5) (hp : r.1 ≤ t.1) (hln : r.2.2.1.length ≤ r.1) (hd : 26 + 6 * (6 - dep) ≤ d + (lvl + 1)) (h : CRd F G t r.1) (hB : CLb F G l (setC B r.2.2.1 r.2.2.2 r.2.1)) : Td E d 12 0 [some (vr 8 0), some (vi (nI (lvl + 1))), some (vi (nI dep)), some (vr 9 l), none, none] [] x F G b (some (vi (b2i (okB z)))) (COL t l F G B z) := by
  by_cases e : lvl + 1 < 4
  · exact (IH 0 (lvl + 1) dep r z hz (by omega) (fun e => absurd rfl e) hdp hp hln d F G h hB).1 rfl e (by omega)
  · have e3 : lvl = 3 := by omega
    subst e3
    exact c_rf4 (by omega) hl ((IH 0 4 dep r z hz (by omega) (fun e => absurd rfl e) hdp hp hln (d - 1) F G h hB).2.1 rfl rfl (by omega))
theorem c_rloop (IH : RdP E x b t l B n) (hl : l < 2) {lvl dep i : Nat} {r : RA} {z : Nat ⊕ RA} (hz : rdL t (n + 1) 1 lvl dep r = some z) (hlv : lvl ≤ 3) (hdp : dep ≤ 5) (hp : r.1 ≤ t.1) (hln : r.2.2.1.length ≤ r.1) (hd : 26 + 6 * (6 - dep) ≤ d + lvl) (hi : i ≤ r.1) (h : CRd F G t r.1) (hB : CLb F G l (setC B r.2.2.1 r.2.2.2 r.2.1)) : Td E d 12 29 [some (vr 8 0), some (vi (nI lvl)), some (vi (nI dep)), some (vr 9 l), some (vi (nI i)), none] [] x F G b (some (vi (b2i (okB z)))) (COL t l F G B z) := by
  have h1000 := h.1.2.1
  unfold rdL at hz
  rw [if_neg (by decide)] at hz
  refine d_run 2 rfl ?_
  refine d_ic_ge k12_34 (fun h34 => ?_) (fun h34 => ?_)
  · have e34 := ge_nI (a := i) (b := 1000) h34 rfl (by omega) (by omega)
    have ej : jc lvl t r.1 = 0 := by
      apply Decidable.byContradiction
      intro e
      have := jc_lt e
      omega
    rw [if_pos ej] at hz
    cases hz
    refine d_run 1 rfl ?_
    refine d_ib k12_92 (by rfl) ?_
    exact ⟨h, hB, CFr.rf⟩
  · refine d_run 2 rfl ?_
    refine d_callT 2 k12_39 (by omega) (Nat.le_of_ble_eq_true rfl) rfl (Nat.le_of_ble_eq_true rfl) (Nat.le_of_ble_eq_true rfl) (recv_ok rfl (by first | assumption | exact Nat.le_of_ble_eq_true rfl | omega)) rfl (c_jc hlv (by omega) h) rfl ?_
    refine d_run 2 rfl ?_
    refine d_if_ne k12_46 (fun h46 => ?_) (fun h46 => ?_)
    · rw [if_neg h46] at hz
      have hlt := jc_lt h46
      have hn1 := tN_lt hlt
      have hn2 := (tN_le (t := t) (p := r.1) (by omega)).2
      refine d_run 1 rfl ?_
      refine d_gR k12_52 (by first | assumption | exact Nat.le_of_ble_eq_true rfl | omega) ⟨rfl, rfl, rfl⟩ rfl ?_
      refine d_call 1 k12_55 (by omega) (Nat.le_of_ble_eq_true rfl) rfl (Nat.le_of_ble_eq_true rfl) (Nat.le_of_ble_eq_true rfl) (recv_ok rfl (by first | assumption | exact Nat.le_of_ble_eq_true rfl | omega)) rfl (c_nx (by omega) h) rfl ?_
      rintro F1 G1 ⟨h1, n1⟩
      have dd := D5.rf.nx n1
      have hB1 := (hB.d5 dd).fc (fc2 := r.2.2.2 ++ [fj (jc lvl t r.1)]) (D2 := dfl)
      refine d_run 6 rfl ?_
      rw [show ibop 0 (nI lvl) 1 = nI (lvl + 1) from nI_1 lvl]
      obtain ⟨z1, hz1⟩ : ∃ z1, rdL t n 0 (lvl + 1) dep (tN t r.1, dfl, r.2.2.1, r.2.2.2 ++ [fj (jc lvl t r.1)]) = some z1 := by
        rcases obd_r hz with ⟨e, h1, _⟩ | ⟨a, h1, _⟩ <;> exact ⟨_, h1⟩
      rw [hz1] at hz
      refine d_call 4 k12_64 (by omega) (Nat.le_of_ble_eq_true rfl) rfl (Nat.le_of_ble_eq_true rfl) (Nat.le_of_ble_eq_true rfl) (recv_ok rfl (by first | assumption | exact Nat.le_of_ble_eq_true rfl | omega)) rfl (c_rfc IH hl hz1 hlv hdp hn2 (by show r.2.2.1.length ≤ tN t r.1; omega) (by omega) h1 hB1) rfl ?_
      rintro F2 G2 q2
      refine d_if_ne k12_67 (fun h67 => ?_) (fun h67 => ?_)
      · rw [b2i0, Bool.not_eq_false] at h67
        obtain ⟨r1, ef⟩ := okB_t h67
        subst ef
        have hz : (if lvl = 1 then some (.inr (r1.1, joD (jc lvl t r.1) r.2.1 r1.2.1, r1.2.2.1 ++ [jc lvl t r.1], r1.2.2.2)) else rdL t n 1 lvl dep (r1.1, joD (jc lvl t r.1) r.2.1 r1.2.1, r1.2.2.1 ++ [jc lvl t r.1], r1.2.2.2)) = some z := hz
        obtain ⟨a1, a2, a3, a4⟩ := rdL_go n 0 (lvl + 1) dep _ r1 hn2 hz1
        have a1 := a1 rfl
        simp only at a1 a2 a4
        obtain ⟨g1, g2, g3⟩ := q2
        have hlt3 : r1.2.2.1.length < 1000 := by omega
        refine d_run 2 rfl ?_
        refine d_call 2 k12_75 (by omega) (Nat.le_of_ble_eq_true rfl) rfl (Nat.le_of_ble_eq_true rfl) (Nat.le_of_ble_eq_true rfl) (recv_ok rfl (by first | assumption | exact lx2 _ | exact Nat.lt_of_lt_of_le (m := 2) hl (Nat.le_of_ble_eq_true rfl) | omega)) rfl (c_addC hl g2.2.2.2.2.1 hlt3) rfl ?_
        rintro F3 G3 ⟨rfl, rfl⟩
        have g4 : CRd (uF (uF F2 17 l r1.2.2.1.length (jc lvl t r.1)) 9 l 13 (nI (r1.2.2.1.length + 1))) G3 t r1.1 := (g1.u (by decide) (by decide)).u (by decide) (by decide)
        have g5 : CFr l F G (uF (uF F2 17 l r1.2.2.1.length (jc lvl t r.1)) 9 l 13 (nI (r1.2.2.1.length + 1))) G3 := (((D5.fr dd).tr g3).u (by decide)).u (by decide)
        refine d_run 2 rfl ?_
        refine d_ic_ne k12_80 (fun h80 => ?_) (fun h80 => ?_)
        · have e80 : ¬ lvl = 1 := fun e => h80 (by rw [e]; rfl)
          rw [if_neg e80] at hz
          refine d_run 2 rfl ?_
          refine d_dr111110 ?_
          rw [show nI i + 1 = nI (i + 1) from nI_1 i]
          refine td_mo ((IH 1 lvl dep _ z hz (by omega) (fun _ => hlv) hdp a3 (by simp only [List.length_append, List.length_cons, List.length_nil]; omega) d _ G3 g4 g2.addC).2.2 (by decide) hd (i + 1) (by show i + 1 ≤ r1.1; omega)) (fun F4 G4 e => COL.tr g5 e)
        · have e80 : lvl = 1 := nI_inj (b := 1) h80 (by omega) (by omega)
          rw [if_pos e80] at hz
          cases hz
          refine d_run 1 rfl ?_
          refine d_ib k12_84 (by rfl) ?_
          exact ⟨g4, g2.addC, g5⟩
      · rw [b2i0] at h67
        obtain ⟨f, ef⟩ := okB_f h67
        subst ef
        cases hz
        refine d_run 1 rfl ?_
        refine d_ib k12_71 (by rfl) ?_
        exact ⟨q2.1, (D5.fr dd).tr q2.2⟩
    · rw [if_pos h46] at hz
      cases hz
      refine d_run 1 rfl ?_
      refine d_ib k12_50 (by rfl) ?_
      exact ⟨h, hB, CFr.rf⟩
theorem c_rfrom (IH : RdP E x b t l B n) (hl : l < 2) {lvl dep : Nat} {r : RA} {z : Nat ⊕ RA} (hz : rdL t (n + 1) 0 lvl dep r = some z) (hlv : lvl < 4) (hdp : dep ≤ 5) (hp : r.1 ≤ t.1) (hln : r.2.2.1.length ≤ r.1) (hd : 26 + 6 * (6 - dep) ≤ d + lvl) (h : CRd F G t r.1) (hB : CLb F G l (setC B r.2.2.1 r.2.2.2 r.2.1)) : Td E d 12 0 [some (vr 8 0), some (vi (nI lvl)), some (vi (nI dep)), some (vr 9 l), none, none] [] x F G b (some (vi (b2i (okB z)))) (COL t l F G B z) := by
  unfold rdL at hz
  rw [if_pos rfl, if_pos hlv] at hz
  obtain ⟨z1, hz1⟩ : ∃ z1, rdL t n 0 (lvl + 1) dep r = some z1 := by
    rcases obd_r hz with ⟨e, h1, _⟩ | ⟨a, h1, _⟩ <;> exact ⟨_, h1⟩
  rw [hz1] at hz
  refine d_run 2 rfl ?_
  refine d_ic_le k12_2 (fun h2 => ?_) (fun h2 => ?_)
  · refine d_run 6 rfl ?_
    rw [show ibop 0 (nI lvl) 1 = nI (lvl + 1) from nI_1 lvl]
    refine d_call 4 k12_18 (by omega) (Nat.le_of_ble_eq_true rfl) rfl (Nat.le_of_ble_eq_true rfl) (Nat.le_of_ble_eq_true rfl) (recv_ok rfl (by first | assumption | exact Nat.le_of_ble_eq_true rfl | omega)) rfl (c_rfc IH hl hz1 (by omega) hdp hp hln (by omega) h hB) rfl ?_
    rintro F2 G2 q2
    refine d_if_ne k12_21 (fun h21 => ?_) (fun h21 => ?_)
    · rw [b2i0, Bool.not_eq_false] at h21
      obtain ⟨r1, ef⟩ := okB_t h21
      subst ef
      have hz : rdL t n 1 lvl dep r1 = some z := hz
      obtain ⟨a1, a2, a3, a4⟩ := rdL_go n 0 (lvl + 1) dep r r1 hp hz1
      obtain ⟨g1, g2, g3⟩ := q2
      refine d_run 2 rfl ?_
      exact td_mo ((IH 1 lvl dep r1 z hz (by omega) (fun _ => by omega) hdp a3 (by omega) d F2 G2 g1 g2).2.2 (by decide) hd 0 (by omega)) (fun F4 G4 e => COL.tr g3 e)
    · rw [b2i0] at h21
      obtain ⟨f, ef⟩ := okB_f h21
      subst ef
      cases hz
      refine d_run 1 rfl ?_
      refine d_ib k12_25 (by rfl) ?_
      exact q2
  · exact absurd ((nI_leI (b := 3) (by omega) (by omega)).mpr (by omega)) h2
theorem c_part2 (IH : RdP E x b t l B n) (hl : l < 2) {dep : Nat} {r : RA} {z : Nat ⊕ RA} (hz : rdL t (n + 1) 0 4 dep r = some z) (hdp : dep ≤ 5) (hp : r.1 ≤ t.1) (hln : r.2.2.1.length ≤ r.1) (hd : 21 + 6 * (6 - dep) ≤ d) (h : CRd F G t r.1) (hB : CLb F G l (setC B r.2.2.1 r.2.2.2 r.2.1)) (hpt : isPt t r.1 = true) : Td E d 13 52 [some (vr 8 0), some (vi (nI dep)), some (vr 9 l), some (vi (b2i (isWd t r.1 15))), some (vi (b2i (isSg t r.1 40))), some (vi (vcode t r.1))] [] x F G b (some (vi (b2i (okB z)))) (COL t l F G B z) := by
  have h1000 := h.1.2.1
  have hlt := isPt_lt hpt
  have hn1 := tN_lt hlt
  have hn2 := (tN_le (t := t) (p := r.1) (by omega)).2
  unfold rdL at hz
  rw [if_pos rfl, if_neg (by decide), if_pos hpt] at hz
  refine d_run 2 rfl ?_
  refine d_ic_lt k13_54 (fun h54 => ?_) (fun h54 => ?_)
  · have e54 := gt_nI (a := 5) (b := dep) h54 rfl (by omega) (by omega)
    rw [if_neg (by omega)] at hz
    refine d_run 1 rfl ?_
    refine d_gR k13_67 (by first | assumption | exact Nat.le_of_ble_eq_true rfl | omega) ⟨rfl, rfl, rfl⟩ rfl ?_
    refine d_call 1 k13_70 (by omega) (Nat.le_of_ble_eq_true rfl) rfl (Nat.le_of_ble_eq_true rfl) (Nat.le_of_ble_eq_true rfl) (recv_ok rfl (by first | assumption | exact Nat.le_of_ble_eq_true rfl | omega)) rfl (c_nx (by omega) h) rfl ?_
    rintro F1 G1 ⟨h1, n1⟩
    have dd := D5.rf.nx n1
    have hB1 := hB.d5 dd
    refine d_run 1 rfl ?_
    refine d_if_eq k13_75 (fun h75 => ?_) (fun h75 => ?_)
    · rw [b2i0] at h75
      rw [if_neg (by rw [h75]; decide)] at hz
      refine d_run 1 rfl ?_
      refine d_if_eq k13_109 (fun h109 => ?_) (fun h109 => ?_)
      · rw [b2i0] at h109
        rw [if_neg (by rw [h109]; decide)] at hz
        cases hz
        have hlt3 : r.2.2.1.length < 1000 := by omega
        have hB2 := hB1
        first
        | (refine d_run 2 rfl ?_
           refine d_call 2 k13_128 (by omega) (Nat.le_of_ble_eq_true rfl) rfl (Nat.le_of_ble_eq_true rfl) (Nat.le_of_ble_eq_true rfl) (recv_ok rfl (by first | assumption | exact lx2 _ | exact Nat.lt_of_lt_of_le (m := 2) hl (Nat.le_of_ble_eq_true rfl) | omega)) rfl (c_addC hl g2.2.2.2.2.1 hlt3) rfl ?_
           rintro F3 G3 ⟨rfl, rfl⟩
           refine d_run 1 rfl ?_
           refine d_ib k13_132 rfl ?_
           exact ⟨(g1.u (by decide) (by decide)).u (by decide) (by decide), g2.addC, (((D5.fr dd).tr g3).u (by decide)).u (by decide)⟩)
        | (refine d_run 2 rfl ?_
           refine d_call 2 k13_128 (by omega) (Nat.le_of_ble_eq_true rfl) rfl (Nat.le_of_ble_eq_true rfl) (Nat.le_of_ble_eq_true rfl) (recv_ok rfl (by first | assumption | exact lx2 _ | exact Nat.lt_of_lt_of_le (m := 2) hl (Nat.le_of_ble_eq_true rfl) | omega)) rfl (c_addC hl hB2.2.2.2.2.1 hlt3) rfl ?_
           rintro F3 G3 ⟨rfl, rfl⟩
           refine d_run 1 rfl ?_
           refine d_ib k13_132 rfl ?_
           exact ⟨(h1.u (by decide) (by decide)).u (by decide) (by decide), hB2.addC, (((D5.fr (l := l) dd)).u (by decide)).u (by decide)⟩)
      · rw [b2i0, Bool.not_eq_false] at h109
        rw [if_pos h109] at hz
        obtain ⟨z1, hz1⟩ : ∃ z1, rdL t n 0 4 (dep + 1) (tN t r.1, dfl, r.2.2.1, r.2.2.2 ++ [30]) = some z1 := by
          rcases obd_r hz with ⟨e, h1, _⟩ | ⟨a, h1, _⟩ <;> exact ⟨_, h1⟩
        rw [hz1] at hz
        refine d_run 5 rfl ?_
        rw [show ibop 0 (nI dep) 1 = nI (dep + 1) from nI_1 dep]
        refine d_call 3 k13_117 (by omega) (Nat.le_of_ble_eq_true rfl) rfl (Nat.le_of_ble_eq_true rfl) (Nat.le_of_ble_eq_true rfl) (recv_ok rfl (by first | assumption | exact Nat.le_of_ble_eq_true rfl | omega)) rfl ((IH 0 4 (dep + 1) _ z1 hz1 (by omega) (fun e => absurd rfl e) (by omega) hn2 (by show r.2.2.1.length ≤ tN t r.1; omega) (d - 1) F1 G1 h1 hB1).2.1 rfl rfl (by omega)) rfl ?_
        rintro F2 G2 q2
        refine d_if_ne k13_120 (fun h120 => ?_) (fun h120 => ?_)
        · rw [b2i0, Bool.not_eq_false] at h120
          obtain ⟨r1, ef⟩ := okB_t h120
          subst ef
          have hz : some (.inr (r1.1, noD r1.2.1, r1.2.2.1 ++ [-5], r1.2.2.2)) = some z := hz
          cases hz
          obtain ⟨a1, a2, a3, a4⟩ := rdL_go n 0 4 (dep + 1) _ r1 hn2 hz1
          have a1 := a1 rfl
          simp only at a1 a2 a4
          obtain ⟨g1, g2, g3⟩ := q2
          have hlt3 : r1.2.2.1.length < 1000 := by omega
          rw [not_vc h109]
          first
          | (refine d_run 2 rfl ?_
             refine d_call 2 k13_128 (by omega) (Nat.le_of_ble_eq_true rfl) rfl (Nat.le_of_ble_eq_true rfl) (Nat.le_of_ble_eq_true rfl) (recv_ok rfl (by first | assumption | exact lx2 _ | exact Nat.lt_of_lt_of_le (m := 2) hl (Nat.le_of_ble_eq_true rfl) | omega)) rfl (c_addC hl g2.2.2.2.2.1 hlt3) rfl ?_
             rintro F3 G3 ⟨rfl, rfl⟩
             refine d_run 1 rfl ?_
             refine d_ib k13_132 rfl ?_
             exact ⟨(g1.u (by decide) (by decide)).u (by decide) (by decide), g2.addC, (((D5.fr dd).tr g3).u (by decide)).u (by decide)⟩)
          | (refine d_run 2 rfl ?_
             refine d_call 2 k13_128 (by omega) (Nat.le_of_ble_eq_true rfl) rfl (Nat.le_of_ble_eq_true rfl) (Nat.le_of_ble_eq_true rfl) (recv_ok rfl (by first | assumption | exact lx2 _ | exact Nat.lt_of_lt_of_le (m := 2) hl (Nat.le_of_ble_eq_true rfl) | omega)) rfl (c_addC hl hB2.2.2.2.2.1 hlt3) rfl ?_
             rintro F3 G3 ⟨rfl, rfl⟩
             refine d_run 1 rfl ?_
             refine d_ib k13_132 rfl ?_
             exact ⟨(h1.u (by decide) (by decide)).u (by decide) (by decide), hB2.addC, (((D5.fr (l := l) dd)).u (by decide)).u (by decide)⟩)
        · rw [b2i0] at h120
          obtain ⟨f, ef⟩ := okB_f h120
          subst ef
          cases hz
          refine d_run 1 rfl ?_
          refine d_ib k13_124 (by rfl) ?_
          exact ⟨q2.1, (D5.fr dd).tr q2.2⟩
    · rw [b2i0, Bool.not_eq_false] at h75
      rw [if_pos h75] at hz
      obtain ⟨z1, hz1⟩ : ∃ z1, rdL t n 0 0 (dep + 1) (tN t r.1, dfl, r.2.2.1, r.2.2.2 ++ [28]) = some z1 := by
        rcases obd_r hz with ⟨e, h1, _⟩ | ⟨a, h1, _⟩ <;> exact ⟨_, h1⟩
      rw [hz1] at hz
      refine d_run 6 rfl ?_
      rw [show ibop 0 (nI dep) 1 = nI (dep + 1) from nI_1 dep]
      refine d_call 4 k13_84 (by omega) (Nat.le_of_ble_eq_true rfl) rfl (Nat.le_of_ble_eq_true rfl) (Nat.le_of_ble_eq_true rfl) (recv_ok rfl (by first | assumption | exact Nat.le_of_ble_eq_true rfl | omega)) rfl ((IH 0 0 (dep + 1) _ z1 hz1 (by omega) (fun e => absurd rfl e) (by omega) hn2 (by show r.2.2.1.length ≤ tN t r.1; omega) (d - 1) F1 G1 h1 hB1).1 rfl (by decide) (by omega)) rfl ?_
      rintro F2 G2 q2
      refine d_if_eq k13_87 (fun h87 => ?_) (fun h87 => ?_)
      · rw [b2i0] at h87
        obtain ⟨f, ef⟩ := okB_f h87
        subst ef
        cases hz
        refine d_run 1 rfl ?_
        refine d_ib k13_107 rfl ?_
        exact ⟨q2.1, (D5.fr dd).tr q2.2⟩
      · rw [b2i0, Bool.not_eq_false] at h87
        obtain ⟨r1, ef⟩ := okB_t h87
        subst ef
        have hz : (if isSg t r1.1 41 = true then some (.inr (tN t r1.1, r1.2.1, r1.2.2.1, r1.2.2.2 ++ [29])) else some (.inl (1 + 16 * r1.1))) = some z := hz
        obtain ⟨g1, g2, g3⟩ := q2
        refine d_run 1 rfl ?_
        refine d_gR k13_91 (by first | assumption | exact Nat.le_of_ble_eq_true rfl | omega) ⟨rfl, rfl, rfl⟩ rfl ?_
        refine d_run 1 rfl ?_
        refine d_call 2 k13_96 (by omega) (Nat.le_of_ble_eq_true rfl) rfl (Nat.le_of_ble_eq_true rfl) (Nat.le_of_ble_eq_true rfl) (recv_ok rfl (by first | assumption | exact Nat.le_of_ble_eq_true rfl | omega)) rfl (c_passS (c := 41) (by decide) (by omega) g1) rfl ?_
        rintro F3 G3 q3
        refine d_if_eq k13_99 (fun h99 => ?_) (fun h99 => ?_)
        · rw [b2i0] at h99
          obtain ⟨f, ef⟩ := okB_f h99
          rw [ef] at q3
          have e41 : ¬ isSg t r1.1 41 = true := fun e => by
            rw [show pSign t r1.1 41 = .inr (tN t r1.1) by simp only [pSign]; rw [if_pos e]] at ef
            cases ef
          rw [show pSign t r1.1 41 = .inl (1 + 16 * r1.1) by simp only [pSign]; rw [if_neg e41]] at ef
          cases ef
          rw [if_neg e41] at hz
          cases hz
          refine d_run 1 rfl ?_
          refine d_ib k13_107 rfl ?_
          exact ⟨q3.1, ((D5.fr dd).tr g3).tr (D5.fr (D5.rf.ft q3))⟩
        · rw [b2i0, Bool.not_eq_false] at h99
          obtain ⟨p3, ef⟩ := okB_t h99
          rw [ef] at q3
          have e41 : isSg t r1.1 41 = true := by
            unfold pSign at ef
            split at ef
            · assumption
            · cases ef
          rw [show pSign t r1.1 41 = .inr (tN t r1.1) by simp only [pSign]; rw [if_pos e41]] at ef
          cases ef
          rw [if_pos e41] at hz
          cases hz
          refine d_run 2 rfl ?_
          refine d_ib k13_107 rfl ?_
          exact ⟨q3.1, g2.d5 (D5.rf.nx q3.2), ((D5.fr dd).tr g3).tr (D5.fr (D5.rf.nx q3.2))⟩
  · have e54 := le_nI (a := 5) (b := dep) h54 rfl (by omega) (by omega)
    rw [if_pos e54] at hz
    cases hz
    refine d_run 1 rfl ?_
    refine d_gR k13_58 (by first | assumption | exact Nat.le_of_ble_eq_true rfl | omega) ⟨rfl, rfl, rfl⟩ rfl ?_
    refine d_run 1 rfl ?_
    refine d_callT 2 k13_62 (by omega) (Nat.le_of_ble_eq_true rfl) rfl (Nat.le_of_ble_eq_true rfl) (Nat.le_of_ble_eq_true rfl) (recv_ok rfl (by first | assumption | exact Nat.le_of_ble_eq_true rfl | omega)) rfl (c_refuse (c := 5) h) rfl ?_
    refine d_ib k13_65 (by rfl) ?_
    exact ⟨by rw [uF_r, pk_us], D5.fr (D5.rf.ft (CFt.of (f := 5 + 16 * r.1) CNx.rf))⟩
theorem c_part (IH : RdP E x b t l B n) (hl : l < 2) {dep : Nat} {r : RA} {z : Nat ⊕ RA} (hz : rdL t (n + 1) 0 4 dep r = some z) (hdp : dep ≤ 5) (hp : r.1 ≤ t.1) (hln : r.2.2.1.length ≤ r.1) (hd : 21 + 6 * (6 - dep) ≤ d) (h : CRd F G t r.1) (hB : CLb F G l (setC B r.2.2.1 r.2.2.2 r.2.1)) : Td E d 13 0 [some (vr 8 0), some (vi (nI dep)), some (vr 9 l), none, none, none] [] x F G b (some (vi (b2i (okB z)))) (COL t l F G B z) := by
  refine d_run 1 rfl ?_
  refine d_gR k13_1 (by first | assumption | exact Nat.le_of_ble_eq_true rfl | omega) ⟨rfl, rfl, rfl⟩ rfl ?_
  refine d_run 1 rfl ?_
  refine d_callT 2 k13_6 (by omega) (Nat.le_of_ble_eq_true rfl) rfl (Nat.le_of_ble_eq_true rfl) (Nat.le_of_ble_eq_true rfl) (recv_ok rfl (by first | assumption | exact Nat.le_of_ble_eq_true rfl | omega)) rfl (c_isWd (n := 15) (by decide) (by decide) (by decide) (by omega) h) rfl ?_
  refine d_run 2 rfl ?_
  refine d_gR k13_11 (by first | assumption | exact Nat.le_of_ble_eq_true rfl | omega) ⟨rfl, rfl, rfl⟩ rfl ?_
  refine d_run 1 rfl ?_
  refine d_callT 2 k13_16 (by omega) (Nat.le_of_ble_eq_true rfl) rfl (Nat.le_of_ble_eq_true rfl) (Nat.le_of_ble_eq_true rfl) (recv_ok rfl (by first | assumption | exact Nat.le_of_ble_eq_true rfl | omega)) rfl (c_isSg (c := 40) (by decide) h) rfl ?_
  refine d_run 2 rfl ?_
  refine d_callT 1 k13_22 (by omega) (Nat.le_of_ble_eq_true rfl) rfl (Nat.le_of_ble_eq_true rfl) (Nat.le_of_ble_eq_true rfl) (recv_ok rfl (by first | assumption | exact Nat.le_of_ble_eq_true rfl | omega)) rfl (c_vcode (by omega) h) rfl ?_
  refine d_run 2 rfl ?_
  refine d_if_ne k13_28 (fun h28 => ?_) (fun h28 => ?_)
  · have hpt : isPt t r.1 = true := by rw [b2i0, Bool.not_eq_false] at h28; simp only [isPt]; rw [h28]; rfl
    exact c_part2 IH hl hz hdp hp hln hd h hB hpt
  · rw [b2i0] at h28
    refine d_run 1 rfl ?_
    refine d_if_ne k13_33 (fun h33 => ?_) (fun h33 => ?_)
    · have hpt : isPt t r.1 = true := by rw [b2i0, Bool.not_eq_false] at h33; simp only [isPt]; rw [h33, Bool.or_true]; rfl
      exact c_part2 IH hl hz hdp hp hln hd h hB hpt
    · rw [b2i0] at h33
      refine d_run 2 rfl ?_
      refine d_ic_ne k13_40 (fun h40 => ?_) (fun h40 => ?_)
      · have hpt : isPt t r.1 = true := by simp only [isPt]; rw [decide_eq_true h40, Bool.or_true]
        exact c_part2 IH hl hz hdp hp hln hd h hB hpt
      · have hpt : ¬ isPt t r.1 = true := by simp only [isPt]; rw [h28, h33, decide_eq_false (fun e => e h40)]; decide
        unfold rdL at hz
        rw [if_pos rfl, if_neg (by decide), if_neg hpt] at hz
        cases hz
        refine d_run 1 rfl ?_
        refine d_gR k13_44 (by first | assumption | exact Nat.le_of_ble_eq_true rfl | omega) ⟨rfl, rfl, rfl⟩ rfl ?_
        refine d_run 1 rfl ?_
        refine d_callT 2 k13_48 (by omega) (Nat.le_of_ble_eq_true rfl) rfl (Nat.le_of_ble_eq_true rfl) (Nat.le_of_ble_eq_true rfl) (recv_ok rfl (by first | assumption | exact Nat.le_of_ble_eq_true rfl | omega)) rfl (c_refuse (c := 1) h) rfl ?_
        refine d_ib k13_51 (by rfl) ?_
        exact ⟨by rw [uF_r, pk_us], D5.fr (D5.rf.ft (CFt.of (f := 1 + 16 * r.1) CNx.rf))⟩
theorem c_rdl (hl : l < 2) : ∀ n, RdP E x b t l B n
  | 0 => by
    intro m lvl dep r z hz
    cases hz
  | n + 1 => by
    have IH : RdP E x b t l B n := c_rdl hl n
    intro m lvl dep r z hz h4 h3 hdp hp hln d F G h hB
    refine ⟨fun hm hlv hd => ?_, fun hm hlv hd => ?_, fun hm hd i hi => ?_⟩
    · subst hm
      exact c_rfrom IH hl hz hlv hdp hp hln hd h hB
    · subst hm
      subst hlv
      exact c_part IH hl hz hdp hp hln hd h hB
    · have hz1 : rdL t (n + 1) 1 lvl dep r = some z := by
        unfold rdL at hz ⊢
        rw [if_neg hm] at hz
        rw [if_neg (by decide)]
        exact hz
      exact c_rloop IH hl hz1 (h3 hm) hdp hp hln hd hi h hB
theorem sWinds_c {p : Nat} (hb : bC B = []) (hp : p ≤ t.1) : ∃ z, rdL t (rdF t) 0 0 0 (tN t p, dfl, [], []) = some z ∧ (∀ f, z = .inl f → sWinds t p B = .inl f) ∧ ∀ r, z = .inr r → sWinds t p B = .inr (r.1, setC B r.2.2.1 r.2.2.2 r.2.1) := by
  have hn2 := (tN_le (t := t) (p := p) hp).2
  have hok := rdL_ok (t := t) (rdF t) 0 0 0 (tN t p, dfl, [], []) hn2 (by decide) (fun e => absurd rfl e) (by simp only [if_true, rdF]; omega)
  cases e : rdL t (rdF t) 0 0 0 (tN t p, dfl, [], []) with
  | none => exact absurd e hok
  | some z =>
    refine ⟨z, rfl, fun f hf => ?_, fun r hr => ?_⟩
    · subst hf
      simp only [sWinds]
      rw [if_pos hb, e]
    · subst hr
      simp only [sWinds]
      rw [if_pos hb, e]
theorem c_winds (hl : l < 2) (hd : 70 ≤ d) (h : CRd F G t p) (hB : CLb F G l B) (hlc : (bC B).length ≤ 1000) (hp : p ≤ t.1) : Td E d 11 0 [some (vr 8 0), some (vr 9 l)] [] x F G b (some (vi (b2i (okB (sWinds t p B))))) (COb t l F G (sWinds t p B)) := by
  have hn2 := (tN_le (t := t) (p := p) hp).2
  by_cases hb : bC B = []
  · obtain ⟨z, hz, z1, z2⟩ := sWinds_c (B := B) (p := p) hb hp
    have e13 : F 9 l 13 = nI 0 := by rw [hB.2.2.2.2.1, hb]; rfl
    have hB0 : CLb F G l (setC B [] [] dfl) := by
      have := hB
      unfold CLb at this ⊢
      rw [hb] at this
      exact this
    refine d_run 1 rfl ?_
    refine d_gI k11_1 (by first | assumption | exact lx2 _ | exact Nat.lt_of_lt_of_le (m := 2) hl (Nat.le_of_ble_eq_true rfl) | omega) ⟨rfl, rfl, Or.inl rfl⟩ ?_
    rw [e13]
    refine d_if_le k11_4 (fun h4 => ?_) (fun h4 => ?_)
    · refine d_run 1 rfl ?_
      refine d_gR k11_17 (by first | assumption | exact Nat.le_of_ble_eq_true rfl | omega) ⟨rfl, rfl, rfl⟩ rfl ?_
      refine d_call 1 k11_20 (by omega) (Nat.le_of_ble_eq_true rfl) rfl (Nat.le_of_ble_eq_true rfl) (Nat.le_of_ble_eq_true rfl) (recv_ok rfl (by first | assumption | exact Nat.le_of_ble_eq_true rfl | omega)) rfl (c_nx (by omega) h) rfl ?_
      rintro F1 G1 ⟨h1, n1⟩
      have dd := D5.rf.nx n1
      have hB1 := hB0.d5 dd
      refine d_run 4 rfl ?_
      refine d_call 4 k11_27 (by omega) (Nat.le_of_ble_eq_true rfl) rfl (Nat.le_of_ble_eq_true rfl) (Nat.le_of_ble_eq_true rfl) (recv_ok rfl (by first | assumption | exact Nat.le_of_ble_eq_true rfl | omega)) rfl ((c_rdl (E := E) (x := x) (b := b) (B := B) hl (rdF t) 0 0 0 (tN t p, dfl, [], []) z hz (by decide) (fun e => absurd rfl e) (by decide) hn2 (Nat.zero_le _) (d - 1) F1 G1 h1 hB1).1 rfl (by decide) (by omega)) rfl ?_
      rintro F2 G2 q2
      cases z with
      | inl f =>
        rw [z1 f rfl]
        refine d_ib k11_30 rfl ?_
        exact ⟨q2.1, (D5.fr dd).tr q2.2⟩
      | inr r =>
        rw [z2 r rfl]
        refine d_ib k11_30 rfl ?_
        exact ⟨q2.1, q2.2.1, (D5.fr dd).tr q2.2.2⟩
    · exact absurd (by decide) h4
  · rw [show sWinds t p B = .inl (3 + 16 * p) by simp only [sWinds]; rw [if_neg hb]]
    have hlen : 0 < (bC B).length := by
      cases e : bC B with
      | nil => exact absurd e hb
      | cons a q => simp
    refine d_run 1 rfl ?_
    refine d_gI k11_1 (by first | assumption | exact lx2 _ | exact Nat.lt_of_lt_of_le (m := 2) hl (Nat.le_of_ble_eq_true rfl) | omega) ⟨rfl, rfl, Or.inl rfl⟩ ?_
    rw [hB.2.2.2.2.1]
    refine d_if_le k11_4 (fun h4 => ?_) (fun h4 => ?_)
    · exact absurd (ge_nI (a := 0) (b := (bC B).length) h4 rfl (by omega) (by omega)) (by omega)
    · refine d_run 1 rfl ?_
      refine d_gR k11_8 (by first | assumption | exact Nat.le_of_ble_eq_true rfl | omega) ⟨rfl, rfl, rfl⟩ rfl ?_
      refine d_run 1 rfl ?_
      refine d_callT 2 k11_12 (by omega) (Nat.le_of_ble_eq_true rfl) rfl (Nat.le_of_ble_eq_true rfl) (Nat.le_of_ble_eq_true rfl) (recv_ok rfl (by first | assumption | exact Nat.le_of_ble_eq_true rfl | omega)) rfl (c_refuse (c := 3) h) rfl ?_
      refine d_ib k11_15 (by rfl) ?_
      exact ⟨by rw [uF_r, pk_us], D5.fr (D5.rf.ft (CFt.of (f := 3 + 16 * p) CNx.rf))⟩
end T5
