/-! WHAT IS OUTSIDE THE CELLS, at the law's entry -/
def stm (n : Nat) : Term := .string (strs.getD n ("", 0, "")).1 (strs.getD n ("", 0, "")).2.1
def stl (n : Nat) : Nat := slen.getD n 0
def stb2 (n j : Nat) : Int32 := (sbyt.getD n []).getD j 0
/-- what is told of a text constant -/
def wS (n : Nat) : List Cond := [Cond.exactly (stm n) "java/lang/String", Cond.eq (.field (stm n) "java/lang/String" "coder" "B") (.int 0), Cond.arrayOf (.field (stm n) "java/lang/String" "value" "[B") .byte, Cond.eq (.length (.field (stm n) "java/lang/String" "value" "[B")) (.int (Int32.ofNat (stl n)))] ++ (List.range (stl n)).map fun j => Cond.eq (.elem (.field (stm n) "java/lang/String" "value" "[B") (.int (Int32.ofNat j))) (.int (stb2 n j))
def gnF : List Cond := flatC (Jvm.Cond.and given_1 narrow_1)
def stp : List Nat := [54, 66, 76, 182, 190, 200, 209, 219, 227, 234, 240, 248, 257, 265, 273, 282, 289, 297, 306, 313, 322, 329, 335, 343, 351, 359]
set_option maxRecDepth 100000 in
theorem wS_in0 : ((List.range 26).all fun n => decide (wS n = (gnF.drop (stp.getD n 0)).take (4 + stl n))) = true := by decide +kernel
theorem wS_in {n : Nat} (hn : n < 26) : ∀ w ∈ wS n, w ∈ gnF := by
  intro w hw
  have h1 := of_decide_eq_true (List.all_eq_true.mp wS_in0 n (List.mem_range.mpr hn))
  rw [h1] at hw
  exact List.mem_of_mem_drop (List.mem_of_mem_take hw)
def stw (n : Nat) : Cond := Cond.stringRef (strs.getD n ("", 0, "")).1 (strs.getD n ("", 0, "")).2.1 (strs.getD n ("", 0, "")).2.2
def stq : List Nat := [558, 649, 692, 705, 714, 727, 729, 730, 731, 732, 738, 746, 747, 752, 757, 772, 782, 783, 784, 785, 799, 800, 835, 836, 837, 838]
theorem stw_in0 : ((List.range 26).all fun n => decide (lw_tbl[stq.getD n 0]? = some (stw n))) = true := by decide +kernel
theorem stw_in {n : Nat} (hn : n < 26) : stw n ∈ lw_tbl := List.mem_of_getElem? (of_decide_eq_true (List.all_eq_true.mp stw_in0 n (List.mem_range.mpr hn)))
theorem st_small : ((List.range 26).all fun n => decide (stl n < 1000)) = true := by decide +kernel
theorem st_apart : ((List.range 26).all fun i => (List.range 26).all fun j => decide (i = j) || (!decide (stl i = stl j) || (List.range (stl i)).any fun t => !decide (stb2 i t = stb2 j t))) = true := by decide +kernel
section OS
variable {args : Array Value} {s : State} {A : Nat → Prop}
/-- one text constant -/
theorem st_one (hgv : (Jvm.Cond.and given_1 narrow_1).before args s = true) (hA : ∀ a : Nat, a < s.heap.size → ¬ A a) {n : Nat} (hn : n < 26) : ∃ a t : Nat, (stm n).eval args s none [] s = some (.ref a) ∧ va_O "java/lang/String" a A s s.heap ∧ va_OF "java/lang/String" "coder" "B" (.int 0) a A s s.heap ∧ va_OF "java/lang/String" "value" "[B" (.ref t) a A s s.heap ∧ va_T .byte t (stl n) (fun j => .int (stb2 n j)) A s s.heap := by
  have hs := flat_of_before _ hgv
  have hw : ∀ w ∈ wS n, w.before args s = true := fun w h => hs w (wS_in hn w h)
  have hlen := of_decide_eq_true (List.all_eq_true.mp st_small n (List.mem_range.mpr hn))
  obtain ⟨adK, adV, h1, h2⟩ := vk_Sof (args := args) (s := s) (N := 1) (tm := fun _ => stm n) (len := [stl n]) (byt := [sbyt.getD n []]) (A := A)
    (fun i hi => by
      have h0 : i = 0 := by omega
      subst h0
      show stl n < 2 ^ 31
      omega)
    (fun i hi => hw _ (List.mem_append_left _ (List.mem_of_getElem? (i := 0) rfl)))
    (fun i hi => hw _ (List.mem_append_left _ (List.mem_of_getElem? (i := 1) rfl)))
    (fun i hi => hw _ (List.mem_append_left _ (List.mem_of_getElem? (i := 2) rfl)))
    (fun i hi => by
      have h0 : i = 0 := by omega
      subst h0
      exact hw _ (List.mem_append_left _ (List.mem_of_getElem? (i := 3) rfl)))
    (fun i hi j hj => by
      have h0 : i = 0 := by omega
      subst h0
      exact hw _ (List.mem_append_right _ (List.mem_map.mpr ⟨j, List.mem_range.mpr hj, rfl⟩)))
    (fun i j hi hj hij => absurd (show i = j by omega) hij) hA
  obtain ⟨g1, g2, g3, g4⟩ := h1.1 0 (by omega)
  exact ⟨adK 0, adV 0, h2 0 (by omega), g1, g2, g3, g4⟩
theorem st_val {a t u : Nat} {H : Heap} (h1 : va_OF "java/lang/String" "value" "[B" (.ref t) a A s H) (h2 : va_OF "java/lang/String" "value" "[B" (.ref u) a A s H) : t = u := by
  obtain ⟨cf, k, i, f, cell, g1, -, g3, -, g5, -⟩ := h1
  obtain ⟨cf2, k2, i2, f2, cell2, k1, -, k3, -, k5, -⟩ := h2
  rw [g1] at k1
  cases k1
  rw [g3] at k3
  cases k3
  rw [g5] at k5
  cases k5
  rfl
theorem st_same {t i j : Nat} {H : Heap} (hi : i < 26) (hj : j < 26) (h1 : va_T .byte t (stl i) (fun q => .int (stb2 i q)) A s H) (h2 : va_T .byte t (stl j) (fun q => .int (stb2 j q)) A s H) : i = j := by
  obtain ⟨cell, g1, -, -, g4, g5, g6, -⟩ := h1
  obtain ⟨cell2, k1, -, -, k4, k5, k6, -⟩ := h2
  rw [g1] at k1
  cases k1
  have l1 := of_decide_eq_true (List.all_eq_true.mp st_small i (List.mem_range.mpr hi))
  have l2 := of_decide_eq_true (List.all_eq_true.mp st_small j (List.mem_range.mpr hj))
  have hl : stl i = stl j := by
    have e : nI (stl i) = nI (stl j) := g5.symm.trans k5
    exact nI_inj e (by omega) (by omega)
  have h := List.all_eq_true.mp (List.all_eq_true.mp st_apart i (List.mem_range.mpr hi)) j (List.mem_range.mpr hj)
  simp only [Bool.or_eq_true, decide_eq_true_eq, Bool.not_eq_true', decide_eq_false_iff_not] at h
  rcases h with h | h | h
  · exact h
  · exact absurd hl h
  · obtain ⟨q, hq, hne⟩ := List.any_eq_true.mp h
    have hq := List.mem_range.mp hq
    have e1 := g6 q hq
    have e2 := k6 q (by omega)
    rw [e1] at e2
    have e3 : stb2 i q = stb2 j q := by
      have e4 := Option.some.inj e2
      injection e4
    rw [e3] at hne
    simp at hne
theorem arr_one {ty : FieldType} (h : (Cond.arrayClass ty).before args s = true) : ∃ cA : ClassId, ArrOfT s cA ty ∧ s.vm.findClass ("[" ++ ty.toString) = some cA := by
  obtain ⟨c, k, comp, h1, h2, h3⟩ := Cond.arrayClass_spec h
  exact ⟨c, fun n z => ⟨fun _ e => (by cases e), k, h2, comp, h3⟩, h1⟩
theorem arr_obj {C : String} (h : (Cond.arrayOver (.object C)).before args s = true) : ∃ cA : ClassId, ArrOfT s cA (.object C) ∧ va_RA s cA (.object C) := by
  obtain ⟨comp, c, k, h1, -, h3, h4, h5⟩ := Cond.arrayOver_spec h
  exact ⟨c, fun n z => ⟨fun _ e => (by cases e), k, h3, comp, h4⟩, k, comp, h3, h4, h1, h5⟩
def xcl (c1 c2 c3 c4 c5 c6 : ClassId) (i : Nat) : ClassId := if i = 1 then c1 else if i = 2 then c2 else if i = 3 then c3 else if i = 4 then c4 else if i = 5 then c5 else c6
set_option maxHeartbeats 4000000 in
theorem ou_start {b L : Nat} {xs : Nat → Int32} (hts : ∀ w ∈ lw_tbl, w.before args s = true) (hgv : (Jvm.Cond.and given_1 narrow_1).before args s = true) (hX : va_X b L xs s s.heap) (hbl : b < s.heap.size) : ∃ X : CX, xb X = b ∧ xz X = s.heap.size ∧ Ou X L xs s s.heap ∧ XTh X s s.heap := by
  have hs := flat_of_before _ hgv
  have htw : ∀ w ∈ wtb, w.before args s = true := fun w hw => hts w (List.mem_filter.mp hw).1
  have hA : ∀ a : Nat, a < s.heap.size → ¬ (fun q : Nat => s.heap.size ≤ q) a := fun a ha => Nat.not_le.mpr ha
  have hK0 : ∀ c : Nat, ∃ q : ClassId × (Nat → Nat), ∀ r : vw_C, vwCl[c]? = some r → u_Kn s r.1 r.2.1 r.2.2 q.1 q.2 := by
    intro c
    cases hc : vwCl[c]? with
    | none => exact ⟨(0, fun _ => 0), fun r hr => by cases hr⟩
    | some r =>
      obtain ⟨cC, iS, hk⟩ := u_known (C := r.1) (T := r.2.1) (N := r.2.2) (n := r.2.2) htw (vw_ok hc).1 (htw _ (inst2_in _ (List.mem_map.mpr ⟨r, List.mem_of_getElem? hc, rfl⟩)))
      exact ⟨(cC, iS), fun r2 hr => by cases hr; exact hk⟩
  obtain ⟨fK, hfK⟩ := Classical.axiomOfChoice hK0
  obtain ⟨c1, a1, b1⟩ := arr_one (htw _ (arr_in (Cond.arrayClass .int) (List.mem_of_getElem? (i := 0) rfl)))
  obtain ⟨c2, a2, b2⟩ := arr_one (htw _ (arr_in (Cond.arrayClass .char) (List.mem_of_getElem? (i := 1) rfl)))
  obtain ⟨c3, a3, b3⟩ := arr_one (htw _ (arr_in (Cond.arrayClass .boolean) (List.mem_of_getElem? (i := 2) rfl)))
  obtain ⟨c4, a4, b4⟩ := arr_one (htw _ (arr_in (Cond.arrayClass .long) (List.mem_of_getElem? (i := 3) rfl)))
  have w5 := hts (Cond.arrayOver (.object "StrangeWinding$Scene")) (List.mem_of_getElem? (i := 379) (by decide +kernel))
  have w6 := hts (Cond.arrayOver (.object "StrangeWinding$State")) (List.mem_of_getElem? (i := 387) (by decide +kernel))
  obtain ⟨c5, a5, b5⟩ := arr_obj w5
  obtain ⟨c6, a6, b6⟩ := arr_obj w6
  have hS0 : ∀ n : Nat, ∃ q : Nat × Nat, n < 26 → (stm n).eval args s none [] s = some (.ref q.1) ∧ va_O "java/lang/String" q.1 (fun q : Nat => s.heap.size ≤ q) s s.heap ∧ va_OF "java/lang/String" "coder" "B" (.int 0) q.1 (fun q : Nat => s.heap.size ≤ q) s s.heap ∧ va_OF "java/lang/String" "value" "[B" (.ref q.2) q.1 (fun q : Nat => s.heap.size ≤ q) s s.heap ∧ va_T .byte q.2 (stl n) (fun j => .int (stb2 n j)) (fun q : Nat => s.heap.size ≤ q) s s.heap := by
    intro n
    by_cases hn : n < 26
    · obtain ⟨a, t, g⟩ := st_one hgv hA hn
      exact ⟨(a, t), fun _ => g⟩
    · exact ⟨(0, 0), fun h => absurd h hn⟩
  obtain ⟨fS, hfS⟩ := Classical.axiomOfChoice hS0
  have hF : ∃ v : Value, va_Z "jdk/internal/util/Preconditions" "SIOOBE_FORMATTER" "Ljava/util/function/BiFunction;" v (fun q : Nat => s.heap.size ≤ q) s s.heap ∧ v.category = 1 := by
    have hq := va_Zqof (A := fun q : Nat => s.heap.size ≤ q) (hts (Cond.laysStatic "jdk/internal/util/Preconditions" "SIOOBE_FORMATTER" "Ljava/util/function/BiFunction;") (List.mem_of_getElem? (i := 615) (by decide +kernel))) (htw _ (own_in 15 (by decide))) (hs (Cond.isRef (.static "jdk/internal/util/Preconditions" "SIOOBE_FORMATTER" "Ljava/util/function/BiFunction;")) (List.mem_of_getElem? (i := 5) (by decide +kernel))) hA
    rcases hq with hq | ⟨t, hq⟩
    · exact ⟨_, hq, rfl⟩
    · exact ⟨_, hq, rfl⟩
  obtain ⟨vo, hvo, hvc⟩ := hF
  refine ⟨(b, s.heap.size, ((fun c => (fK c).1), (fun c => (fK c).2)), xcl c1 c2 c3 c4 c5 c6, (fun n => (fS n).1), (fun n => (fS n).2), vo), rfl, rfl, ⟨⟨fun c q hq => hfK c q hq, ?_⟩, ?_, va_AO.of w5, va_AO.of w6, ?_, ⟨fun i hi => (hfS i hi).2, fun i j hi hj e => ?_⟩, hX, hbl, ?_, hvo, Nat.le_refl _, hvc⟩, ?_⟩
  · intro k q hq
    match k, hq with
    | 0, hq => cases hq; exact ⟨a1, b1⟩
    | 1, hq => cases hq; exact ⟨a2, b2⟩
    | 2, hq => cases hq; exact ⟨a3, b3⟩
    | 3, hq => cases hq; exact ⟨a4, b4⟩
    | 4, hq => cases hq; exact ⟨a5, b5⟩
    | 5, hq => cases hq; exact ⟨a6, b6⟩
    | k + 6, hq => simp [tyl] at hq
  · intro x hx
    exact va_Nw.of rfl (hts _ (nek_in _ (List.mem_map.mpr ⟨x, hx, rfl⟩)))
  · intro n t ht
    have hn : n < 26 := (List.getElem?_eq_some_iff.mp ht).1
    have hg : strs.getD n ("", 0, "") = t := by simp [List.getD, ht]
    have h1 : (stw n).before args s = true := hts _ (stw_in hn)
    have h2 := (hfS n hn).1
    unfold stw at h1
    unfold stm at h2
    rw [hg] at h1 h2
    exact vk_R.of h1 h2
  · have e : (fS i).1 = (fS j).1 := e
    obtain ⟨-, -, -, gi, ti⟩ := hfS i hi
    obtain ⟨-, -, -, gj, tj⟩ := hfS j hj
    rw [← e] at gj
    rw [← st_val gi gj] at tj
    exact st_same hi hj ti tj
  · exact va_Zof (hts (Cond.laysStatic "java/lang/String" "COMPACT_STRINGS" "Z") (List.mem_of_getElem? (i := 572) (by decide +kernel))) (htw _ (own_in 13 (by decide))) (va_eqt (hs (Cond.eq (.static "java/lang/String" "COMPACT_STRINGS" "Z") (.int 1)) (List.mem_of_getElem? (i := 4) (by decide +kernel)))) hA
  · have hi : (Cond.initialized Bundle.tN).before args s = true := hts _ (List.mem_of_getElem? (i := 128) (by decide +kernel))
    refine ⟨va_Nw.of rfl (hts _ (List.mem_of_getElem? (i := 1164) (by decide +kernel))), va_Nw.of rfl (hts _ (List.mem_of_getElem? (i := 1166) (by decide +kernel))), va_Nw.of rfl (hts _ (List.mem_of_getElem? (i := 1168) (by decide +kernel))), va_any rfl (hts _ (List.mem_of_getElem? (i := 1163) (by decide +kernel))), vx_Zqof (hts _ (List.mem_of_getElem? (i := 1188) (by decide +kernel))) hi (hs _ (List.mem_of_getElem? (i := 9) (by decide +kernel))) hA, vx_Zqof (hts _ (List.mem_of_getElem? (i := 1190) (by decide +kernel))) hi (hs _ (List.mem_of_getElem? (i := 10) (by decide +kernel))) hA⟩
end OS
