/-! rests() of the landed one: it returns or throws -/
section TP
variable {E : EV} {d : Nat} {C : CT} {F : FT} {G : GT} {R : RT} {a c e k l u v w : Int32}
theorem w_within : Tm E d 114 0 [some (vi u), some (vi v), some (vi w)] [] C F G R (some (vi (b2i (isW2 u v w)))) (C, F, G, R) := by
  refine t_run 2 rfl ?_
  refine t_ic_lt k114_2 (fun h2 => ?_) (fun h2 => ?_)
  · have h2 : ¬ v ≤ u := Int32.not_le.mpr h2
    refine t_run 1 rfl ?_
    exact t_ib k114_15 (by simp [isW2, b2i, *])
  · have h2 : v ≤ u := Int32.not_lt.mp h2
    refine t_run 2 rfl ?_
    refine t_ic_gt k114_7 (fun h7 => ?_) (fun h7 => ?_)
    · have h7 : ¬ u ≤ w := Int32.not_le.mpr h7
      refine t_run 1 rfl ?_
      exact t_ib k114_15 (by simp [isW2, b2i, *])
    · have h7 : u ≤ w := Int32.not_lt.mp h7
      refine t_run 2 rfl ?_
      exact t_ib k114_15 (by simp [isW2, b2i, *])
theorem w_payOf : Tm E d 125 0 [some (vi k), some (vi l), some (vi a), some (vi c), some (vi e)] [] C F G R (some (vi (getB a c e k l))) (C, F, G, R) := by
  refine t_run 2 rfl ?_
  refine t_ic_ne k125_2 (fun h2 => ?_) (fun h2 => ?_)
  · refine t_run 2 rfl ?_
    refine t_ic_ne k125_19 (fun h19 => ?_) (fun h19 => ?_)
    · refine t_run 1 rfl ?_
      exact t_ir k125_28 rfl (by simp [getB, *])
    · refine t_run 2 rfl ?_
      exact t_ir k125_28 rfl (by simp [getB, *])
  · refine t_run 2 rfl ?_
    refine t_ic_ne k125_7 (fun h7 => ?_) (fun h7 => ?_)
    · refine t_run 2 rfl ?_
      exact t_ir k125_16 rfl (by simp [getB, *])
    · refine t_run 2 rfl ?_
      exact t_ir k125_16 rfl (by simp [getB, *])
theorem w_atRest (hd : 1 ≤ d) : Tm E d 124 0 [some (vi k), some (vi a), some (vi c), some (vi e), none, none] [] C F G R (some (vi (b2i (stb a c e (ibop 7 k 1) (ibop 3 k 1))))) (C, F, G, R) := by
  refine t_run 13 rfl ?_
  refine t_call 5 k124_17 (by omega) (Nat.le_of_ble_eq_true rfl) rfl (Nat.le_of_ble_eq_true rfl) (Nat.le_of_ble_eq_true rfl) recv_st rfl w_payOf rfl ?_
  refine t_run 7 rfl ?_
  refine t_call 5 k124_29 (by omega) (Nat.le_of_ble_eq_true rfl) rfl (Nat.le_of_ble_eq_true rfl) (Nat.le_of_ble_eq_true rfl) recv_st rfl w_payOf rfl ?_
  refine t_ic_lt k124_32 (fun h32 => ?_) (fun h32 => ?_)
  · have eS : stb a c e (ibop 7 k 1) (ibop 3 k 1) = false := by simp only [stb]; rw [decide_eq_false (Int32.not_le.mpr h32), Bool.false_and]
    refine t_run 1 rfl ?_
    exact t_ib k124_65 (by rw [eS]; rfl)
  · refine t_run 5 rfl ?_
    refine t_call 5 k124_42 (by omega) (Nat.le_of_ble_eq_true rfl) rfl (Nat.le_of_ble_eq_true rfl) (Nat.le_of_ble_eq_true rfl) recv_st rfl w_payOf rfl ?_
    refine t_run 7 rfl ?_
    refine t_call 5 k124_54 (by omega) (Nat.le_of_ble_eq_true rfl) rfl (Nat.le_of_ble_eq_true rfl) (Nat.le_of_ble_eq_true rfl) recv_st rfl w_payOf rfl ?_
    refine t_ic_lt k124_57 (fun h57 => ?_) (fun h57 => ?_)
    · have eS : stb a c e (ibop 7 k 1) (ibop 3 k 1) = false := by simp only [stb]; rw [decide_eq_false (Int32.not_le.mpr h57), Bool.and_false]
      refine t_run 1 rfl ?_
      exact t_ib k124_65 (by rw [eS]; rfl)
    · have eS : stb a c e (ibop 7 k 1) (ibop 3 k 1) = true := by simp only [stb, Bool.and_eq_true, decide_eq_true_eq]; exact ⟨Int32.not_lt.mp h32, Int32.not_lt.mp h57⟩
      refine t_run 2 rfl ?_
      exact t_ib k124_65 (by rw [eS]; rfl)
end TP
theorem orc0 {l : Launch} {X : CX} {Ls : Nat} {xs : Nat → Int32} : OrcO l X Ls xs (fun _ _ => none) := by
  intro as h r t ho
  cases ho
theorem ct_within {l : Launch} {X : CX} {Ls : Nat} {xs : Nat → Int32} {h : HS} {u v w : Int32} : Ctr l X Ls xs 114 3 [vi u, vi v, vi w] h (some (vi (b2i (isW2 u v w)))) h := by
  obtain ⟨C, F, G, R⟩ := h
  obtain ⟨f, hf⟩ := w_within (E := (Ls, xs, fun _ _ => none)) (d := 3) (C := C) (F := F) (G := G) (R := R) (u := u) (v := v) (w := w)
  exact ctr_run orc0 (by decide +kernel) (Nat.le_of_ble_eq_true rfl) hf
theorem ct_atRest {l : Launch} {X : CX} {Ls : Nat} {xs : Nat → Int32} {h : HS} {k a c e : Int32} : Ctr l X Ls xs 124 3 [vi k, vi a, vi c, vi e] h (some (vi (b2i (stb a c e (ibop 7 k 1) (ibop 3 k 1))))) h := by
  obtain ⟨C, F, G, R⟩ := h
  obtain ⟨f, hf⟩ := w_atRest (E := (Ls, xs, fun _ _ => none)) (d := 3) (C := C) (F := F) (G := G) (R := R) (k := k) (a := a) (c := c) (e := e) (by omega)
  exact ctr_run orc0 (by decide +kernel) (Nat.le_of_ble_eq_true rfl) hf
abbrev codR : ByteArray := prog_1_method_27_code
abbrev codL : ByteArray := method_3_code
def cdR : List (Nat × Ent) := [(0, 2, 1, 0, z0, 1), (1, 0, 0, 0, z0, 2), (2, 0, 0, 0, vi (9), 4), (4, 34, 114, 3, z0, 7), (7, 27, 0, 30, z0, 10), (10, 2, 2, 0, z0, 11), (11, 0, 0, 0, z0, 12), (12, 0, 0, 0, vi (9), 14), (14, 34, 114, 3, z0, 17), (17, 27, 0, 30, z0, 20), (20, 2, 3, 0, z0, 21), (21, 0, 0, 0, z0, 22), (22, 0, 0, 0, vi (9), 24), (24, 34, 114, 3, z0, 27), (27, 27, 1, 38, z0, 30), (30, 99, 0, 0, z0, 33), (33, 23, 0, 0, z0, 34), (34, 99, 0, 0, z0, 37), (37, 99, 0, 0, z0, 38), (38, 0, 0, 0, z0, 39), (39, 5, 5, 0, z0, 41), (41, 0, 0, 0, z0, 42), (42, 5, 6, 0, z0, 44), (44, 2, 6, 0, z0, 46), (46, 0, 0, 0, vi (4), 47), (47, 28, 3, 80, z0, 50), (50, 2, 6, 0, z0, 52), (52, 2, 1, 0, z0, 53), (53, 2, 2, 0, z0, 54), (54, 2, 3, 0, z0, 55), (55, 34, 124, 4, z0, 58), (58, 27, 0, 74, z0, 61), (61, 2, 5, 0, z0, 63), (63, 2, 4, 0, z0, 65), (65, 28, 1, 71, z0, 68), (68, 2, 6, 0, z0, 70), (70, 36, 1, 0, z0, 71), (71, 8, 5, 0, vi (1), 74), (74, 8, 6, 0, vi (1), 77), (77, 26, 44, 0, z0, 80), (80, 2, 4, 0, z0, 82), (82, 0, 0, 0, vi (-1), 83), (83, 28, 0, 94, z0, 86), (86, 99, 0, 0, z0, 89), (89, 23, 0, 0, z0, 90), (90, 99, 0, 0, z0, 93), (93, 99, 0, 0, z0, 94), (94, 2, 5, 0, z0, 96), (96, 36, 1, 0, z0, 97)]
def cdL : List (Nat × Ent) := [(0, 4, 5, 0, z0, 2), (2, 0, 0, 0, z0, 3), (3, 4, 0, 0, z0, 4), (4, 2, 1, 0, z0, 5), (5, 2, 2, 0, z0, 6), (6, 2, 3, 0, z0, 7), (7, 2, 4, 0, z0, 9), (9, 99, 0, 0, z0, 12), (12, 19, 0, 0, z0, 13), (13, 32, 4, 0, z0, 14), (14, 26, 21, 0, z0, 17), (17, 7, 6, 0, z0, 19), (19, 0, 0, 0, vi (1), 20), (20, 36, 1, 0, z0, 21), (21, 0, 0, 0, z0, 22), (22, 36, 1, 0, z0, 23)]
def tabOK (T : List (Nat × Ent)) (cc : ByteArray) : Bool := T.all fun x => decide (29 ≤ x.2.1) || (match decode cc x.1 with
  | .ok (ins, len) => agb x.1 ins len x.2.1 x.2.2.1 x.2.2.2.1 x.2.2.2.2.1 x.2.2.2.2.2
  | .error _ => false)
theorem cdR_ok : tabOK cdR codR = true := by decide +kernel
theorem cdL_ok : tabOK cdL codL = true := by decide +kernel
def prT (T : List (Nat × Ent)) : Nat → Nat → LL → List PV → Option (Nat × (LL × List PV))
  | 0, pc, L, st => some (pc, L, st)
  | k + 1, pc, L, st => match T.lookup pc with
    | some (op, a, b, z, q) => if op < 27 then match pst op a b z q L st with
        | some (q1, L1, st1) => prT T k q1 L1 st1
        | none => none
      else none
    | none => none
def CR (p : Program) (s : State) (m : MethodId) (args : Array Value) (c : Code) (cc : ByteArray) (ow : Nat) (X : CX) (Ls : Nat) (xs : Nat → Int32) : Prop :=
  p.tables.exec = Jvm.exec ∧ c.code = cc ∧ c.maxLocals = 7 ∧ s.vm.findClass (own ow) = some m.cls ∧ (∀ w ∈ wtb, w.before args s = true) ∧ Ou X Ls xs s s.heap
def RG (p : Program) (l : Launch) (e : Env) (R : Room) (s : State) (m : MethodId) (args : Array Value) (below : List Frame) (meth : Method) (c : Code) (cells slots : Nat) (Q : State → Prop) (X : CX) (h : HS) (pc : Nat) (L : LL) (st : List PV) : Prop :=
  ∀ (H : Heap) (locs : List Loc) (ls : Array Slot), Rel X h H → va_S (xA X) s.heap H locs → hasL X ls 7 L → W p l e R s m args below meth c H locs cells slots Q (F0 m pc ls (st.map (trv X)))
section RR
variable {p : Program} {l : Launch} {e : Env} {R : Room} {s : State} {m : MethodId} {args : Array Value} {below : List Frame} {meth : Method} {c : Code} {cells slots : Nat} {Q : State → Prop}
variable {T : List (Nat × Ent)} {cc : ByteArray} {ow pc op a b q q1 d idx : Nat} {z : PV} {L L1 : LL} {st st1 : List PV} {X : CX} {Ls : Nat} {xs : Nat → Int32} {h : HS} {r : Option PV} {x y : Int32}
theorem rg_p (C : CR p s m args c cc ow X Ls xs) (hT : tabOK T cc = true) (he : T.lookup pc = some (op, a, b, z, q)) (ho : op < 29) (hs : pst op a b z q L st = some (q1, L1, st1)) (kk : RG p l e R s m args below meth c cells slots Q X h q1 L1 st1) : RG p l e R s m args below meth c cells slots Q X h pc L st := by
  intro H locs ls hR hS hl
  have h2 : (pc, op, a, b, z, q) ∈ T := by
    rw [List.lookup_eq_some_iff] at he
    obtain ⟨l1, l2, h3, -⟩ := he
    rw [h3]
    simp
  have h1 := List.all_eq_true.mp hT _ h2
  simp only [Bool.or_eq_true, decide_eq_true_eq] at h1
  have h1 := h1.resolve_left (by omega)
  split at h1
  · rename_i ins len hde
    exact sp_all C.1 C.2.1 (show Ou X Ls xs s s.heap from C.2.2.2.2.2).2.2.2.2.2.2.2.2.2.2.2 hde (agb_ok h1) hs hl (fun ls' hl' => kk H locs ls' hR hS hl')
  · cases h1
theorem rg_run (C : CR p s m args c cc ow X Ls xs) (hT : tabOK T cc = true) : ∀ (k : Nat) {pc : Nat} {L : LL} {st : List PV}, prT T k pc L st = some (q1, L1, st1) → RG p l e R s m args below meth c cells slots Q X h q1 L1 st1 → RG p l e R s m args below meth c cells slots Q X h pc L st
  | 0, pc, L, st, h, kk => by
    simp only [prT, Option.some.injEq, Prod.mk.injEq] at h
    obtain ⟨rfl, rfl, rfl⟩ := h
    exact kk
  | k + 1, pc, L, st, h, kk => by
    unfold prT at h
    split at h
    · rename_i op a b z q he
      split at h
      · rename_i ho
        split at h
        · rename_i hs
          exact rg_p C hT he (by omega) hs (rg_run C hT k h kk)
        · cases h
      · cases h
    · cases h
theorem rg_if (C : CR p s m args c cc ow X Ls xs) (hT : tabOK T cc = true) (he : T.lookup pc = some (27, a, b, z, q)) (k1 : cnd a x 0 = true → RG p l e R s m args below meth c cells slots Q X h b L st) (k2 : cnd a x 0 = false → RG p l e R s m args below meth c cells slots Q X h q L st) : RG p l e R s m args below meth c cells slots Q X h pc L (vi x :: st) := by
  cases hc : cnd a x 0 with
  | true => exact rg_p C hT he (by omega) (by simp only [pst, hc]; rfl) (k1 hc)
  | false => exact rg_p C hT he (by omega) (by simp only [pst, hc]; rfl) (k2 hc)
theorem rg_ic (C : CR p s m args c cc ow X Ls xs) (hT : tabOK T cc = true) (he : T.lookup pc = some (28, a, b, z, q)) (k1 : cnd a x y = true → RG p l e R s m args below meth c cells slots Q X h b L st) (k2 : cnd a x y = false → RG p l e R s m args below meth c cells slots Q X h q L st) : RG p l e R s m args below meth c cells slots Q X h pc L (vi y :: vi x :: st) := by
  cases hc : cnd a x y with
  | true => exact rg_p C hT he (by omega) (by simp only [pst, hc]; rfl) (k1 hc)
  | false => exact rg_p C hT he (by omega) (by simp only [pst, hc]; rfl) (k2 hc)
theorem rg_call (C : CR p s m args c cc ow X Ls xs) (ham : a ∈ mAll) (hM : Ctr l X Ls xs a d (st.take b).reverse h r h) (hbl : b ≤ st.length) (hcat : ((st.drop b).map catP).sum ≤ 8) (hbn : b = np a) (hlk : Cond.methodLink (own ow) idx (yy a) ∈ wtb) (hstt : Cond.static (yy a) ∈ wtb) (hf : d + 1 ≤ R.frames) (hlo : 64 * (d + 1) ≤ R.locals) (hc1 : cells ≤ R.cells) (hc2 : slots ≤ R.slots) (hN : ¬ h.1.1 < NN) (hd : decode cc pc = .ok (.invokestatic idx, 3)) (kk : RG p l e R s m args below meth c cells slots Q X h (pc + 3) L (r.toList ++ st.drop b)) : RG p l e R s m args below meth c cells slots Q X h pc L st := by
  intro H locs ls hR hS hl
  obtain ⟨hx, hb, hml, hown, hts, hO⟩ := C
  have hX : (xo X).category = 1 := hO.2.2.2.2.2.2.2.2.2.2.2
  have hn : ((st.take b).reverse.map (trv X)).length = np a := by simp; omega
  have hW : 2 * (F0 m pc ls (st.map (trv X))).monitorRoom + (((st.drop b).map (trv X)).map fun v => v.category).sum ≤ 8 := lv_room (by rw [cat_sum hX]; exact hcat)
  have hmx := mx_le (mm := a)
  have hcb : CallB R s args (own ow) idx (yy a) (bb a) (mx a) (rr a) (wsm a) (rmm d (dC h h) (dS h h)) (dC h h) (dS h h) (np a) := by
    refine callB_of (np a) hts (wtb_goodIn a ham) rfl rfl rfl ?_ (hts _ hlk) (mm_facts ham).2.1 ⟨hf, ?_⟩
    · rw [(mm_facts ham).2.2]
      exact hts _ (own_in _ (mo_lt ham))
    · show 8 + (mx a + 11) + 64 * d ≤ R.locals
      omega
  refine sc_back (va_runS ⟨hx, hb, hml, hown, hts⟩ hM ⟨hcb, hts _ hstt⟩ ⟨PcX_blind, PcX_pre hO hR hS (fun hn => absurd hn hN)⟩ rfl hn hl.2.1 (st_split b _) hW hd ⟨by rw [dC_self]; omega, by rw [dS_self]; omega⟩) hS (fun H1 locs1 g1 g2 => ?_)
  have k1 := kk H1 locs1 ls g1 g2 hl
  rw [List.map_append] at k1
  rw [dC_self, dS_self, Nat.add_zero, Nat.add_zero]
  exact k1
end RR
def yR : MethodName := ⟨own 11, "rests", "(IIII)I"⟩
def yL : MethodName := ⟨own 19, "rests", "(LStrangeWinding;IIII[J)I"⟩
theorem wR_in : ∀ w ∈ [Cond.code yR codR 7 (some .int), Cond.methodLink (own 19) 7 yR, Cond.instanceMethod yR, Cond.selects (own 11) yR yR, Cond.classLink (own 11) 288 nse, Cond.initialized nse, Cond.methodLink (own 11) 291 (yy 124), Cond.static (yy 124)], w ∈ wtb := tb_all _ [1160, 1157, 1158, 1159, 1161, 131, 1222, 1223] (by decide +kernel) (by decide +kernel)
theorem wL_in : ∀ w ∈ [Cond.methodLink (own 19) 129 yL, Cond.static yL, Cond.codeWith yL codL 7 (some .int) [(0, 14, 17, 13)], Cond.classLink (own 19) 13 nse], w ∈ wtb := tb_all _ [1153, 1154, 1155, 1156] (by decide +kernel) (by decide +kernel)
/-- what is owed where it returns and where it throws -/
def RE (p : Program) (l : Launch) (e : Env) (R : Room) (s : State) (m : MethodId) (args : Array Value) (below : List Frame) (meth : Method) (c : Code) (cells slots : Nat) (Q : State → Prop) (X : CX) (h : HS) (v : Int32 × Int32) : Prop :=
  (∀ (x : Int32) (L : LL) (pc : Nat), v = (x, 0) → decode codR pc = .ok (.ireturn, 1) → RG p l e R s m args below meth c cells slots Q X h pc L [vi x]) ∧ (v.2 = 1 → ∀ (L : LL) (pc : Nat), pc = 30 ∨ pc = 86 → RG p l e R s m args below meth c cells slots Q X h pc L [])
section RB
variable {p : Program} {l : Launch} {e : Env} {R : Room} {s : State} {m : MethodId} {args : Array Value} {below : List Frame} {meth : Method} {c : Code} {cells slots : Nat} {Q : State → Prop}
variable {X : CX} {Ls : Nat} {xs : Nat → Int32} {h : HS} {u1 u2 u3 u4 n : Int32}
theorem rl4 (C : CR p s m args c codR 11 X Ls xs) (hE : RE p l e R s m args below meth c cells slots Q X h (rsG u1 u2 u3 u4 [] n)) : RG p l e R s m args below meth c cells slots Q X h 44 [some (vr 1 0), some (vi u1), some (vi u2), some (vi u3), some (vi u4), some (vi n), some (vi 4)] [] := by
  refine rg_run C cdR_ok 2 rfl ?_
  refine rg_ic C cdR_ok rfl (fun _ => ?_) (fun h47 => absurd h47 (by decide))
  refine rg_run C cdR_ok 2 rfl ?_
  refine rg_ic C cdR_ok rfl (fun h83 => ?_) (fun h83 => ?_)
  · have h83 : u4 = -1 := by simpa [cnd] using h83
    refine rg_run C cdR_ok 1 rfl ?_
    exact hE.1 n _ 96 (by simp only [rsG]; rw [if_pos h83]) (by decide +kernel)
  · have h83 : ¬ u4 = -1 := by simpa [cnd] using h83
    exact hE.2 (by simp only [rsG]; rw [if_neg h83]) _ 86 (Or.inr rfl)
theorem rl3 (C : CR p s m args c codR 11 X Ls xs) (hN : ¬ h.1.1 < NN) (hf : 6 ≤ R.frames) (hlo : 384 ≤ R.locals) (hc1 : cells ≤ R.cells) (hc2 : slots ≤ R.slots) (hE : RE p l e R s m args below meth c cells slots Q X h (rsG u1 u2 u3 u4 [(3, 1, 1)] n)) : RG p l e R s m args below meth c cells slots Q X h 44 [some (vr 1 0), some (vi u1), some (vi u2), some (vi u3), some (vi u4), some (vi n), some (vi 3)] [] := by
  refine rg_run C cdR_ok 2 rfl ?_
  refine rg_ic C cdR_ok rfl (fun h47 => absurd h47 (by decide)) (fun _ => ?_)
  refine rg_run C cdR_ok 4 rfl ?_
  have hM := ct_atRest (l := l) (X := X) (Ls := Ls) (xs := xs) (h := h) (k := 3) (a := u1) (c := u2) (e := u3)
  rw [show ibop 7 3 1 = 1 by decide, show ibop 3 3 1 = 1 by decide] at hM
  refine rg_call (b := 4) (d := 3) (idx := 291) C (by decide +kernel) hM (Nat.le_of_ble_eq_true rfl) (Nat.le_of_ble_eq_true rfl) (by decide +kernel) (wR_in _ (by simp)) (wR_in _ (by simp)) (by omega) (by omega) hc1 hc2 hN (by decide +kernel) ?_
  refine rg_if C cdR_ok rfl (fun h58 => ?_) (fun h58 => ?_)
  · have h58 : stb u1 u2 u3 1 1 = false := by
      cases hs : stb u1 u2 u3 1 1
      · rfl
      · rw [hs] at h58; exact absurd h58 (by decide)
    rw [rsG_no h58] at hE
    refine rg_run C cdR_ok 2 rfl ?_
    rw [show (3 : Int32) + 1 = 4 by decide]
    exact rl4 C hE
  · have h58 : stb u1 u2 u3 1 1 = true := by
      cases hs : stb u1 u2 u3 1 1
      · rw [hs] at h58; exact absurd h58 (by decide)
      · rfl
    refine rg_run C cdR_ok 2 rfl ?_
    refine rg_ic C cdR_ok rfl (fun h65 => ?_) (fun h65 => ?_)
    · have h65 : ¬ n = u4 := by simpa [cnd] using h65
      rw [rsG_go h58 h65] at hE
      refine rg_run C cdR_ok 3 rfl ?_
      rw [show (3 : Int32) + 1 = 4 by decide]
      exact rl4 C hE
    · have h65 : n = u4 := by simpa [cnd] using h65
      rw [rsG_at h58 h65] at hE
      refine rg_run C cdR_ok 1 rfl ?_
      exact hE.1 _ _ 70 rfl (by decide +kernel)
theorem rl2 (C : CR p s m args c codR 11 X Ls xs) (hN : ¬ h.1.1 < NN) (hf : 6 ≤ R.frames) (hlo : 384 ≤ R.locals) (hc1 : cells ≤ R.cells) (hc2 : slots ≤ R.slots) (hE : RE p l e R s m args below meth c cells slots Q X h (rsG u1 u2 u3 u4 [(2, 1, 0), (3, 1, 1)] n)) : RG p l e R s m args below meth c cells slots Q X h 44 [some (vr 1 0), some (vi u1), some (vi u2), some (vi u3), some (vi u4), some (vi n), some (vi 2)] [] := by
  refine rg_run C cdR_ok 2 rfl ?_
  refine rg_ic C cdR_ok rfl (fun h47 => absurd h47 (by decide)) (fun _ => ?_)
  refine rg_run C cdR_ok 4 rfl ?_
  have hM := ct_atRest (l := l) (X := X) (Ls := Ls) (xs := xs) (h := h) (k := 2) (a := u1) (c := u2) (e := u3)
  rw [show ibop 7 2 1 = 1 by decide, show ibop 3 2 1 = 0 by decide] at hM
  refine rg_call (b := 4) (d := 3) (idx := 291) C (by decide +kernel) hM (Nat.le_of_ble_eq_true rfl) (Nat.le_of_ble_eq_true rfl) (by decide +kernel) (wR_in _ (by simp)) (wR_in _ (by simp)) (by omega) (by omega) hc1 hc2 hN (by decide +kernel) ?_
  refine rg_if C cdR_ok rfl (fun h58 => ?_) (fun h58 => ?_)
  · have h58 : stb u1 u2 u3 1 0 = false := by
      cases hs : stb u1 u2 u3 1 0
      · rfl
      · rw [hs] at h58; exact absurd h58 (by decide)
    rw [rsG_no h58] at hE
    refine rg_run C cdR_ok 2 rfl ?_
    rw [show (2 : Int32) + 1 = 3 by decide]
    exact rl3 C hN hf hlo hc1 hc2 hE
  · have h58 : stb u1 u2 u3 1 0 = true := by
      cases hs : stb u1 u2 u3 1 0
      · rw [hs] at h58; exact absurd h58 (by decide)
      · rfl
    refine rg_run C cdR_ok 2 rfl ?_
    refine rg_ic C cdR_ok rfl (fun h65 => ?_) (fun h65 => ?_)
    · have h65 : ¬ n = u4 := by simpa [cnd] using h65
      rw [rsG_go h58 h65] at hE
      refine rg_run C cdR_ok 3 rfl ?_
      rw [show (2 : Int32) + 1 = 3 by decide]
      exact rl3 C hN hf hlo hc1 hc2 hE
    · have h65 : n = u4 := by simpa [cnd] using h65
      rw [rsG_at h58 h65] at hE
      refine rg_run C cdR_ok 1 rfl ?_
      exact hE.1 _ _ 70 rfl (by decide +kernel)
theorem rl1 (C : CR p s m args c codR 11 X Ls xs) (hN : ¬ h.1.1 < NN) (hf : 6 ≤ R.frames) (hlo : 384 ≤ R.locals) (hc1 : cells ≤ R.cells) (hc2 : slots ≤ R.slots) (hE : RE p l e R s m args below meth c cells slots Q X h (rsG u1 u2 u3 u4 [(1, 0, 1), (2, 1, 0), (3, 1, 1)] n)) : RG p l e R s m args below meth c cells slots Q X h 44 [some (vr 1 0), some (vi u1), some (vi u2), some (vi u3), some (vi u4), some (vi n), some (vi 1)] [] := by
  refine rg_run C cdR_ok 2 rfl ?_
  refine rg_ic C cdR_ok rfl (fun h47 => absurd h47 (by decide)) (fun _ => ?_)
  refine rg_run C cdR_ok 4 rfl ?_
  have hM := ct_atRest (l := l) (X := X) (Ls := Ls) (xs := xs) (h := h) (k := 1) (a := u1) (c := u2) (e := u3)
  rw [show ibop 7 1 1 = 0 by decide, show ibop 3 1 1 = 1 by decide] at hM
  refine rg_call (b := 4) (d := 3) (idx := 291) C (by decide +kernel) hM (Nat.le_of_ble_eq_true rfl) (Nat.le_of_ble_eq_true rfl) (by decide +kernel) (wR_in _ (by simp)) (wR_in _ (by simp)) (by omega) (by omega) hc1 hc2 hN (by decide +kernel) ?_
  refine rg_if C cdR_ok rfl (fun h58 => ?_) (fun h58 => ?_)
  · have h58 : stb u1 u2 u3 0 1 = false := by
      cases hs : stb u1 u2 u3 0 1
      · rfl
      · rw [hs] at h58; exact absurd h58 (by decide)
    rw [rsG_no h58] at hE
    refine rg_run C cdR_ok 2 rfl ?_
    rw [show (1 : Int32) + 1 = 2 by decide]
    exact rl2 C hN hf hlo hc1 hc2 hE
  · have h58 : stb u1 u2 u3 0 1 = true := by
      cases hs : stb u1 u2 u3 0 1
      · rw [hs] at h58; exact absurd h58 (by decide)
      · rfl
    refine rg_run C cdR_ok 2 rfl ?_
    refine rg_ic C cdR_ok rfl (fun h65 => ?_) (fun h65 => ?_)
    · have h65 : ¬ n = u4 := by simpa [cnd] using h65
      rw [rsG_go h58 h65] at hE
      refine rg_run C cdR_ok 3 rfl ?_
      rw [show (1 : Int32) + 1 = 2 by decide]
      exact rl2 C hN hf hlo hc1 hc2 hE
    · have h65 : n = u4 := by simpa [cnd] using h65
      rw [rsG_at h58 h65] at hE
      refine rg_run C cdR_ok 1 rfl ?_
      exact hE.1 _ _ 70 rfl (by decide +kernel)
theorem rl0 (C : CR p s m args c codR 11 X Ls xs) (hN : ¬ h.1.1 < NN) (hf : 6 ≤ R.frames) (hlo : 384 ≤ R.locals) (hc1 : cells ≤ R.cells) (hc2 : slots ≤ R.slots) (hE : RE p l e R s m args below meth c cells slots Q X h (rsG u1 u2 u3 u4 [(0, 0, 0), (1, 0, 1), (2, 1, 0), (3, 1, 1)] n)) : RG p l e R s m args below meth c cells slots Q X h 44 [some (vr 1 0), some (vi u1), some (vi u2), some (vi u3), some (vi u4), some (vi n), some (vi 0)] [] := by
  refine rg_run C cdR_ok 2 rfl ?_
  refine rg_ic C cdR_ok rfl (fun h47 => absurd h47 (by decide)) (fun _ => ?_)
  refine rg_run C cdR_ok 4 rfl ?_
  have hM := ct_atRest (l := l) (X := X) (Ls := Ls) (xs := xs) (h := h) (k := 0) (a := u1) (c := u2) (e := u3)
  rw [show ibop 7 0 1 = 0 by decide, show ibop 3 0 1 = 0 by decide] at hM
  refine rg_call (b := 4) (d := 3) (idx := 291) C (by decide +kernel) hM (Nat.le_of_ble_eq_true rfl) (Nat.le_of_ble_eq_true rfl) (by decide +kernel) (wR_in _ (by simp)) (wR_in _ (by simp)) (by omega) (by omega) hc1 hc2 hN (by decide +kernel) ?_
  refine rg_if C cdR_ok rfl (fun h58 => ?_) (fun h58 => ?_)
  · have h58 : stb u1 u2 u3 0 0 = false := by
      cases hs : stb u1 u2 u3 0 0
      · rfl
      · rw [hs] at h58; exact absurd h58 (by decide)
    rw [rsG_no h58] at hE
    refine rg_run C cdR_ok 2 rfl ?_
    rw [show (0 : Int32) + 1 = 1 by decide]
    exact rl1 C hN hf hlo hc1 hc2 hE
  · have h58 : stb u1 u2 u3 0 0 = true := by
      cases hs : stb u1 u2 u3 0 0
      · rw [hs] at h58; exact absurd h58 (by decide)
      · rfl
    refine rg_run C cdR_ok 2 rfl ?_
    refine rg_ic C cdR_ok rfl (fun h65 => ?_) (fun h65 => ?_)
    · have h65 : ¬ n = u4 := by simpa [cnd] using h65
      rw [rsG_go h58 h65] at hE
      refine rg_run C cdR_ok 3 rfl ?_
      rw [show (0 : Int32) + 1 = 1 by decide]
      exact rl1 C hN hf hlo hc1 hc2 hE
    · have h65 : n = u4 := by simpa [cnd] using h65
      rw [rsG_at h58 h65] at hE
      refine rg_run C cdR_ok 1 rfl ?_
      exact hE.1 _ _ 70 rfl (by decide +kernel)
theorem rsG_low {w : Int32} (hw : w < -1) : ∀ (ll : List (Int32 × Int32 × Int32)) (k : Nat), k + ll.length ≤ 1000 → rsG u1 u2 u3 w ll (nI k) = (0, 1)
  | [], k, _ => by
    simp only [rsG]
    rw [if_neg (fun hq => by rw [hq] at hw; exact absurd hw (by decide))]
  | (i, p, q) :: ll, k, hk => by
    have hk2 : k + 1 + ll.length ≤ 1000 := by simp only [List.length_cons] at hk; omega
    have hne : ¬ nI k = w := by
      intro hq
      rw [← hq] at hw
      have h0 : (0 : Int32) ≤ nI k := nI_pos' (by omega)
      have h1 : nI k < 0 := Int32.lt_trans hw (by decide)
      exact absurd h0 (Int32.not_le.mpr h1)
    have e1 : nI k + 1 = nI (k + 1) := by rw [show (1 : Int32) = nI 1 from rfl, nI_add]
    cases hs : stb u1 u2 u3 p q with
    | true =>
      rw [rsG_go hs hne, e1]
      exact rsG_low hw ll (k + 1) hk2
    | false =>
      rw [rsG_no hs]
      exact rsG_low hw ll k (by omega)
theorem rsA_in (h1 : isW2 u1 0 9 = true) (h2 : isW2 u2 0 9 = true) (h3 : isW2 u3 0 9 = true) : rsA u1 u2 u3 u4 = rsG u1 u2 u3 u4 [(0, 0, 0), (1, 0, 1), (2, 1, 0), (3, 1, 1)] 0 := by
  unfold rsA
  by_cases hw : -1 ≤ u4
  · rw [if_pos (by simp only [g_rests]; rw [h1, h2, h3, decide_eq_true hw]; rfl)]
  · rw [if_neg (by simp only [g_rests]; rw [decide_eq_false hw]; simp)]
    exact (rsG_low (Int32.not_le.mp hw) _ 0 (by decide)).symm
theorem rsA_out (hq : ¬ (isW2 u1 0 9 = true ∧ isW2 u2 0 9 = true ∧ isW2 u3 0 9 = true)) : rsA u1 u2 u3 u4 = (0, 1) := by
  unfold rsA
  rw [if_neg]
  intro hg
  simp only [g_rests, Bool.and_eq_true] at hg
  exact hq ⟨hg.1, hg.2.1, hg.2.2.1⟩
theorem rests_go (C : CR p s m args c codR 11 X Ls xs) (hN : ¬ h.1.1 < NN) (hf : 6 ≤ R.frames) (hlo : 384 ≤ R.locals) (hc1 : cells ≤ R.cells) (hc2 : slots ≤ R.slots) (hE : RE p l e R s m args below meth c cells slots Q X h (rsA u1 u2 u3 u4)) : RG p l e R s m args below meth c cells slots Q X h 0 [some (vr 1 0), some (vi u1), some (vi u2), some (vi u3), some (vi u4), none, none] [] := by
  refine rg_run C cdR_ok 3 rfl ?_
  refine rg_call (b := 3) (d := 3) (idx := 217) C (by decide +kernel) (ct_within (u := u1) (v := 0) (w := 9)) (Nat.le_of_ble_eq_true rfl) (Nat.le_of_ble_eq_true rfl) (by decide +kernel) (mlk_link (q := 1) (by decide +kernel) (by decide)) (stat_in _ (List.mem_map.mpr ⟨114, by decide, rfl⟩)) (by omega) (by omega) hc1 hc2 hN (by decide +kernel) ?_
  refine rg_if C cdR_ok rfl (fun hb => hE.2 (by
    have hw : isW2 u1 0 9 = false := by
      cases hs : isW2 u1 0 9
      · rfl
      · rw [hs] at hb; exact absurd hb (by decide)
    rw [rsA_out (by rw [hw]; simp)]) _ 30 (Or.inl rfl)) (fun hg0 => ?_)
  refine rg_run C cdR_ok 3 rfl ?_
  refine rg_call (b := 3) (d := 3) (idx := 217) C (by decide +kernel) (ct_within (u := u2) (v := 0) (w := 9)) (Nat.le_of_ble_eq_true rfl) (Nat.le_of_ble_eq_true rfl) (by decide +kernel) (mlk_link (q := 1) (by decide +kernel) (by decide)) (stat_in _ (List.mem_map.mpr ⟨114, by decide, rfl⟩)) (by omega) (by omega) hc1 hc2 hN (by decide +kernel) ?_
  refine rg_if C cdR_ok rfl (fun hb => hE.2 (by
    have hw : isW2 u2 0 9 = false := by
      cases hs : isW2 u2 0 9
      · rfl
      · rw [hs] at hb; exact absurd hb (by decide)
    rw [rsA_out (by rw [hw]; simp)]) _ 30 (Or.inl rfl)) (fun hg1 => ?_)
  refine rg_run C cdR_ok 3 rfl ?_
  refine rg_call (b := 3) (d := 3) (idx := 217) C (by decide +kernel) (ct_within (u := u3) (v := 0) (w := 9)) (Nat.le_of_ble_eq_true rfl) (Nat.le_of_ble_eq_true rfl) (by decide +kernel) (mlk_link (q := 1) (by decide +kernel) (by decide)) (stat_in _ (List.mem_map.mpr ⟨114, by decide, rfl⟩)) (by omega) (by omega) hc1 hc2 hN (by decide +kernel) ?_
  refine rg_if C cdR_ok rfl (fun hg2 => ?_) (fun hb => hE.2 (by
    have hw : isW2 u3 0 9 = false := by
      cases hs : isW2 u3 0 9
      · rfl
      · rw [hs] at hb; exact absurd hb (by decide)
    rw [rsA_out (by rw [hw]; simp)]) _ 30 (Or.inl rfl))
  have e1 : isW2 u1 0 9 = true := by
    cases hs : isW2 u1 0 9
    · rw [hs] at hg0; exact absurd hg0 (by decide)
    · rfl
  have e2 : isW2 u2 0 9 = true := by
    cases hs : isW2 u2 0 9
    · rw [hs] at hg1; exact absurd hg1 (by decide)
    · rfl
  have e3 : isW2 u3 0 9 = true := by
    cases hs : isW2 u3 0 9
    · rw [hs] at hg2; exact absurd hg2 (by decide)
    · rfl
  rw [rsA_in e1 e2 e3] at hE
  refine rg_run C cdR_ok 4 rfl ?_
  exact rl0 C hN hf hlo hc1 hc2 hE
end RB
