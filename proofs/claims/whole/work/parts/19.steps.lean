/-! SOUNDNESS VIII: all steps -/
section SA
variable {p : Program} {l : Launch} {e : Env} {R : Room} {s : State} {m : MethodId} {args : Array Value} {below : List Frame} {meth : Method} {c : Code} {H : Heap} {locs : List Loc} {cells slots : Nat} {Q : State → Prop}
variable {pc len op a b q q1 mm d : Nat} {z : PV} {ls : Array Slot} {L L1 : LL} {st st1 : List PV} {X : CX} {Ls : Nat} {xs : Nat → Int32} {h h1 : HS} {ins : Instr} {ini : Bool} {rt : Option FieldType}
theorem sp_all {cc : ByteArray} {nL : Nat} (hx : p.tables.exec = Jvm.exec) (hb : c.code = cc) (hX : (xo X).category = 1) (hd : decode cc pc = .ok (ins, len)) (ha : agp pc ins len op a b z q) (hs : pst op a b z q L st = some (q1, L1, st1)) (hl : hasL X ls nL L)
    (kk : ∀ ls' : Array Slot, hasL X ls' nL L1 → W p l e R s m args below meth c H locs cells slots Q (F0 m q1 ls' (st1.map (trv X)))) : W p l e R s m args below meth c H locs cells slots Q (F0 m pc ls (st.map (trv X))) := by
  unfold agp at ha
  split at ha
  · exact sp_iconst hx hb hX hd ha hs hl kk
  · exact sp_bipush hx hb hX hd ha hs hl kk
  · exact sp_sipush hx hb hX hd ha hs hl kk
  · exact sp_lconst hx hb hX hd ha hs hl kk
  · exact sp_iload_n hx hb hX hd ha hs hl kk
  · exact sp_iload hx hb hX hd ha hs hl kk
  · exact sp_lload_n hx hb hX hd ha hs hl kk
  · exact sp_lload hx hb hX hd ha hs hl kk
  · exact sp_aload_n hx hb hX hd ha hs hl kk
  · exact sp_aload hx hb hX hd ha hs hl kk
  · exact sp_astore_n hx hb hX hd ha hs hl kk
  · exact sp_astore hx hb hX hd ha hs hl kk
  · exact sp_istore_n hx hb hX hd ha hs hl kk
  · exact sp_istore hx hb hX hd ha hs hl kk
  · exact sp_lstore_n hx hb hX hd ha hs hl kk
  · exact sp_lstore hx hb hX hd ha hs hl kk
  · exact sp_iinc hx hb hX hd ha hs hl kk
  · exact sp_iadd hx hb hX hd ha hs hl kk
  · exact sp_isub hx hb hX hd ha hs hl kk
  · exact sp_imul hx hb hX hd ha hs hl kk
  · exact sp_iand hx hb hX hd ha hs hl kk
  · exact sp_ior hx hb hX hd ha hs hl kk
  · exact sp_ixor hx hb hX hd ha hs hl kk
  · exact sp_ishl hx hb hX hd ha hs hl kk
  · exact sp_ishr hx hb hX hd ha hs hl kk
  · exact sp_iushr hx hb hX hd ha hs hl kk
  · exact sp_idiv hx hb hX hd ha hs hl kk
  · exact sp_irem hx hb hX hd ha hs hl kk
  · exact sp_ineg hx hb hX hd ha hs hl kk
  · exact sp_ladd hx hb hX hd ha hs hl kk
  · exact sp_lsub hx hb hX hd ha hs hl kk
  · exact sp_lmul hx hb hX hd ha hs hl kk
  · exact sp_land hx hb hX hd ha hs hl kk
  · exact sp_lor hx hb hX hd ha hs hl kk
  · exact sp_lshl hx hb hX hd ha hs hl kk
  · exact sp_lushr hx hb hX hd ha hs hl kk
  · exact sp_ldiv hx hb hX hd ha hs hl kk
  · exact sp_lrem hx hb hX hd ha hs hl kk
  · exact sp_lcmp hx hb hX hd ha hs hl kk
  · exact sp_i2l hx hb hX hd ha hs hl kk
  · exact sp_l2i hx hb hX hd ha hs hl kk
  · exact sp_i2c hx hb hX hd ha hs hl kk
  · exact sp_i2b hx hb hX hd ha hs hl kk
  · exact sp_dup hx hb hX hd ha hs hl kk
  · exact sp_dup2 hx hb hX hd ha hs hl kk
  · exact sp_pop hx hb hX hd ha hs hl kk
  · exact sp_goto hx hb hX hd ha hs hl kk
  · exact sp_if_eq hx hb hX hd ha hs hl kk
  · exact sp_if_ne hx hb hX hd ha hs hl kk
  · exact sp_if_lt hx hb hX hd ha hs hl kk
  · exact sp_if_ge hx hb hX hd ha hs hl kk
  · exact sp_if_gt hx hb hX hd ha hs hl kk
  · exact sp_if_le hx hb hX hd ha hs hl kk
  · exact sp_icmp_eq hx hb hX hd ha hs hl kk
  · exact sp_icmp_ne hx hb hX hd ha hs hl kk
  · exact sp_icmp_lt hx hb hX hd ha hs hl kk
  · exact sp_icmp_ge hx hb hX hd ha hs hl kk
  · exact sp_icmp_gt hx hb hX hd ha hs hl kk
  · exact sp_icmp_le hx hb hX hd ha hs hl kk
  · exact ha.elim
theorem agp_lt (ha : agp pc ins len op a b z q) : op < 29 := by
  unfold agp at ha
  split at ha <;> first | exact ha.elim | (rw [ha.1]; decide)
theorem sl_push (C0 : MC p s m args meth c mm X Ls xs) (hS : va_S (xA X) s.heap H locs) (hd : decode (bb mm) pc = .ok (ins, len)) (ha : agl (mo mm) pc ini rt ins len op a b z q = true) (hop : op < 29) (hs : pst op a b z q L st = some (q1, L1, st1)) (hl : hasL X ls (mx mm) L)
    (kk : ∀ ls' : Array Slot, hasL X ls' (mx mm) L1 → W p l e R s m args below meth c H locs cells slots Q (F0 m q1 ls' (st1.map (trv X)))) : W p l e R s m args below meth c H locs cells slots Q (F0 m pc ls (st.map (trv X))) := by
  obtain ⟨hx, hb, hml, hown, hts, hO, hname⟩ := C0
  unfold agl at ha
  split at ha
  case h_1 =>
    simp only [Bool.and_eq_true, decide_eq_true_eq] at ha
    obtain ⟨⟨rfl, rfl, rfl⟩, hz⟩ := ha
    cases hs
    split at hz
    · exact lv_ldc hx hb hown (hts _ (cik_in _ (List.mem_map.mpr ⟨_, (by simpa using hz), rfl⟩))) hd (kk ls hl)
    · simp only [Bool.and_eq_true, decide_eq_true_eq] at hz
      obtain ⟨rfl, hz⟩ := hz
      split at hz
      · rename_i t ht
        obtain ⟨t1, t2, t3⟩ := t
        simp only [decide_eq_true_eq] at hz
        have h5 := hO.2.2.2.2.1 _ _ ht
        simp only [hz.1, hz.2] at h5
        exact va_ldcS hx hb hown h5 hd (kk ls hl)
      · cases hz
    · cases hz
  case h_2 =>
    simp only [Bool.and_eq_true, decide_eq_true_eq] at ha
    obtain ⟨⟨rfl, rfl, rfl⟩, hz⟩ := ha
    cases hs
    split at hz
    · exact lv_ldcw hx hb hown (hts _ (cik_in _ (List.mem_map.mpr ⟨_, (by simpa using hz), rfl⟩))) hd (kk ls hl)
    · cases hz
  case h_3 =>
    simp only [Bool.and_eq_true, decide_eq_true_eq] at ha
    obtain ⟨⟨rfl, rfl, rfl⟩, hz⟩ := ha
    cases hs
    split at hz
    · exact lv_ldc2 hx hb hown (hts _ (clk2_in _ (List.mem_map.mpr ⟨_, (by simpa using hz), rfl⟩))) hd (kk ls hl)
    · cases hz
  case h_4 =>
    simp only [decide_eq_true_eq] at ha
    obtain ⟨rfl, rfl, rfl, ho, hz⟩ := ha
    rw [ho] at hown
    cases hs
    obtain ⟨-, -, -, -, -, -, -, -, h9, h10, -, -⟩ := hO
    rcases hz with ⟨rfl, rfl⟩ | ⟨rfl, rfl⟩
    · exact va_gets hx hb h9 hS hown (hts _ (sfk_in (Cond.fieldLink "java/lang/String" 38 "java/lang/String" "COMPACT_STRINGS" "Z") (by simp [sfk]))) (fun _ h9 => h9) hd (kk ls hl)
    · exact va_gets hx hb h10 hS hown (hts _ (sfk_in (Cond.fieldLink "java/lang/String" 1053 "jdk/internal/util/Preconditions" "SIOOBE_FORMATTER" "Ljava/util/function/BiFunction;") (by simp [sfk]))) (fun _ h9 => h9) hd (kk ls hl)
  all_goals first
    | (exfalso; simp only [Bool.and_eq_true, Bool.or_eq_true, decide_eq_true_eq] at ha; omega)
    | cases ha
theorem dz (e0 : h1.1 = h.1) : dC h h1 = 0 ∧ dS h h1 = 0 := by simp [dC, dS, e0]
theorem da {k : Nat} (hg : alc k h = some h1) : dC h h1 = 1 ∧ dS h h1 = csz k := by
  obtain ⟨hc, rfl⟩ := alc_spec hg
  have hk := cord_k _ (List.mem_of_getElem? hc)
  have h1 : uC h.1.2 k (h.1.2 k + 1) 1000 = h.1.2 1000 := by simp only [uC]; rw [if_neg (by omega)]
  refine ⟨?_, ?_⟩
  · simp only [dC, h1]; omega
  · simp only [dS, h1, slt_succ hc]; omega
theorem clN_in {k : Nat} (h0 : (kt k).1 = 0) : Cond.initialized (clN k) ∈ wtb := by
  obtain ⟨r, hr, -, -⟩ := kt_obj h0
  have h1 : (vwCl.all fun r => decide (r.1 ∈ ownt)) = true := by decide +kernel
  have h2 := of_decide_eq_true (List.all_eq_true.mp h1 _ (List.mem_of_getElem? hr))
  refine init_in _ (List.mem_map.mpr ⟨clN k, ?_, rfl⟩)
  simp only [clN, hr]
  exact h2
end SA
