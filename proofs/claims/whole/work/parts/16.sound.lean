/-! SOUNDNESS VI: contracts out of runs; calls -/
theorem Ou.same {X : CX} {Ls : Nat} {xs : Nat → Int32} {s U : State} {H : Heap} (hv : U.vm = s.vm) (h : Ou X Ls xs s H) : Ou X Ls xs U H := by
  obtain ⟨h1, h2, h3, h4, h5, h6, h7, h8, h9, h10, h11, h12⟩ := h
  have hA : s.vm.Alike U.vm := by rw [hv]; exact Vm.Alike.refl _
  exact ⟨va_K.moved hA h1, fun x hx => va_Nw.same rfl hv.symm (h2 x hx), h3.moved hA, h4.moved hA, fun n t ht => (h5 n t ht).same hv, h6.moved hA, h7.moved hA, h8, h9.moved hA, h10.moved hA, h11, h12⟩
def hle (h t : HS) : Prop := h.1.1 ≤ t.1.1 ∧ h.1.2 1000 ≤ t.1.2 1000 ∧ (t.1.1 < NN → t.1.2 1000 = h.1.2 1000)
theorem hle.rf (h : HS) : hle h h := ⟨Nat.le_refl _, Nat.le_refl _, fun _ => rfl⟩
theorem hle.tr {a b c : HS} (h1 : hle a b) (h2 : hle b c) : hle a c := ⟨Nat.le_trans h1.1 h2.1, Nat.le_trans h1.2.1 h2.2.1, fun hn => (h2.2.2 hn).trans (h1.2.2 (Nat.lt_of_le_of_lt h2.1 hn))⟩
def dC (h t : HS) : Nat := (t.1.1 - h.1.1) + (t.1.2 1000 - h.1.2 1000)
def dS (h t : HS) : Nat := (slt t.1.1 - slt h.1.1) + 8 * (t.1.2 1000 - h.1.2 1000)
theorem dC_add {a b c : HS} (h1 : hle a b) (h2 : hle b c) : dC a c = dC a b + dC b c := by
  have := h1.1; have := h1.2.1; have := h2.1; have := h2.2.1
  unfold dC
  omega
theorem dS_add {a b c : HS} (h1 : hle a b) (h2 : hle b c) : dS a c = dS a b + dS b c := by
  have := slt_mono h1.1; have := h1.2.1; have := slt_mono h2.1; have := h2.2.1
  unfold dS
  omega
theorem dC_self (h : HS) : dC h h = 0 := by simp [dC]
theorem dS_self (h : HS) : dS h h = 0 := by simp [dS]
theorem dC_eq {h t u : HS} (e : t.1 = h.1) : dC t u = dC h u := by simp [dC, e]
theorem dS_eq {h t u : HS} (e : t.1 = h.1) : dS t u = dS h u := by simp [dS, e]
theorem pfd_1 {h h1 : HS} {K j k n : Nat} {v : PV} (hg : pfd h K j k n v = some h1) : h1.1 = h.1 := by
  unfold pfd at hg
  split at hg
  · split at hg
    · cases hg; rfl
    · split at hg
      · cases hg; rfl
      · cases hg
    · cases hg; rfl
    · split at hg
      · cases hg; rfl
      · cases hg
    · cases hg
  · cases hg
theorem ast_1 {h h1 : HS} {a k n : Nat} {i : Int32} {v : PV} (hg : ast h a k n i v = some h1) : h1.1 = h.1 := by
  unfold ast at hg
  split at hg
  · split at hg
    · cases hg; rfl
    · cases hg; rfl
    · split at hg
      · cases hg; rfl
      · cases hg
    · cases hg; rfl
    · split at hg
      · split at hg
        · cases hg; rfl
        · cases hg
      · cases hg
    · cases hg
  · cases hg
theorem cpa_1 {h h1 : HS} {k2 n2 k n : Nat} {sp dp m : Int32} (hg : cpa h k2 n2 sp k n dp m = some h1) : h1.1 = h.1 := by
  unfold cpa at hg
  split at hg
  · cases hg; rfl
  · cases hg
theorem alc_le {h h1 : HS} {k : Nat} (hg : alc k h = some h1) : hle h h1 := by
  obtain ⟨hc, rfl⟩ := alc_spec hg
  have hk := cord_k _ (List.mem_of_getElem? hc)
  have h1 : uC h.1.2 k (h.1.2 k + 1) 1000 = h.1.2 1000 := by simp only [uC]; rw [if_neg (by omega)]
  exact ⟨Nat.le_succ _, Nat.le_of_eq h1.symm, fun _ => h1⟩
theorem hle.eq {h h1 : HS} (e : h1.1 = h.1) : hle h h1 := ⟨by rw [e]; exact Nat.le_refl _, by rw [e]; exact Nat.le_refl _, fun _ => by rw [e]⟩
theorem hst_le {Ls : Nat} {xs : Nat → Int32} {op a b q : Nat} {st : List PV} {h : HS} {q1 : Nat} {st1 : List PV} {h1 : HS} (hg : hst Ls xs op a b q st h = some (q1, st1, h1)) : hle h h1 := by
  unfold hst at hg
  split at hg
  · split at hg
    · simp only [Option.map_eq_some_iff] at hg
      obtain ⟨v, -, hg⟩ := hg
      cases hg
      exact hle.rf _
    · cases hg
  · split at hg
    · simp only [Option.map_eq_some_iff] at hg
      obtain ⟨v, hv, hg⟩ := hg
      cases hg
      exact hle.eq (pfd_1 hv)
    · cases hg
  · split at hg
    · simp only [Option.map_eq_some_iff] at hg
      obtain ⟨v, -, hg⟩ := hg
      cases hg
      exact hle.rf _
    · cases hg
  · split at hg
    · simp only [Option.map_eq_some_iff] at hg
      obtain ⟨v, hv, hg⟩ := hg
      cases hg
      exact hle.eq (ast_1 hv)
    · cases hg
  · split at hg
    · simp only [Option.map_eq_some_iff] at hg
      obtain ⟨v, -, hg⟩ := hg
      cases hg
      exact hle.rf _
    · cases hg
  · split at hg
    · split at hg
      · cases hg
        exact hle.rf _
      · cases hg
    · cases hg
  · split at hg
    · simp only [Option.map_eq_some_iff] at hg
      obtain ⟨v, hv, hg⟩ := hg
      cases hg
      exact alc_le hv
    · cases hg
  · split at hg
    · split at hg
      · simp only [Option.map_eq_some_iff] at hg
        obtain ⟨v, hv, hg⟩ := hg
        cases hg
        exact alc_le hv
      · cases hg
    · cases hg
  · split at hg
    · split at hg
      · simp only [Option.map_eq_some_iff] at hg
        obtain ⟨v, hv, hg⟩ := hg
        cases hg
        exact alc_le hv
      · cases hg
    · cases hg
  · split at hg
    · split at hg
      · cases hg
        exact hle.rf _
      · cases hg
    · cases hg
  · split at hg
    · split at hg
      · simp only [Option.map_eq_some_iff] at hg
        obtain ⟨v, hv, hg⟩ := hg
        cases hg
        exact hle.eq (cpa_1 hv)
      · cases hg
    · cases hg
  · split at hg
    · split at hg
      · cases hg
        exact hle.rf _
      · cases hg
    · cases hg
  · split at hg
    · split at hg
      · cases hg
        exact hle.rf _
      · cases hg
    · cases hg
  · cases hg
theorem exec_le {Ls : Nat} {xs : Nat → Int32} {orc : Orc} (ho : ∀ as h r t, orc as h = some (r, t) → hle h t) : ∀ (f d m pc : Nat) (L : LL) (st : List PV) (h : HS) (r : Option PV) (t : HS), exec Ls xs orc f d m pc L st h = some (r, t) → hle h t := by
  intro f
  induction f with
  | zero => intro d m pc L st h r t hg; simp [exec] at hg
  | succ f ih =>
    intro d m pc L st h r t hg
    unfold exec at hg
    split at hg
    · cases hg
    · rename_i op a b z q hc
      split at hg
      · split at hg
        · exact ih _ _ _ _ _ _ _ _ hg
        · cases hg
      · split at hg
        · split at hg
          · cases hg
          · split at hg
            · split at hg
              · rename_i r1 h1 he
                exact (ih _ _ _ _ _ _ _ _ he).tr (ih _ _ _ _ _ _ _ _ hg)
              · cases hg
            · cases hg
        · split at hg
          · split at hg
            · cases hg
            · split at hg
              · split at hg
                · rename_i r1 h1 he
                  exact (ho _ _ _ _ he).tr (ih _ _ _ _ _ _ _ _ hg)
                · cases hg
              · cases hg
          · split at hg
            · split at hg
              · cases hg
                exact hle.rf _
              · cases hg
            · split at hg
              · split at hg
                · split at hg
                  · cases hg
                    exact hle.rf _
                  · cases hg
                · cases hg
              · split at hg
                · cases hg
                · split at hg
                  · rename_i he
                    exact (hst_le he).tr (ih _ _ _ _ _ _ _ _ hg)
                  · cases hg
/-- how a method's run ends -/
def Rt (mm pc : Nat) (r : Option PV) : Prop := (r = none ∧ decode (bb mm) pc = .ok (.return_, 1) ∧ rr mm = none) ∨ ∃ x ty, r = some (.inl x) ∧ decode (bb mm) pc = .ok (.ireturn, 1) ∧ rr mm = some ty ∧ narrow ty (.int x) = .int x
def wsm (mm : Nat) : List Cond := Cond.code (yy mm) (bb mm) (mx mm) (rr mm) :: wtb
def rmm (d a b : Nat) : Room := { frames := d, cells := a, slots := b, locals := 64 * d }
def PcX (X : CX) (Ls : Nat) (xs : Nat → Int32) (h : HS) (as : List PV) : Array Value → State → Prop := va_Pc (as.map (trv X)) (fun U => Rel X h U.heap ∧ Ou X Ls xs U U.heap ∧ (h.1.1 < NN → U.heap.size = xz X + h.1.1))
def QcX (X : CX) (r : Option PV) (t : HS) : Array Value → State → Outcome → State → Prop := fun _ st o u => (o = .returned (r.map (trv X)) ∧ Rel X t u.heap) ∧ va_F (xA X) st u
/-- the contract that a run gives -/
def Ctr (l : Launch) (X : CX) (Ls : Nat) (xs : Nat → Int32) (mm d : Nat) (as : List PV) (h : HS) (r : Option PV) (t : HS) : Prop :=
  Met l (yy mm) (wsm mm) (rmm d (dC h t) (dS h t)) (PcX X Ls xs h as) (QcX X r t) (dC h t) (dS h t) (xA X)
def MC (p : Program) (s : State) (m : MethodId) (args : Array Value) (meth : Method) (c : Code) (mm : Nat) (X : CX) (Ls : Nat) (xs : Nat → Int32) : Prop :=
  p.tables.exec = Jvm.exec ∧ c.code = bb mm ∧ c.maxLocals = mx mm ∧ s.vm.findClass (own (mo mm)) = some m.cls ∧ (∀ w ∈ wtb, w.before args s = true) ∧ Ou X Ls xs s s.heap ∧ meth.name = (yy mm).name
theorem PcX_blind {X : CX} {Ls : Nat} {xs : Nat → Int32} {h : HS} {as : List PV} : FrameBlind (PcX X Ls xs h as) := by
  intro a U g mk hq
  obtain ⟨q0, q1, q2, q3⟩ := hq
  exact ⟨q0, q1, q2.same rfl, q3⟩
theorem PcX_pre {X : CX} {Ls : Nat} {xs : Nat → Int32} {h : HS} {as : List PV} {s : State} {H : Heap} {locs : List Loc} (hO : Ou X Ls xs s s.heap) (hR : Rel X h H) (hS : va_S (xA X) s.heap H locs) (hz : h.1.1 < NN → H.size = xz X + h.1.1) : ∀ U : State, U.heap = H → s.WarmedH U.vm → PcX X Ls xs h as (as.map (trv X)).toArray U := by
  intro U hU hW
  refine ⟨rfl, by rw [hU]; exact hR, ?_, by rw [hU]; exact hz⟩
  rw [hU]
  exact hO.to hW hS
theorem wtb_goodIn (mm : Nat) (hm : mm ∈ mAll) : GoodIn wtb (wsm mm) := by
  intro w hw
  rcases List.mem_cons.mp hw with rfl | hw
  · exact ⟨code_in mm hm, good_of_word (wtb_good _ (code_in mm hm))⟩
  · exact ⟨hw, good_of_word (wtb_good _ hw)⟩
section SC
variable {p : Program} {l : Launch} {e : Env} {R : Room} {s : State} {m : MethodId} {args : Array Value} {below : List Frame} {meth : Method} {c : Code} {H : Heap} {locs : List Loc} {cells slots : Nat} {Q : State → Prop}
variable {pc : Nat} {ls : Array Slot} {X : CX} {Ls : Nat} {xs : Nat → Int32} {h t : HS} {r : Option PV}
theorem sc_back {mc ms : Nat} {st0 rest : List Value} {a : Array Value} (hr : va_Run p l e R s m args below meth c H locs cells slots mc ms (F0 m pc ls st0) rest (QcX X r t a) (xA X)) (hS : va_S (xA X) s.heap H locs)
    (kk : ∀ (H1 : Heap) (locs1 : List Loc), Rel X t H1 → va_S (xA X) s.heap H1 locs1 → W p l e R s m args below meth c H1 locs1 (cells + mc) (slots + ms) Q (F0 m (pc + 3) ls (r.toList.map (trv X) ++ rest))) : W p l e R s m args below meth c H locs cells slots Q (F0 m pc ls st0) := by
  intro T hT Y
  obtain ⟨v, st₀, u, T', L, h0, Y', hL, e1, e2, ⟨⟨hv, hq⟩, hz, hk⟩, st⟩ := hr T hT Y
  rw [h0] at hz hk
  have hv2 : v = r.map (trv X) := by injection hv
  subst hv2
  obtain ⟨t2, a1, b1⟩ := kk T'.heap (locs ++ L) (by rw [e1]; exact hq) ⟨Nat.le_trans hS.1 (by rw [e1]; exact hz), fun q h1 h2 => by rw [e1, hk q (Nat.lt_of_lt_of_le h1 hS.1) h2]; exact hS.2.1 q h1 h2, fun q hq => by
      rcases List.mem_append.mp hq with h | h
      · exact hS.2.2 q h
      · exact hL q h⟩ T' rfl Y'
  refine ⟨t2, st t2 ?_, b1⟩
  cases r <;> exact a1
theorem catP_eq (hX : (xo X).category = 1) (v : PV) : (trv X v).category = catP v := by
  unfold catP
  by_cases hw : isW v = true
  · rw [if_pos hw]
    match v, hw with
    | .inr (.inl x), _ => rfl
  · rw [if_neg hw]
    exact trv_cat hX (by rw [isW_L]; simpa using hw)
theorem cat_sum (hX : (xo X).category = 1) (st : List PV) : ((st.map (trv X)).map fun v => v.category).sum = (st.map catP).sum := by
  rw [List.map_map]
  congr 1
  apply List.map_congr_left
  intro v _
  exact catP_eq hX v
theorem mm_facts {mm : Nat} (hm : mm ∈ mAll) : plainName (yy mm).cls = true ∧ ((yy mm).cls ≠ "java/lang/invoke/MethodHandle" ∧ (yy mm).cls ≠ "java/lang/invoke/VarHandle" ∧ (parseMethodDescriptor (yy mm).desc).map (fun d => d.parameters.length) = some (np mm)) ∧ (yy mm).cls = own (mo mm) := by
  have h1 := List.all_eq_true.mp mm1 mm hm
  have h2 := of_decide_eq_true (List.all_eq_true.mp mm2 mm hm)
  have h3 := of_decide_eq_true (List.all_eq_true.mp mm3 mm hm)
  have h4 := of_decide_eq_true (List.all_eq_true.mp mm4 mm hm)
  exact ⟨h1, ⟨h2.1, h2.2, h3⟩, h4⟩
theorem own_in (i : Nat) (h : i < 20) : Cond.initialized (own i) ∈ wtb := by
  refine init_in _ (List.mem_map.mpr ⟨own i, ?_, rfl⟩)
  have hl : i < ownt.length := h
  simp only [own, List.getD, List.getElem?_eq_getElem hl, Option.getD_some]
  exact List.getElem_mem hl
theorem mo_lt {mm : Nat} (hm : mm ∈ mAll) : mo mm < 20 := by
  have h0 : (mAll.all fun m => decide (mo m < 20)) = true := by decide +kernel
  exact of_decide_eq_true (List.all_eq_true.mp h0 mm hm)
end SC
