/-! SOUNDNESS VII: entries, calls, returns -/
section EN
variable {X : CX}
theorem sl_len (hX : (xo X).category = 1) : ∀ as : List PV, (lg_sl (as.map (trv X))).length = (entG as).length
  | [] => rfl
  | .inl x :: r => by
    have ih := sl_len hX r
    simp only [List.map_cons, entG, List.length_cons, ← ih]
    simp [lg_sl, trv, Value.category]
  | .inr (.inl x) :: r => by
    have ih := sl_len hX r
    simp only [List.map_cons, entG, List.length_cons, ← ih]
    simp [lg_sl, trv, Value.category]
  | .inr (.inr x) :: r => by
    have ih := sl_len hX r
    have hc : (trv X (.inr (.inr x))).category = 1 := trv_cat hX rfl
    simp only [List.map_cons, entG, List.length_cons, ← ih]
    simp [lg_sl, hc]
theorem prL_rep : ∀ (n i : Nat), prL X i (List.replicate n none) = []
  | 0, _ => rfl
  | n + 1, i => by
    rw [List.replicate_succ]
    simp only [prL]
    exact prL_rep n (i + 1)
theorem prL_ent (hX : (xo X).category = 1) (n : Nat) : ∀ (as : List PV) (i : Nat), prL X i (entG as ++ List.replicate n none) = lv_args i (as.map (trv X))
  | [], i => by simp only [entG, List.nil_append, prL_rep, List.map_nil, lv_args]
  | .inl x :: r, i => by
    have ih := prL_ent hX n r (i + 1)
    simp only [entG, List.cons_append, prL, List.map_cons, lv_args, ih]
    simp [trv, Value.category]
  | .inr (.inl x) :: r, i => by
    have ih := prL_ent hX n r (i + 1 + 1)
    simp only [entG, List.cons_append, prL, List.map_cons, lv_args, ih]
    simp [trv, Value.category]
  | .inr (.inr x) :: r, i => by
    have ih := prL_ent hX n r (i + 1)
    have hc : (trv X (.inr (.inr x))).category = 1 := trv_cat hX rfl
    simp only [entG, List.cons_append, prL, List.map_cons, lv_args, ih]
    simp [hc]
theorem hasL_entry (hX : (xo X).category = 1) {mm : Nat} {as : List PV} (hl : (entG as).length ≤ mx mm) : hasL X ((lg_sl (as.map (trv X)) ++ List.replicate (mx mm - (lg_sl (as.map (trv X))).length) Slot.unset).toArray) (mx mm) (entL mm as) := by
  refine ⟨by simp [entL]; omega, ?_⟩
  have h := lv_entry (as.map (trv X)) (n := mx mm) (by rw [sl_len hX]; exact hl)
  unfold entL
  rw [prL_ent hX]
  exact h
end EN
theorem mx_le {mm : Nat} : mx mm ≤ 40 := by
  have h0 : mxt.all (fun x => decide (x ≤ 40)) = true := by decide +kernel
  unfold mx
  rw [List.getD]
  cases hc : mxt[mm]? with
  | none => simp
  | some x => simpa using List.all_eq_true.mp h0 x (List.mem_of_getElem? hc)
theorem Rel.size_ge {X : CX} {h : HS} {H : Heap} (hR : Rel X h H) (h0 : xz X ≤ H.size) : xz X + h.1.1 ≤ H.size := by
  by_cases hz : h.1.1 = 0
  · omega
  · have hl : h.1.1 - 1 < h.1.1 := by omega
    have hw : (wsl X h)[h.1.1 - 1]? = some (xz X + (h.1.1 - 1), ent X h (ckd (h.1.1 - 1)).1 (ckd (h.1.1 - 1)).2) := by
      simp [wsl, List.getElem?_map, List.getElem?_range hl]
    have h2 : xz X + (h.1.1 - 1) < H.size := (hR.1 _ _ hw).lt
    omega
section CT
variable {l : Launch} {X : CX} {Ls : Nat} {xs : Nat → Int32} {h t : HS} {r : Option PV} {mm d : Nat} {as : List PV}
set_option maxHeartbeats 4000000 in
theorem ctr_of (hm : mm ∈ mAll) (hlen : (entG as).length ≤ mx mm)
    (body : ∀ {p : Program} {e : Env} {R : Room} {s : State} {m : MethodId} {args : Array Value} {below : List Frame} {meth : Method} {c : Code} {H : Heap} {locs : List Loc} {cells slots : Nat} {Q : State → Prop} {ls : Array Slot}, MC p s m args meth c mm X Ls xs → Rel X h H → va_S (xA X) s.heap H locs → hasL X ls (mx mm) (entL mm as) → (h.1.1 < NN → s.heap.size + cells = xz X + h.1.1) → d ≤ R.frames → 64 * d ≤ R.locals → cells + dC h t ≤ R.cells → slots + dS h t ≤ R.slots →
      (∀ (H' : Heap) (locs' : List Loc) (ls' : Array Slot) (pc' : Nat), Rel X t H' → va_S (xA X) s.heap H' locs' → Rt mm pc' r → W p l e R s m args below meth c H' locs' (cells + dC h t) (slots + dS h t) Q (F0 m pc' ls' (r.toList.map (trv X)))) → W p l e R s m args below meth c H locs cells slots Q (F0 m 0 ls [])) : Ctr l X Ls xs mm d as h r t := by
  unfold Ctr
  refine Met.ofW (cc := bb mm) (maxL := mx mm) (ret := rr mm) (mm_facts hm).1 rfl ?_
  intro p e s m args below meth c s₁ B hml hv
  obtain ⟨rfl, hR, hO, hz⟩ := hv
  have hts0 := atoms_spec (ws := wsm mm) B.pre
  have hown : s.vm.findClass (own (mo mm)) = some m.cls := by rw [← (mm_facts hm).2.2]; exact findClass_of_methodNamed B.named
  have hname : meth.name = (yy mm).name := (name_of_methodNamed B.named B.method).1
  have hX : (xo X).category = 1 := hO.2.2.2.2.2.2.2.2.2.2.2
  rw [lg_entry_eq]
  refine body (cells := 0) (slots := 0) (locs := []) ⟨B.exec, B.bytes, hml, hown, fun w hw => hts0 w (List.mem_cons_of_mem _ hw), hO, hname⟩ hR va_S.rf (hasL_entry hX hlen) (by simpa using hz) (Nat.le_refl d) (Nat.le_refl _) (by rw [Nat.zero_add]; exact Nat.le_refl _) (by rw [Nat.zero_add]; exact Nat.le_refl _) ?_
  intro H' locs' ls' pc' hR' hS' hrt
  rw [Nat.zero_add, Nat.zero_add]
  rcases hrt with ⟨rfl, hd, hr⟩ | ⟨x, ty, rfl, hd, hr, hn⟩
  · exact W.vret B.exec B.bytes (B.returns.trans hr) (fun u hu hW => ⟨⟨rfl, by rw [hu]; exact hR'⟩, hS'.F hu⟩) hS'.2.2 hd
  · exact W.zret B.exec B.bytes (B.returns.trans hr) hn (fun u hu hW => ⟨⟨rfl, by rw [hu]; exact hR'⟩, hS'.F hu⟩) hS'.2.2 hd
end CT
theorem st_split {st : List PV} (b : Nat) (f : PV → Value) : st.map f = ((st.take b).reverse.map f).reverse ++ (st.drop b).map f := by
  rw [List.map_reverse, List.reverse_reverse, ← List.map_append, List.take_append_drop]
section CA
variable {p : Program} {l : Launch} {e : Env} {R : Room} {s : State} {m : MethodId} {args : Array Value} {below : List Frame} {meth : Method} {c : Code} {H : Heap} {locs : List Loc} {cells slots : Nat} {Q : State → Prop}
variable {pc : Nat} {ls : Array Slot} {X : CX} {Ls : Nat} {xs : Nat → Int32} {h t : HS} {r : Option PV} {mm a b d idx : Nat} {st : List PV} {L : LL} {z : PV}
theorem mlk_facts {o i q : Nat} (hlk : (o, i, a, q) ∈ mlk) : a ∈ mAll ∧ (q = 0 → a ∈ mVirt ∧ a ∈ mInst) ∧ (q = 1 → a ∈ mStat) ∧ (q = 2 → a ∈ mInst ∧ (yy a).name = "<init>" ∧ rr a = none) ∧ (q = 3 → a ∈ mInst ∧ (yy a).name = "<init>" ∧ rr a = none) ∧ (q = 4 → a ∈ mStat) ∧ q < 5 :=
  of_decide_eq_true (List.all_eq_true.mp mlk_ok _ hlk)
theorem mlk_link {o i q : Nat} (hlk : (o, i, a, q) ∈ mlk) (hq : q < 3) : Cond.methodLink (own o) i (yy a) ∈ wtb :=
  mlk_in _ (List.mem_map.mpr ⟨(o, i, a, q), List.mem_filter.mpr ⟨hlk, by simpa using hq⟩, rfl⟩)
theorem callB_x (C0 : MC p s m args meth c mm X Ls xs) (ham : a ∈ mAll) {k1 k2 : Nat} (hl : (Cond.methodLink (own (mo mm)) idx (yy a)).before args s = true) (hf : d + 1 ≤ R.frames) (hlo : 64 * (d + 1) ≤ R.locals) : CallB R s args (own (mo mm)) idx (yy a) (bb a) (mx a) (rr a) (wsm a) (rmm d k1 k2) k1 k2 (np a) := by
  have hmx := mx_le (mm := a)
  refine callB_of (np a) C0.2.2.2.2.1 (wtb_goodIn a ham) rfl rfl rfl ?_ hl (mm_facts ham).2.1 ⟨hf, ?_⟩
  · rw [(mm_facts ham).2.2]
    exact C0.2.2.2.2.1 _ (own_in _ (mo_lt ham))
  · show 8 + (mx a + 11) + 64 * d ≤ R.locals
    omega
theorem callN_x (C0 : MC p s m args meth c mm X Ls xs) (ham : a ∈ mAll) {k1 k2 : Nat} (hl : va_Nw (.methodLinkNest (own (mo mm)) idx (yy a) "StrangeWinding") s) (hf : d + 1 ≤ R.frames) (hlo : 64 * (d + 1) ≤ R.locals) : va_CN R s args (own (mo mm)) idx (yy a) "StrangeWinding" (bb a) (mx a) (rr a) (wsm a) (rmm d k1 k2) k1 k2 (np a) := by
  have hmx := mx_le (mm := a)
  refine va_cnB (np a) C0.2.2.2.2.1 (wtb_goodIn a ham) rfl rfl rfl hl ?_ (mm_facts ham).2.1 ⟨hf, ?_⟩
  · rw [(mm_facts ham).2.2]
    exact C0.2.2.2.2.1 _ (own_in _ (mo_lt ham))
  · show 8 + (mx a + 11) + 64 * d ≤ R.locals
    omega
theorem sz_at (C0 : MC p s m args meth c mm X Ls xs) (hR : Rel X h H) (hS : va_S (xA X) s.heap H locs) (hz : h.1.1 < NN → s.heap.size + cells = xz X + h.1.1) (hle : H.size ≤ s.heap.size + cells) : h.1.1 < NN → H.size = xz X + h.1.1 := by
  intro hn
  have h1 := hz hn
  have h2 : xz X ≤ s.heap.size := C0.2.2.2.2.2.1.2.2.2.2.2.2.2.2.2.2.1
  have h3 := hR.size_ge (Nat.le_trans h2 hS.1)
  omega
set_option maxHeartbeats 4000000 in
/-- a static call -/
theorem sc_static (C0 : MC p s m args meth c mm X Ls xs) (hR : Rel X h H) (hS : va_S (xA X) s.heap H locs) (hl : hasL X ls (mx mm) L) (hz : h.1.1 < NN → s.heap.size + cells = xz X + h.1.1)
    (hM : Ctr l X Ls xs a d (st.take b).reverse h r t) (hbl : b ≤ st.length) (hcat : ((st.drop b).map catP).sum ≤ 8) (hlk : (mo mm, idx, a, 1) ∈ mlk ∨ (mo mm, idx, a, 4) ∈ mlk) (hbn : b = np a) (hf : d + 1 ≤ R.frames) (hlo : 64 * (d + 1) ≤ R.locals) (hc1 : cells + dC h t ≤ R.cells) (hc2 : slots + dS h t ≤ R.slots) (hd : decode (bb mm) pc = .ok (.invokestatic idx, 3))
    (kk : ∀ (H1 : Heap) (locs1 : List Loc), Rel X t H1 → va_S (xA X) s.heap H1 locs1 → W p l e R s m args below meth c H1 locs1 (cells + dC h t) (slots + dS h t) Q (F0 m (pc + 3) ls (r.toList.map (trv X) ++ (st.drop b).map (trv X)))) : W p l e R s m args below meth c H locs cells slots Q (F0 m pc ls (st.map (trv X))) := by
  have hX : (xo X).category = 1 := C0.2.2.2.2.2.1.2.2.2.2.2.2.2.2.2.2.2
  refine W.sz fun hle => ?_
  have hz2 := sz_at C0 hR hS hz hle
  have hn : ((st.take b).reverse.map (trv X)).length = np a := by simp; omega
  have hW : 2 * (F0 m pc ls (st.map (trv X))).monitorRoom + (((st.drop b).map (trv X)).map fun v => v.category).sum ≤ 8 := lv_room (by rw [cat_sum hX]; exact hcat)
  rcases hlk with hlk | hlk
  · obtain ⟨ham, -, h1, -⟩ := mlk_facts hlk
    exact sc_back (va_runS ⟨C0.1, C0.2.1, C0.2.2.1, C0.2.2.2.1, C0.2.2.2.2.1⟩ hM ⟨callB_x C0 ham (C0.2.2.2.2.1 _ (mlk_link hlk (by decide))) hf hlo, C0.2.2.2.2.1 _ (stat_in _ (List.mem_map.mpr ⟨a, h1 rfl, rfl⟩))⟩ ⟨PcX_blind, PcX_pre C0.2.2.2.2.2.1 hR hS hz2⟩ rfl hn hl.2.1 (st_split b _) hW hd ⟨hc1, hc2⟩) hS kk
  · obtain ⟨ham, -, -, -, -, h1, -⟩ := mlk_facts hlk
    have hnk : (mo mm, idx, a) ∈ nek := by
      have h0 : (mlk.all fun x => !(decide (x.2.2.2 = 4)) || nek.contains (x.1, x.2.1, x.2.2.1)) = true := by decide +kernel
      simpa using List.all_eq_true.mp h0 _ hlk
    exact sc_back (va_runSN ⟨C0.1, C0.2.1, C0.2.2.1, C0.2.2.2.1, C0.2.2.2.2.1⟩ hM ⟨callN_x C0 ham (C0.2.2.2.2.2.1.2.1 _ hnk) hf hlo, C0.2.2.2.2.1 _ (stat_in _ (List.mem_map.mpr ⟨a, h1 rfl, rfl⟩)), trivial⟩ ⟨PcX_blind, PcX_pre C0.2.2.2.2.2.1 hR hS hz2⟩ rfl hn hl.2.1 (st_split b _) hW hd ⟨hc1, hc2⟩) hS kk
end CA
