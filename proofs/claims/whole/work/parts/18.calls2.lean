section CB
variable {p : Program} {l : Launch} {e : Env} {R : Room} {s : State} {m : MethodId} {args : Array Value} {below : List Frame} {meth : Method} {c : Code} {H : Heap} {locs : List Loc} {cells slots : Nat} {Q : State → Prop}
variable {pc : Nat} {ls : Array Slot} {X : CX} {Ls : Nat} {xs : Nat → Int32} {h t : HS} {r : Option PV} {mm a b d idx : Nat} {st : List PV} {L : LL} {z : PV}
theorem recv_spec {as : List PV} {K n0 : Nat} (hr : recv (.inr (.inr (K, n0))) b h as = true) : ∃ (n : Nat) (As : List PV), as = .inr (.inr (K, n)) :: As ∧ n < (if K = 90 then 26 else h.1.2 K) := by
  unfold recv at hr
  match as, hr with
  | .inr (.inr (k, n)) :: As, hr =>
    simp only [decide_eq_true_eq] at hr
    obtain ⟨rfl, hn⟩ := hr
    exact ⟨n, As, rfl, hn⟩
  | [], hr => simp at hr
  | .inl _ :: _, hr => simp at hr
  | .inr (.inl _) :: _, hr => simp at hr
theorem st_split2 {rcv : PV} {As : List PV} {v : Value} {f : PV → Value} (hs : (st.take b).reverse = rcv :: As) (hv : f rcv = v) : st.map f = (As.map f).reverse ++ v :: (st.drop b).map f := by
  rw [st_split b f, hs, List.map_cons, List.reverse_cons, hv]
  simp
set_option maxHeartbeats 4000000 in
/-- a constructor's call -/
theorem sc_init (C0 : MC p s m args meth c mm X Ls xs) (hR : Rel X h H) (hS : va_S (xA X) s.heap H locs) (hl : hasL X ls (mx mm) L) (hz : h.1.1 < NN → s.heap.size + cells = xz X + h.1.1)
    (hM : Ctr l X Ls xs a d (st.take b).reverse h r t) (hbl : b ≤ st.length) (hcat : ((st.drop b).map catP).sum ≤ 8) (hlk : (mo mm, idx, a, 2) ∈ mlk ∨ (mo mm, idx, a, 3) ∈ mlk) (hbn : b = np a + 1) {K n0 : Nat} (hK : K < 82) (hrc : recv (.inr (.inr (K, n0))) b h (st.take b).reverse = true) (hf : d + 1 ≤ R.frames) (hlo : 64 * (d + 1) ≤ R.locals) (hc1 : cells + dC h t ≤ R.cells) (hc2 : slots + dS h t ≤ R.slots) (hd : decode (bb mm) pc = .ok (.invokespecial idx, 3))
    (kk : ∀ (H1 : Heap) (locs1 : List Loc), Rel X t H1 → va_S (xA X) s.heap H1 locs1 → W p l e R s m args below meth c H1 locs1 (cells + dC h t) (slots + dS h t) Q (F0 m (pc + 3) ls (r.toList.map (trv X) ++ (st.drop b).map (trv X)))) : W p l e R s m args below meth c H locs cells slots Q (F0 m pc ls (st.map (trv X))) := by
  have hX : (xo X).category = 1 := C0.2.2.2.2.2.1.2.2.2.2.2.2.2.2.2.2.2
  refine W.sz fun hle => ?_
  have hz2 := sz_at C0 hR hS hz hle
  obtain ⟨n, As, has, -⟩ := recv_spec hrc
  obtain ⟨v, hv⟩ := trv_ref X (k := K) (n := n) (by omega)
  have hlen : As.length = np a := by
    have h1 : (st.take b).reverse.length = b := by simp; omega
    rw [has, List.length_cons] at h1
    omega
  have hn : (As.map (trv X)).length = np a := by rw [List.length_map]; exact hlen
  have hW : 2 * (F0 m pc ls (st.map (trv X))).monitorRoom + (((st.drop b).map (trv X)).map fun v => v.category).sum ≤ 8 := lv_room (by rw [cat_sum hX]; exact hcat)
  have hpre := PcX_pre (as := (st.take b).reverse) C0.2.2.2.2.2.1 hR hS hz2
  have hmap : ((st.take b).reverse.map (trv X)) = .ref v :: As.map (trv X) := by rw [has, List.map_cons, hv]
  rw [hmap] at hpre
  rcases hlk with hlk | hlk
  · obtain ⟨ham, -, -, h1, -⟩ := mlk_facts hlk
    obtain ⟨hin, hnm, hrr⟩ := h1 rfl
    have hcb := callB_x (k1 := dC h t) (k2 := dS h t) (d := d) C0 ham (C0.2.2.2.2.1 _ (mlk_link hlk (by decide))) hf hlo
    rw [hrr] at hcb
    exact sc_back (va_runI (As := As.map (trv X)) ⟨C0.1, C0.2.1, C0.2.2.1, C0.2.2.2.1, C0.2.2.2.2.1⟩ hM ⟨hcb, hnm, C0.2.2.2.2.1 _ (inst_in _ (List.mem_map.mpr ⟨a, hin, rfl⟩))⟩ ⟨PcX_blind, hpre⟩ rfl hn hl.2.1 (st_split2 has hv) hW hd ⟨hc1, hc2⟩) hS kk
  · obtain ⟨ham, -, -, -, h1, -⟩ := mlk_facts hlk
    obtain ⟨hin, hnm, hrr⟩ := h1 rfl
    have hnk : (mo mm, idx, a) ∈ nek := by
      have h0 : (mlk.all fun x => !(decide (x.2.2.2 = 3)) || nek.contains (x.1, x.2.1, x.2.2.1)) = true := by decide +kernel
      simpa using List.all_eq_true.mp h0 _ hlk
    have hcb := callN_x (k1 := dC h t) (k2 := dS h t) (d := d) C0 ham (C0.2.2.2.2.2.1.2.1 _ hnk) hf hlo
    rw [hrr] at hcb
    exact sc_back (va_runIN (As := As.map (trv X)) ⟨C0.1, C0.2.1, C0.2.2.1, C0.2.2.2.1, C0.2.2.2.2.1⟩ hM ⟨hcb, hnm, C0.2.2.2.2.1 _ (inst_in _ (List.mem_map.mpr ⟨a, hin, rfl⟩))⟩ ⟨PcX_blind, hpre⟩ rfl hn hl.2.1 (st_split2 has hv) hW hd ⟨hc1, hc2⟩) hS kk
set_option maxHeartbeats 4000000 in
/-- a virtual call -/
theorem sc_virt (C0 : MC p s m args meth c mm X Ls xs) (hR : Rel X h H) (hS : va_S (xA X) s.heap H locs) (hl : hasL X ls (mx mm) L) (hz : h.1.1 < NN → s.heap.size + cells = xz X + h.1.1)
    (hM : Ctr l X Ls xs a d (st.take b).reverse h r t) (hbl : b ≤ st.length) (hcat : ((st.drop b).map catP).sum ≤ 8) (hlk : (mo mm, idx, a, 0) ∈ mlk) (hbn : b = np a + 1) {K n0 : Nat} (hK : (K < 82 ∧ (kt K).1 = 0 ∧ clN K = (yy a).cls) ∨ (K = 90 ∧ (yy a).cls = "java/lang/String")) (hrc : recv (.inr (.inr (K, n0))) b h (st.take b).reverse = true) (hf : d + 1 ≤ R.frames) (hlo : 64 * (d + 1) ≤ R.locals) (hc1 : cells + dC h t ≤ R.cells) (hc2 : slots + dS h t ≤ R.slots) (hd : decode (bb mm) pc = .ok (.invokevirtual idx, 3))
    (kk : ∀ (H1 : Heap) (locs1 : List Loc), Rel X t H1 → va_S (xA X) s.heap H1 locs1 → W p l e R s m args below meth c H1 locs1 (cells + dC h t) (slots + dS h t) Q (F0 m (pc + 3) ls (r.toList.map (trv X) ++ (st.drop b).map (trv X)))) : W p l e R s m args below meth c H locs cells slots Q (F0 m pc ls (st.map (trv X))) := by
  have hX : (xo X).category = 1 := C0.2.2.2.2.2.1.2.2.2.2.2.2.2.2.2.2.2
  refine W.sz fun hle => ?_
  have hz2 := sz_at C0 hR hS hz hle
  obtain ⟨n, As, has, hnn⟩ := recv_spec hrc
  have hlen : As.length = np a := by
    have h1 : (st.take b).reverse.length = b := by simp; omega
    rw [has, List.length_cons] at h1
    omega
  have hn : (As.map (trv X)).length = np a := by rw [List.length_map]; exact hlen
  have hW : 2 * (F0 m pc ls (st.map (trv X))).monitorRoom + (((st.drop b).map (trv X)).map fun v => v.category).sum ≤ 8 := lv_room (by rw [cat_sum hX]; exact hcat)
  have hpre := PcX_pre (as := (st.take b).reverse) C0.2.2.2.2.2.1 hR hS hz2
  obtain ⟨ham, h1, -⟩ := mlk_facts hlk
  obtain ⟨hvi, hin⟩ := h1 rfl
  have hcb := callB_x (k1 := dC h t) (k2 := dS h t) (d := d) C0 ham (C0.2.2.2.2.1 _ (mlk_link hlk (by decide))) hf hlo
  have hw1 := C0.2.2.2.2.1 _ (inst_in _ (List.mem_map.mpr ⟨a, hin, rfl⟩))
  have hw2 := C0.2.2.2.2.1 _ (virt_in _ (List.mem_map.mpr ⟨a, hvi, rfl⟩))
  have hcell : ∃ v : Nat, trv X (.inr (.inr (K, n))) = .ref v ∧ ∃ cellB : Cell, H[v]? = some cellB ∧ cellB.vm.isStatics = false ∧ s.vm.findClass (yy a).cls = some cellB.cls := by
    rcases hK with ⟨hK1, hK2, hK3⟩ | ⟨hK1, hK2⟩
    · rw [if_neg (by omega)] at hnn
      obtain ⟨⟨k0, k1⟩, -, -, hw⟩ := cell_at (X := X) hR.2 (by rw [hK2]; decide) hnn
      obtain ⟨q, hq, -, -⟩ := kt_obj hK2
      rw [ent_obj hK2] at hw
      refine ⟨_, trv_cell X k0 k1, ?_⟩
      have h3 := va_recv C0.2.2.2.2.2.1.1 hR.1 hq hw
      rw [← hK3]
      simp only [clN, hq]
      exact h3
    · subst hK1
      rw [if_pos rfl] at hnn
      refine ⟨xK X n, rfl, ?_⟩
      rw [hK2]
      exact vk_recv C0.2.2.2.2.2.1.2.2.2.2.2.1 hnn hS
  obtain ⟨v, hv, hcell⟩ := hcell
  have hmap : ((st.take b).reverse.map (trv X)) = .ref v :: As.map (trv X) := by rw [has, List.map_cons, hv]
  rw [hmap] at hpre
  exact sc_back (va_runV (As := As.map (trv X)) ⟨C0.1, C0.2.1, C0.2.2.1, C0.2.2.2.1, C0.2.2.2.2.1⟩ hM ⟨hcb, hw1, hw2⟩ ⟨PcX_blind, hcell, hpre⟩ rfl hn hl.2.1 (st_split2 has hv) hW hd ⟨hc1, hc2⟩) hS kk
end CB
