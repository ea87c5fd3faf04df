/-! SOUNDNESS V: new, newarray, anewarray; constants of the tables; statics; arraycopy, max, min; switches -/
section SM
variable {p : Program} {l : Launch} {e : Env} {R : Room} {s : State} {m : MethodId} {args : Array Value} {below : List Frame} {meth : Method} {c : Code} {H : Heap} {locs : List Loc} {cells slots : Nat} {Q : State → Prop}
variable {cc : ByteArray} {pc : Nat} {ls : Array Slot} {rest : List Value} {X : CX} {Ls : Nat} {xs : Nat → Int32} {h h1 : HS} {o : Nat}
theorem alc_fvl {k : Nat} (hg : alc k h = some h1) (h0 : (kt k).1 = 0) {N : Nat} (hN : N = (kt k).2.2.length) (hty : ∀ j t, (kt k).2.2[j]? = some t → tyok t (vty (kt k).2.1 j) = true) : ∀ j, j < N → defaultValue (vty (kt k).2.1 j) = vp_V ((List.range (kt k).2.2.length).map (fvl X h1 k (h.1.2 k))) j := by
  obtain ⟨-, rfl⟩ := alc_spec hg
  intro j hj
  rw [hN] at hj
  have ht : (kt k).2.2[j]? = some ((kt k).2.2[j]) := List.getElem?_eq_getElem hj
  have hq := hty j _ ht
  simp only [vp_V, List.getD, List.getElem?_map, List.getElem?_range hj, Option.map_some, Option.getD_some, fvl, ht]
  generalize (kt k).2.2[j] = t at hq
  generalize vty (kt k).2.1 j = ty at hq
  obtain ⟨t1, t2⟩ := t
  unfold tyok at hq
  split at hq
  · rename_i e1; simp only at e1; subst e1; simp [zF, defaultValue]
  · rename_i e1; simp only at e1; subst e1; simp [zG, defaultValue]
  · rename_i e1; simp only at e1; subst e1; simp [zF, defaultValue]
  · rename_i e1; simp only at e1; subst e1; simp [zR, va_rf, defaultValue]
  · rename_i e1; simp only at e1; subst e1; simp [zR, va_rf, defaultValue]
  · cases hq
theorem sh_new (hx : p.tables.exec = Jvm.exec) (hb : c.code = cc) (hown : s.vm.findClass (own o) = some m.cls) (hts : ∀ w ∈ wtb, w.before args s = true) (hO : Ou X Ls xs s s.heap) (hR : Rel X h H) (hS : va_S (xA X) s.heap H locs)
    {idx k : Nat} (hlk : (o, idx, k) ∈ clk) (h0 : (kt k).1 = 0) (hg : alc k h = some h1) (hz : h.1.1 < NN → s.heap.size + cells = xz X + h.1.1) (hc1 : cells + 1 ≤ R.cells) (hc2 : slots + csz k ≤ R.slots) (hini : (Cond.initialized (clN k)).before args s = true) (hd : decode cc pc = .ok (.new idx, 3))
    (kk : ∀ (H1 : Heap), Rel X h1 H1 → va_S (xA X) s.heap H1 locs → W p l e R s m args below meth c H1 locs (cells + 1) (slots + csz k) Q (F0 m (pc + 3) ls (trv X (.inr (.inr (k, h.1.2 k))) :: rest))) : W p l e R s m args below meth c H locs cells slots Q (F0 m pc ls rest) := by
  obtain ⟨⟨C, T, N⟩, hr, hrl, hty⟩ := kt_obj h0
  obtain ⟨hc, he⟩ := alc_spec hg
  have hN : csz k = N := by unfold csz; rw [if_pos h0]; exact hrl.symm
  have hA : ∀ q, s.heap.size ≤ q → xA X q := fun q hq => Nat.le_trans hO.2.2.2.2.2.2.2.2.2.2.1 hq
  have hcn : clN k = C := by simp only [clN, hr]
  rw [hcn] at hini
  rw [hN] at hc2 kk
  have hlink := hts _ (clk_in _ (List.mem_map.mpr ⟨_, hlk, rfl⟩))
  simp only [hcn] at hlink
  have hinst := hts _ (inst2_in _ (List.mem_map.mpr ⟨_, List.mem_of_getElem? hr, rfl⟩))
  refine va_new hx hb hts (vw_ok hr).1 (vty (kt k).2.1) (vw_ok hr).2.1 hown hlink hinst hini hO.1 hR.1 wsl_D hS hA hr (alc_fvl (X := X) hg h0 hrl hty) hc1 hc2 hd (fun q H1 g1 g2 g3 => W.sz fun hle => ?_)
  have hq := new_at hR.2 hc hz g1 g2 hle
  subst hq
  have hk := cord_k _ (List.mem_of_getElem? hc)
  have hpos := pos_at hc
  rw [trv_cell X hk.1 hk.2, hpos] at kk
  refine kk H1 ⟨?_, alc_aok hR.2 hg⟩ g3
  rw [alc_wsl hR.2 hg, ent_obj h0]
  exact g1
theorem arr_same {cA : ClassId} {ty : FieldType} {t0 : Nat} {c0 : ClassId} (hK : va_K (xD X) vwCl (tyl X) s) (ht : (tyl X)[t0]? = some (c0, ty)) (hK2 : va_K (xD X) vwCl (tyl X ++ [(cA, ty)]) s) : cA = c0 := by
  have h1 := (hK.2 t0 _ ht).2
  have h2 := (hK2.2 6 (cA, ty) (by simp [tyl])).2
  cases ty with
  | object C =>
    obtain ⟨_, _, -, -, -, h4⟩ := h1
    obtain ⟨_, _, -, -, -, h5⟩ := h2
    exact Option.some.inj (h5.symm.trans h4)
  | _ => exact Option.some.inj (h2.symm.trans h1)
theorem sh_newaT (hx : p.tables.exec = Jvm.exec) (hb : c.code = cc) (hO : Ou X Ls xs s s.heap) (hR : Rel X h H) (hS : va_S (xA X) s.heap H locs)
    {k t0 : Nat} {c0 : ClassId} {ty : FieldType} {atype : ArrayType} {a0 : vp_A} (harr : (Cond.arrayClass (newarray.typeOf atype)).before args s = true) (hty : newarray.typeOf atype = ty) (ht : (tyl X)[t0]? = some (c0, ty)) (hb0 : (kt k).2.1 * componentBytes ty ≤ 536870912) (hlen : (kt k).2.1 < 2 ^ 31) (hcz : csz k = (kt k).2.1)
    (ha : ∀ cA : ClassId, vp_cell cA a0 = arrV cA (kt k).2.1 (fun _ => defaultValue ty)) (hent : ent X h1 k (h.1.2 k) = .inl (c0, a0)) (hg : alc k h = some h1) (hz : h.1.1 < NN → s.heap.size + cells = xz X + h.1.1) (hc1 : cells + 1 ≤ R.cells) (hc2 : slots + csz k ≤ R.slots) (hd : decode cc pc = .ok (.newarray atype, 2))
    (kk : ∀ (H1 : Heap), Rel X h1 H1 → va_S (xA X) s.heap H1 locs → W p l e R s m args below meth c H1 locs (cells + 1) (slots + csz k) Q (F0 m (pc + 2) ls (trv X (.inr (.inr (k, h.1.2 k))) :: rest))) : W p l e R s m args below meth c H locs cells slots Q (F0 m pc ls (.int (Int32.ofNat (kt k).2.1) :: rest)) := by
  obtain ⟨hc, he⟩ := alc_spec hg
  have hA : ∀ q, s.heap.size ≤ q → xA X q := fun q hq => Nat.le_trans hO.2.2.2.2.2.2.2.2.2.2.1 hq
  rw [hcz] at hc2 kk
  refine va_newa hx hb harr hty hO.1 hR.1 wsl_D hS hA ha (nI_pos hlen) (nI_clamp hlen) hb0 hc1 hc2 hd (fun q cA H1 gK g1 g2 g3 => W.sz fun hle => ?_)
  have hq := new_at hR.2 hc hz g1 g2 hle
  subst hq
  have hcA := arr_same hO.1 ht gK
  subst hcA
  have hk := cord_k _ (List.mem_of_getElem? hc)
  have hpos := pos_at hc
  rw [trv_cell X hk.1 hk.2, hpos] at kk
  refine kk H1 ⟨?_, alc_aok hR.2 hg⟩ g3
  rw [alc_wsl hR.2 hg, hent]
  exact g1
theorem kt_len0 : ((List.range 82).all fun k => decide ((kt k).2.1 ≤ 2000)) = true := by decide +kernel
theorem kt_len (k : Nat) : (kt k).2.1 ≤ 2000 := by
  by_cases hk : k < 82
  · simpa using List.all_eq_true.mp kt_len0 k (List.mem_range.mpr hk)
  · rw [kt_out hk]
    decide
def atyp (a : Nat) : ArrayType := match a with
  | 1 => .int
  | 2 => .char
  | 3 => .boolean
  | _ => .long
theorem sh_newa (hx : p.tables.exec = Jvm.exec) (hb : c.code = cc) (hts : ∀ w ∈ wtb, w.before args s = true) (hO : Ou X Ls xs s s.heap) (hR : Rel X h H) (hS : va_S (xA X) s.heap H locs)
    {k : Nat} (h4 : 1 ≤ (kt k).1 ∧ (kt k).1 ≤ 4) (hg : alc k h = some h1) (hz : h.1.1 < NN → s.heap.size + cells = xz X + h.1.1) (hc1 : cells + 1 ≤ R.cells) (hc2 : slots + csz k ≤ R.slots) (hd : decode cc pc = .ok (.newarray (atyp (kt k).1), 2))
    (kk : ∀ (H1 : Heap), Rel X h1 H1 → va_S (xA X) s.heap H1 locs → W p l e R s m args below meth c H1 locs (cells + 1) (slots + csz k) Q (F0 m (pc + 2) ls (trv X (.inr (.inr (k, h.1.2 k))) :: rest))) : W p l e R s m args below meth c H locs cells slots Q (F0 m pc ls (.int (Int32.ofNat (kt k).2.1) :: rest)) := by
  have hl := kt_len k
  have hcz : csz k = (kt k).2.1 := by unfold csz; rw [if_neg (by omega)]
  have h5 : (kt k).1 = 1 ∨ (kt k).1 = 2 ∨ (kt k).1 = 3 ∨ (kt k).1 = 4 := by omega
  obtain ⟨-, he⟩ := alc_spec hg
  have eF : h1.2.1 k (h.1.2 k) = fun _ => 0 := by rw [he]; funext j; simp [zF]
  have eG : h1.2.2.1 k (h.1.2 k) = fun _ => 0 := by rw [he]; funext j; simp [zG]
  rcases h5 with h5 | h5 | h5 | h5
  · rw [h5] at hd
    exact sh_newaT (ty := .int) (atype := .int) (t0 := 0) hx hb hO hR hS (hts (Cond.arrayClass .int) (arr_in _ (by simp))) rfl rfl (show (kt k).2.1 * 4 ≤ 536870912 by omega) (by omega) hcz (fun _ => rfl) (by rw [ent_1 h5, eF]) hg hz hc1 hc2 hd kk
  · rw [h5] at hd
    exact sh_newaT (ty := .char) (atype := .char) (t0 := 1) hx hb hO hR hS (hts (Cond.arrayClass .char) (arr_in _ (by simp))) rfl rfl (show (kt k).2.1 * 2 ≤ 536870912 by omega) (by omega) hcz (fun _ => rfl) (by rw [ent_2 h5, eF]) hg hz hc1 hc2 hd kk
  · rw [h5] at hd
    exact sh_newaT (ty := .boolean) (atype := .boolean) (t0 := 2) hx hb hO hR hS (hts (Cond.arrayClass .boolean) (arr_in _ (by simp))) rfl rfl (show (kt k).2.1 * 1 ≤ 536870912 by omega) (by omega) hcz (fun _ => rfl) (by rw [ent_3 h5, eF]) hg hz hc1 hc2 hd kk
  · rw [h5] at hd
    exact sh_newaT (ty := .long) (atype := .long) (t0 := 3) hx hb hO hR hS (hts (Cond.arrayClass .long) (arr_in _ (by simp))) rfl rfl (show (kt k).2.1 * 8 ≤ 536870912 by omega) (by omega) hcz (fun _ => rfl) (by rw [ent_4 h5, eG]) hg hz hc1 hc2 hd kk
theorem sh_newq (hx : p.tables.exec = Jvm.exec) (hb : c.code = cc) (hown : s.vm.findClass (own o) = some m.cls) (hts : ∀ w ∈ wtb, w.before args s = true) (hO : Ou X Ls xs s s.heap) (hR : Rel X h H) (hS : va_S (xA X) s.heap H locs)
    {idx k : Nat} (hlk : (o, idx, rka k) ∈ clk) (h5 : (kt k).1 = 5) (hg : alc k h = some h1) (hz : h.1.1 < NN → s.heap.size + cells = xz X + h.1.1) (hc1 : cells + 1 ≤ R.cells) (hc2 : slots + csz k ≤ R.slots) (hd : decode cc pc = .ok (.anewarray idx, 3))
    (kk : ∀ (H1 : Heap), Rel X h1 H1 → va_S (xA X) s.heap H1 locs → W p l e R s m args below meth c H1 locs (cells + 1) (slots + csz k) Q (F0 m (pc + 3) ls (trv X (.inr (.inr (k, h.1.2 k))) :: rest))) : W p l e R s m args below meth c H locs cells slots Q (F0 m pc ls (.int (Int32.ofNat (kt k).2.1) :: rest)) := by
  have hl := kt_len k
  have hcz : csz k = (kt k).2.1 := by unfold csz; rw [if_neg (by omega)]
  obtain ⟨hr1, hr2⟩ := kt_ref h5
  obtain ⟨hc, he⟩ := alc_spec hg
  have eR : (fun j => (h1.2.2.2 k (h.1.2 k) j).map fun m => xz X + pos (rka k) m) = fun _ => none := by rw [he]; funext j; simp [zR]
  have hA : ∀ q, s.heap.size ≤ q → xA X q := fun q hq => Nat.le_trans hO.2.2.2.2.2.2.2.2.2.2.1 hq
  have hlink := hts _ (clk_in _ (List.mem_map.mpr ⟨_, hlk, rfl⟩))
  have hk := cord_k _ (List.mem_of_getElem? hc)
  have hpos := pos_at hc
  rw [trv_cell X hk.1 hk.2, hpos] at kk
  rw [hcz] at hc2 kk
  rcases hr2 with hr2 | hr2
  · have hn : clN (rka k) = "StrangeWinding$Scene" := by rw [hr2]; rfl
    simp only [hn] at hlink
    refine va_newq hx hb hown hlink hO.2.2.1 hO.1 hR.1 wsl_D hS hA (nI_pos (by omega)) (nI_clamp (by omega)) (by omega) hc1 hc2 hd (fun q cA H1 gK g1 g2 g3 => W.sz fun hle => ?_)
    have hq := new_at hR.2 hc hz g1 g2 hle
    subst hq
    have hcA := arr_same hO.1 (t0 := 4) (c0 := xc X 5) rfl gK
    subst hcA
    refine kk H1 ⟨?_, alc_aok hR.2 hg⟩ g3
    rw [alc_wsl hR.2 hg, ent_5 h5, eR, if_pos hr2]
    exact g1
  · have hn : clN (rka k) = "StrangeWinding$State" := by rw [hr2]; rfl
    simp only [hn] at hlink
    refine va_newq hx hb hown hlink hO.2.2.2.1 hO.1 hR.1 wsl_D hS hA (nI_pos (by omega)) (nI_clamp (by omega)) (by omega) hc1 hc2 hd (fun q cA H1 gK g1 g2 g3 => W.sz fun hle => ?_)
    have hq := new_at hR.2 hc hz g1 g2 hle
    subst hq
    have hcA := arr_same hO.1 (t0 := 5) (c0 := xc X 6) rfl gK
    subst hcA
    refine kk H1 ⟨?_, alc_aok hR.2 hg⟩ g3
    rw [alc_wsl hR.2 hg, ent_5 h5, eR, if_neg (by omega)]
    exact g1
/-- the text constants' fields -/
theorem sh_getS (hx : p.tables.exec = Jvm.exec) (hb : c.code = cc) (hown : s.vm.findClass (own o) = some m.cls) (hts : ∀ w ∈ wtb, w.before args s = true) (hO : Ou X Ls xs s s.heap) (hS : va_S (xA X) s.heap H locs)
    {idx j k n : Nat} {v : PV} (ho : own o = "java/lang/String") (hj : (j = 0 ∧ idx = 9) ∨ (j = 1 ∧ idx = 15)) (hg : gfd h 90 j k n = some v) (hd : decode cc pc = .ok (.getfield idx, 3))
    (kk : W p l e R s m args below meth c H locs cells slots Q (F0 m (pc + 3) ls (trv X v :: rest))) : W p l e R s m args below meth c H locs cells slots Q (F0 m pc ls (trv X (.inr (.inr (k, n))) :: rest)) := by
  simp only [gfd, if_true] at hg
  rw [ho] at hown
  split at hg
  · rename_i hc
    obtain ⟨rfl, hn⟩ := hc
    obtain ⟨-, -, -, -, -, h6, -⟩ := hO
    obtain ⟨-, g2, g3, -⟩ := h6.1 n hn
    rcases hj with ⟨rfl, rfl⟩ | ⟨rfl, rfl⟩
    · simp only [if_true] at hg
      cases hg
      exact vk_getf hx hb g3 hS hown (hts _ (sfk_in (Cond.fieldLink "java/lang/String" 9 "java/lang/String" "value" "[B") (by simp [sfk]))) (fun _ h9 => h9) hd kk
    · rw [if_neg (by decide)] at hg
      cases hg
      exact vk_getf hx hb g2 hS hown (hts _ (sfk_in (Cond.fieldLink "java/lang/String" 15 "java/lang/String" "coder" "B") (by simp [sfk]))) (fun _ h9 => h9) hd kk
  · cases hg
end SM
