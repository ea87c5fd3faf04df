/-! SOUNDNESS II: fields and rows -/
def slen : List Nat := sbyt.map List.length
/-- what is outside the cells: the tables, text constants, the script, statics -/
def Ou (X : CX) (Ls : Nat) (xs : Nat → Int32) (s : State) (H : Heap) : Prop :=
  va_K (xD X) vwCl (tyl X) s ∧ (∀ x ∈ nek, va_Nw (.methodLinkNest (own x.1) x.2.1 (yy x.2.2) "StrangeWinding") s) ∧ va_AO "StrangeWinding$Scene" s ∧ va_AO "StrangeWinding$State" s ∧
  (∀ n t, strs[n]? = some t → vk_R t.1 t.2.1 t.2.2 (xK X n) s) ∧ vk_S 26 slen sbyt (xK X) (xV X) (xA X) s H ∧ va_X (xb X) Ls xs s H ∧ xb X < xz X ∧
  va_Z "java/lang/String" "COMPACT_STRINGS" "Z" (.int 1) (xA X) s H ∧ va_Z "jdk/internal/util/Preconditions" "SIOOBE_FORMATTER" "Ljava/util/function/BiFunction;" (xo X) (xA X) s H ∧ xz X ≤ H.size ∧ (xo X).category = 1
theorem Ou.to {X : CX} {Ls : Nat} {xs : Nat → Int32} {s U : State} {H H1 : Heap} {locs : List Loc} (hW : s.WarmedH U.vm) (hS : va_S (xA X) H H1 locs) (h : Ou X Ls xs s H) : Ou X Ls xs U H1 := by
  obtain ⟨h1, h2, h3, h4, h5, h6, h7, h8, h9, h10, h11, h12⟩ := h
  refine ⟨va_K.moved hW.alike h1, fun x hx => va_Nw.warmM hW (h2 x hx), h3.moved hW.alike, h4.moved hW.alike, fun n t ht => (h5 n t ht).warm hW, (h6.kept hS.2.1).moved hW.alike, (h7.kept (hS.2.1 _ (by omega) (by show ¬ xz X ≤ xb X; omega))).moved hW.alike, h8, (h9.kept hS.2.1).moved hW.alike, (h10.kept hS.2.1).moved hW.alike, Nat.le_trans h11 hS.1, h12⟩
theorem map_set {f g : Nat → Value} {N j : Nat} {w : Value} (hj : g j = w) (ho : ∀ i, i ≠ j → g i = f i) : (List.range N).map g = ((List.range N).map f).set j w := by
  apply List.ext_getElem?
  intro i
  by_cases hij : j = i
  · subst hij
    by_cases hl : j < N
    · rw [List.getElem?_set_self (by simpa using hl)]
      simp [List.getElem?_map, List.getElem?_range hl, hj]
    · rw [List.getElem?_eq_none (by simpa using hl), List.getElem?_eq_none (by simpa using hl)]
  · rw [List.getElem?_set_ne hij]
    simp only [List.getElem?_map]
    by_cases hl : i < N
    · simp [List.getElem?_range hl, ho i (fun e => hij e.symm)]
    · rw [List.getElem?_eq_none (by simpa using hl)]
      rfl
def fin2 (k j : Nat) : Bool := match vwCl[(kt k).2.1]? with
  | some r => (r.2.1 j).2.2.2
  | none => false
def dcl (k j : Nat) : String := match vwCl[(kt k).2.1]? with
  | some r => (r.2.1 j).1
  | none => ""
theorem nz01 {x : Int32} (h : x = 0 ∨ x = 1) : narrow .boolean (.int x) = .int x ∧ fits .boolean (.int x) = true := by rcases h with rfl | rfl <;> decide
section SH
variable {p : Program} {l : Launch} {e : Env} {R : Room} {s : State} {m : MethodId} {args : Array Value} {below : List Frame} {meth : Method} {c : Code} {H : Heap} {locs : List Loc} {cells slots : Nat} {Q : State → Prop}
variable {cc : ByteArray} {pc : Nat} {ls : Array Slot} {rest : List Value} {X : CX} {Ls : Nat} {xs : Nat → Int32} {h h1 : HS} {o : Nat}
theorem sh_get (hx : p.tables.exec = Jvm.exec) (hb : c.code = cc) (hown : s.vm.findClass (own o) = some m.cls) (hts : ∀ w ∈ wtb, w.before args s = true) (hO : Ou X Ls xs s s.heap) (hR : Rel X h H)
    {idx K j k n : Nat} {v : PV} (hlk : (o, idx, K, j) ∈ flk) (h90 : ¬ K = 90) (hg : gfd h K j k n = some v) (hd : decode cc pc = .ok (.getfield idx, 3))
    (kk : W p l e R s m args below meth c H locs cells slots Q (F0 m (pc + 3) ls (trv X v :: rest))) : W p l e R s m args below meth c H locs cells slots Q (F0 m pc ls (trv X (.inr (.inr (k, n))) :: rest)) := by
  simp only [gfd, if_neg h90] at hg
  split at hg
  · rename_i hc
    obtain ⟨rfl, hn⟩ := hc
    by_cases h0 : (kt k).1 = 0
    · obtain ⟨⟨k0, k1⟩, -, -, hw⟩ := cell_at (X := X) hR.2 (by rw [h0]; decide) hn
      obtain ⟨⟨C, T, N⟩, hr, hrl, hty⟩ := kt_obj h0
      rw [ent_obj h0] at hw
      cases ht : (kt k).2.2[j]? with
      | none => simp [h0, ht] at hg
      | some t =>
        have hjl : j < N := by rw [show N = (kt k).2.2.length from hrl]; exact (List.getElem?_eq_some_iff.mp ht).1
        have hv : fvl X h k n j = trv X v := by
          have hq := hty j t ht
          obtain ⟨t1, t2⟩ := t
          rw [h0, ht] at hg
          match t1, ht, hg, hq with
          | 0, ht, hg, _ => cases hg; simp [fvl, ht, trv]
          | 1, ht, hg, _ => cases hg; simp [fvl, ht, trv]
          | 3, ht, hg, _ => cases hg; simp [fvl, ht, trv]
          | 2, ht, hg, hq =>
            simp only at hg
            split at hg
            · rename_i m2 hm2
              cases hg
              have h2 : 0 < t2 ∧ t2 < 82 := by
                unfold tyok at hq
                split at hq <;> simp_all
              rw [trv_cell X h2.1 h2.2]
              simp [fvl, ht, hm2, va_rf]
            · cases hg
          | t1 + 4, ht, hg, _ => cases hg
        rw [trv_cell X k0 k1]
        refine va_get hx hb hts (vw_ok hr).1 hown hO.1 hR.1 _ hw hr j hjl (hts _ (flk_in _ (List.mem_map.mpr ⟨_, hlk, by simp only [flC, hr]⟩))) (fun _ h9 => h9) (v := trv X v) ?_ hd kk
        rw [List.getElem?_map, List.getElem?_range (by rw [← show N = (kt k).2.2.length from hrl]; exact hjl)]
        simp [hv]
    · split at hg <;> simp_all
  · cases hg
theorem sh_put (hx : p.tables.exec = Jvm.exec) (hb : c.code = cc) (hown : s.vm.findClass (own o) = some m.cls) (hts : ∀ w ∈ wtb, w.before args s = true) (hO : Ou X Ls xs s s.heap) (hR : Rel X h H) (hS : va_S (xA X) s.heap H locs)
    {idx K j k n : Nat} {v : PV} (hlk : (o, idx, K, j) ∈ flk) (hg : pfd h K j k n v = some h1) (hfin : fin2 K j = true → meth.name = "<init>" ∧ dcl K j = own o) (hd : decode cc pc = .ok (.putfield idx, 3))
    (kk : ∀ (H1 : Heap) (locs1 : List Loc), Rel X h1 H1 → va_S (xA X) s.heap H1 locs1 → h1.1 = h.1 → W p l e R s m args below meth c H1 locs1 cells slots Q (F0 m (pc + 3) ls rest)) : W p l e R s m args below meth c H locs cells slots Q (F0 m pc ls (trv X v :: trv X (.inr (.inr (k, n))) :: rest)) := by
  simp only [pfd] at hg
  split at hg
  · rename_i hc
    obtain ⟨rfl, hn⟩ := hc
    by_cases h0 : (kt k).1 = 0
    · obtain ⟨⟨k0, k1⟩, hp1, hp2, hw⟩ := cell_at (X := X) hR.2 (by rw [h0]; decide) hn
      obtain ⟨⟨C, T, N⟩, hr, hrl, hty⟩ := kt_obj h0
      rw [ent_obj h0] at hw
      cases ht : (kt k).2.2[j]? with
      | none => simp [h0, ht] at hg
      | some t =>
        have hjl : j < N := by rw [show N = (kt k).2.2.length from hrl]; exact (List.getElem?_eq_some_iff.mp ht).1
        have hpd := (vw_ok hr).2.1 j hjl
        have hlink := hts _ (flk_in _ (List.mem_map.mpr ⟨_, hlk, rfl⟩))
        simp only [flC, hr] at hlink
        rw [h0, ht] at hg
        have main : narrow (vty (kt k).2.1 j) (trv X v) = trv X v ∧ fits (vty (kt k).2.1 j) (trv X v) = true ∧ h1.1 = h.1 ∧ ent X h1 k n = .inr ((kt k).2.1, ((List.range (kt k).2.2.length).map (fvl X h k n)).set j (trv X v)) ∧ (∀ k' n', ¬ (k' = k ∧ n' = n) → ent X h1 k' n' = ent X h k' n') := by
          have hq := hty j t ht
          obtain ⟨t1, t2⟩ := t
          generalize hvt : vty (kt k).2.1 j = ty at hq ⊢
          match t1, v, ht, hg, hq with
          | 0, .inl x, ht, hg, hq =>
            cases hg
            have hty2 : ty = .int := by unfold tyok at hq; split at hq <;> simp_all
            subst hty2
            refine ⟨rfl, rfl, rfl, ?_, fun k' n' hne => ent_F (fun k2 n2 hne2 => uF_ne hne2) hne⟩
            rw [ent_obj h0]
            congr 2
            refine map_set ?_ ?_
            · simp [fvl, ht, trv, uF]
            · intro i hi
              simp only [fvl]
              split <;> simp [uF, hi]
          | 3, .inl x, ht, hg, hq =>
            simp only at hg
            split at hg
            · rename_i h01
              cases hg
              have hty2 : ty = .boolean := by unfold tyok at hq; split at hq <;> simp_all
              subst hty2
              refine ⟨(nz01 h01).1, (nz01 h01).2, rfl, ?_, fun k' n' hne => ent_F (fun k2 n2 hne2 => uF_ne hne2) hne⟩
              rw [ent_obj h0]
              congr 2
              refine map_set ?_ ?_
              · simp [fvl, ht, trv, uF]
              · intro i hi
                simp only [fvl]
                split <;> simp [uF, hi]
            · cases hg
          | 1, .inr (.inl x), ht, hg, hq =>
            cases hg
            have hty2 : ty = .long := by unfold tyok at hq; split at hq <;> simp_all
            subst hty2
            refine ⟨rfl, rfl, rfl, ?_, fun k' n' hne => ent_G (fun k2 n2 hne2 => uG_ne hne2) hne⟩
            rw [ent_obj h0]
            congr 2
            refine map_set ?_ ?_
            · simp [fvl, ht, trv, uG]
            · intro i hi
              simp only [fvl]
              split <;> simp [uG, hi]
          | 2, .inr (.inr (k2, m2)), ht, hg, hq =>
            simp only at hg
            split at hg
            · rename_i h01
              cases hg
              obtain ⟨rfl, hm2⟩ := h01
              have hk2 : (0 < k2 ∧ k2 < 82) ∧ ((∃ C', ty = .object C') ∨ ∃ t', ty = .array t') := by unfold tyok at hq; split at hq <;> simp_all
              rw [trv_cell X hk2.1.1 hk2.1.2]
              refine ⟨by rcases hk2.2 with ⟨C', rfl⟩ | ⟨t', rfl⟩ <;> rfl, by rcases hk2.2 with ⟨C', rfl⟩ | ⟨t', rfl⟩ <;> rfl, rfl, ?_, fun k' n' hne => ent_R (fun k2 n2 hne2 => uR_ne hne2) hne⟩
              rw [ent_obj h0]
              congr 2
              refine map_set ?_ ?_
              · simp [fvl, ht, uR, va_rf]
              · intro i hi
                simp only [fvl]
                split <;> simp [uR, hi]
            · cases hg
          | 0, .inr _, ht, hg, hq => cases hg
          | 1, .inl _, ht, hg, hq => cases hg
          | 1, .inr (.inr _), ht, hg, hq => cases hg
          | 2, .inl _, ht, hg, hq => cases hg
          | 2, .inr (.inl _), ht, hg, hq => cases hg
          | 3, .inr _, ht, hg, hq => cases hg
          | t1 + 4, _, ht, hg, hq => cases hg
        obtain ⟨hn1, hn2, hn3, hn4, hn5⟩ := main
        have done : ∀ (H1 : Heap) (locs1 : List Loc), va_P (xD X) vwCl ((wsl X h).set (pos k n) (xz X + pos k n, .inr ((kt k).2.1, ((List.range (kt k).2.2.length).map (fvl X h k n)).set j (trv X v)))) H1 → va_D (xA X) ((wsl X h).set (pos k n) (xz X + pos k n, .inr ((kt k).2.1, ((List.range (kt k).2.2.length).map (fvl X h k n)).set j (trv X v)))) → va_S (xA X) s.heap H1 locs1 → W p l e R s m args below meth c H1 locs1 cells slots Q (F0 m (pc + 3) ls rest) := by
          intro H1 locs1 g1 g2 g3
          rw [wsl_set hR.2 hp1 hp2 hn3 hn4 hn5] at g1
          exact kk H1 locs1 ⟨g1, by rw [hn3]; exact hR.2.1, by rw [hn3]; exact hR.2.2⟩ g3 hn3
        rw [trv_cell X k0 k1]
        cases hf : (T j).2.2.2 with
        | false => exact va_put hx hb hts (vw_ok hr).1 (vty (kt k).2.1) (vw_ok hr).2.1 (vw_ok hr).2.2 hown hO.1 hR.1 wsl_D hS _ hw hr j hjl hlink (fun _ h9 => h9) hf hpd hn1 hn2 (by rw [List.length_map, List.length_range, ← show N = (kt k).2.2.length from hrl]; exact hjl) hd done
        | true =>
          obtain ⟨hi1, hi2⟩ := hfin (by simp only [fin2, hr]; exact hf)
          simp only [dcl, hr] at hi2
          exact va_putF hx hb hts (vw_ok hr).1 (vty (kt k).2.1) (vw_ok hr).2.1 (vw_ok hr).2.2 hown hO.1 hR.1 wsl_D hS _ hw hr j hjl hlink (fun _ h9 => h9) hf hi1 hi2 hpd hn1 hn2 (by rw [List.length_map, List.length_range, ← show N = (kt k).2.2.length from hrl]; exact hjl) hd done
    · split at hg <;> simp_all
  · cases hg
theorem ent_1 {X : CX} {h : HS} {k n : Nat} (hk : (kt k).1 = 1) : ent X h k n = .inl (xc X 1, (kt k).2.1, .inl (h.2.1 k n)) := by simp only [ent, hk]
theorem ent_2 {X : CX} {h : HS} {k n : Nat} (hk : (kt k).1 = 2) : ent X h k n = .inl (xc X 2, (kt k).2.1, .inl (h.2.1 k n)) := by simp only [ent, hk]
theorem ent_3 {X : CX} {h : HS} {k n : Nat} (hk : (kt k).1 = 3) : ent X h k n = .inl (xc X 3, (kt k).2.1, .inl (h.2.1 k n)) := by simp only [ent, hk]
theorem ent_4 {X : CX} {h : HS} {k n : Nat} (hk : (kt k).1 = 4) : ent X h k n = .inl (xc X 4, (kt k).2.1, .inr (.inl (h.2.2.1 k n))) := by simp only [ent, hk]
theorem ent_5 {X : CX} {h : HS} {k n : Nat} (hk : (kt k).1 = 5) : ent X h k n = .inl (xc X (if rka k = 23 then 5 else 6), (kt k).2.1, .inr (.inr (.inr (.inr fun j => (h.2.2.2 k n j).map fun m => xz X + pos (rka k) m)))) := by simp only [ent, hk]
theorem kt_ref0 : ((List.range 82).all fun k => (kt k).1 != 5 || (decide ((kt k).2.2 = [(2, rka k)]) && (decide (rka k = 23) || decide (rka k = 25)))) = true := by decide +kernel
theorem kt_ref {k : Nat} (h : (kt k).1 = 5) : (kt k).2.2 = [(2, rka k)] ∧ (rka k = 23 ∨ rka k = 25) := by
  have hk : k < 82 := by
    apply Decidable.byContradiction
    intro hk
    rw [kt_out hk] at h
    cases h
  have h1 := List.all_eq_true.mp kt_ref0 k (List.mem_range.mpr hk)
  rw [h] at h1
  simpa using h1
theorem sh_iald (hx : p.tables.exec = Jvm.exec) (hb : c.code = cc) (hO : Ou X Ls xs s s.heap) (hR : Rel X h H) (hS : va_S (xA X) s.heap H locs)
    {k n : Nat} {i : Int32} {v : PV} (hg : ald Ls xs h 1 k n i = some v) (hd : decode cc pc = .ok (.iaload, 1))
    (kk : W p l e R s m args below meth c H locs cells slots Q (F0 m (pc + 1) ls (trv X v :: rest))) : W p l e R s m args below meth c H locs cells slots Q (F0 m pc ls (.int i :: trv X (.inr (.inr (k, n))) :: rest)) := by
  simp only [ald] at hg
  split at hg
  · rename_i h0
    subst h0
    split at hg
    · rename_i hc
      cases hg
      obtain ⟨-, -, -, -, -, -, h7, h8, -, -, h11, -⟩ := hO
      exact va_sld hx hb h7 (by omega) (show ¬ xz X ≤ xb X by omega) hS (inb_in hc.2.2) hd kk
    · cases hg
  · split at hg
    · split at hg
      · rename_i hc
        exact absurd hc.1 (by decide)
      · cases hg
    · split at hg
      · rename_i hc
        cases hg
        obtain ⟨⟨k0, k1⟩, -, -, hw⟩ := cell_at (X := X) hR.2 (by rw [hc.1]; decide) hc.2.1
        rw [ent_1 hc.1] at hw
        rw [trv_cell X k0 k1]
        exact va_iald hx hb hO.1 hR.1 _ 0 hw rfl (inb_in hc.2.2) hd kk
      · cases hg
theorem sh_cald (hx : p.tables.exec = Jvm.exec) (hb : c.code = cc) (hO : Ou X Ls xs s s.heap) (hR : Rel X h H)
    {k n : Nat} {i : Int32} {v : PV} (hg : ald Ls xs h 2 k n i = some v) (hd : decode cc pc = .ok (.caload, 1))
    (kk : W p l e R s m args below meth c H locs cells slots Q (F0 m (pc + 1) ls (trv X v :: rest))) : W p l e R s m args below meth c H locs cells slots Q (F0 m pc ls (.int i :: trv X (.inr (.inr (k, n))) :: rest)) := by
  simp only [ald] at hg
  split at hg
  · split at hg
    · rename_i hc
      exact absurd hc.1 (by decide)
    · cases hg
  · split at hg
    · split at hg
      · rename_i hc
        exact absurd hc.1 (by decide)
      · cases hg
    · split at hg
      · rename_i hc
        cases hg
        obtain ⟨⟨k0, k1⟩, -, -, hw⟩ := cell_at (X := X) hR.2 (by rw [hc.1]; decide) hc.2.1
        rw [ent_2 hc.1] at hw
        rw [trv_cell X k0 k1]
        exact va_cald hx hb hO.1 hR.1 _ 1 hw rfl (inb_in hc.2.2) hd kk
      · cases hg
theorem sh_lald (hx : p.tables.exec = Jvm.exec) (hb : c.code = cc) (hO : Ou X Ls xs s s.heap) (hR : Rel X h H)
    {k n : Nat} {i : Int32} {v : PV} (hg : ald Ls xs h 4 k n i = some v) (hd : decode cc pc = .ok (.laload, 1))
    (kk : W p l e R s m args below meth c H locs cells slots Q (F0 m (pc + 1) ls (trv X v :: rest))) : W p l e R s m args below meth c H locs cells slots Q (F0 m pc ls (.int i :: trv X (.inr (.inr (k, n))) :: rest)) := by
  simp only [ald] at hg
  split at hg
  · split at hg
    · rename_i hc
      exact absurd hc.1 (by decide)
    · cases hg
  · split at hg
    · split at hg
      · rename_i hc
        exact absurd hc.1 (by decide)
      · cases hg
    · split at hg
      · rename_i hc
        cases hg
        obtain ⟨⟨k0, k1⟩, -, -, hw⟩ := cell_at (X := X) hR.2 (by rw [hc.1]; decide) hc.2.1
        rw [ent_4 hc.1] at hw
        rw [trv_cell X k0 k1]
        exact va_lald hx hb hO.1 hR.1 _ 3 hw rfl (inb_in hc.2.2) hd kk
      · cases hg
theorem slen_at (n : Nat) : slen.getD n 0 = (sby n).length := by
  simp only [slen, sby, List.getD, List.getElem?_map]
  cases sbyt[n]? <;> rfl
theorem sh_bald (hx : p.tables.exec = Jvm.exec) (hb : c.code = cc) (hO : Ou X Ls xs s s.heap) (hR : Rel X h H) (hS : va_S (xA X) s.heap H locs)
    {k n : Nat} {i : Int32} {v : PV} (hg : ald Ls xs h 3 k n i = some v) (hd : decode cc pc = .ok (.baload, 1))
    (kk : W p l e R s m args below meth c H locs cells slots Q (F0 m (pc + 1) ls (trv X v :: rest))) : W p l e R s m args below meth c H locs cells slots Q (F0 m pc ls (.int i :: trv X (.inr (.inr (k, n))) :: rest)) := by
  simp only [ald] at hg
  split at hg
  · split at hg
    · rename_i hc
      exact absurd hc.1 (by decide)
    · cases hg
  · split at hg
    · rename_i h91
      subst h91
      split at hg
      · rename_i hc
        cases hg
        obtain ⟨-, -, -, -, -, h6, -⟩ := hO
        have hT := (h6.1 n hc.2.1).2.2.2
        rw [slen_at] at hT
        exact va_tb hx hb hT hS (inb_in hc.2.2) rfl hd kk
      · cases hg
    · split at hg
      · rename_i hc
        cases hg
        obtain ⟨⟨k0, k1⟩, -, -, hw⟩ := cell_at (X := X) hR.2 (by rw [hc.1]; decide) hc.2.1
        rw [ent_3 hc.1] at hw
        rw [trv_cell X k0 k1]
        exact va_zald hx hb hO.1 hR.1 _ 2 hw rfl (inb_in hc.2.2) hd kk
      · cases hg
theorem sh_aald (hx : p.tables.exec = Jvm.exec) (hb : c.code = cc) (hO : Ou X Ls xs s s.heap) (hR : Rel X h H)
    {k n : Nat} {i : Int32} {v : PV} (hg : ald Ls xs h 5 k n i = some v) (hd : decode cc pc = .ok (.aaload, 1))
    (kk : W p l e R s m args below meth c H locs cells slots Q (F0 m (pc + 1) ls (trv X v :: rest))) : W p l e R s m args below meth c H locs cells slots Q (F0 m pc ls (.int i :: trv X (.inr (.inr (k, n))) :: rest)) := by
  simp only [ald] at hg
  split at hg
  · split at hg
    · rename_i hc
      exact absurd hc.1 (by decide)
    · cases hg
  · split at hg
    · split at hg
      · rename_i hc
        exact absurd hc.1 (by decide)
      · cases hg
    · split at hg
      · rename_i hc
        obtain ⟨⟨k0, k1⟩, -, -, hw⟩ := cell_at (X := X) hR.2 (by rw [hc.1]; decide) hc.2.1
        rw [ent_5 hc.1] at hw
        obtain ⟨hr1, hr2⟩ := kt_ref hc.1
        rw [trv_cell X k0 k1]
        split at hg
        · rename_i m2 rk hm2 hrk
          cases hg
          rw [hr1] at hrk
          have hrk2 : rka k = rk := by simp at hrk; exact hrk.2
          rw [← hrk2, trv_cell X (by omega) (by omega)] at kk
          rcases hr2 with hr2 | hr2
          · refine va_aldq hx hb hO.1 hR.1 _ 4 hw (by rw [if_pos hr2]; rfl) (inb_in hc.2.2) hd ?_
            rw [hm2]
            exact kk
          · refine va_aldq hx hb hO.1 hR.1 _ 5 hw (by rw [if_neg (by omega)]; rfl) (inb_in hc.2.2) hd ?_
            rw [hm2]
            exact kk
        · cases hg
      · cases hg
end SH
