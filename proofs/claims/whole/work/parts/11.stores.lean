/-! SOUNDNESS III: stores, lengths, new cells -/
theorem vp_nar_z {x : Int32} (h : x = 0 ∨ x = 1) : vp_nar .boolean x = x := by rcases h with rfl | rfl <;> decide
section ST
variable {p : Program} {l : Launch} {e : Env} {R : Room} {s : State} {m : MethodId} {args : Array Value} {below : List Frame} {meth : Method} {c : Code} {H : Heap} {locs : List Loc} {cells slots : Nat} {Q : State → Prop}
variable {cc : ByteArray} {pc : Nat} {ls : Array Slot} {rest : List Value} {X : CX} {Ls : Nat} {xs : Nat → Int32} {h h1 : HS} {o : Nat}
theorem Rel.set {k n : Nat} {e' : va_E} {H1 : Heap} (hR : Rel X h H) (hk : (kt k).1 < 9) (hn : n < h.1.2 k) (ht : h1.1 = h.1) (he : ent X h1 k n = e') (ho : ∀ k' n', ¬ (k' = k ∧ n' = n) → ent X h1 k' n' = ent X h k' n') (hP : va_P (xD X) vwCl ((wsl X h).set (pos k n) (xz X + pos k n, e')) H1) : Rel X h1 H1 := by
  obtain ⟨-, hp1, hp2, -⟩ := cell_at (X := X) hR.2 hk hn
  rw [wsl_set hR.2 hp1 hp2 ht he ho] at hP
  exact ⟨hP, by rw [ht]; exact hR.2.1, by rw [ht]; exact hR.2.2⟩
theorem sh_iast (hx : p.tables.exec = Jvm.exec) (hb : c.code = cc) (hO : Ou X Ls xs s s.heap) (hR : Rel X h H) (hS : va_S (xA X) s.heap H locs)
    {k n : Nat} {i : Int32} {v : PV} (hg : ast h 1 k n i v = some h1) (hd : decode cc pc = .ok (.iastore, 1))
    (kk : ∀ (H1 : Heap) (locs1 : List Loc), Rel X h1 H1 → va_S (xA X) s.heap H1 locs1 → h1.1 = h.1 → W p l e R s m args below meth c H1 locs1 cells slots Q (F0 m (pc + 1) ls rest)) : W p l e R s m args below meth c H locs cells slots Q (F0 m pc ls (trv X v :: .int i :: trv X (.inr (.inr (k, n))) :: rest)) := by
  simp only [ast] at hg
  split at hg
  · rename_i hc
    obtain ⟨⟨k0, k1⟩, hp1, hp2, hw⟩ := cell_at (X := X) hR.2 (by rw [hc.1]; decide) hc.2.1
    rw [ent_1 hc.1] at hw
    rw [trv_cell X k0 k1]
    match v, hg with
    | .inl x, hg =>
      cases hg
      refine va_iast hx hb hO.1 hR.1 wsl_D hS _ 0 hw rfl (inb_in hc.2.2) hd (fun H1 locs1 g1 g2 g3 => kk H1 locs1 (hR.set (by rw [hc.1]; decide) hc.2.1 rfl ?_ ?_ g1) g3 rfl)
      · rw [ent_1 hc.1, ← uF_eq]
      · exact fun k' n' hne => ent_F (fun k2 n2 hne2 => uF_ne hne2) hne
    | .inr _, hg => cases hg
  · cases hg
theorem sh_cast (hx : p.tables.exec = Jvm.exec) (hb : c.code = cc) (hO : Ou X Ls xs s s.heap) (hR : Rel X h H) (hS : va_S (xA X) s.heap H locs)
    {k n : Nat} {i : Int32} {v : PV} (hg : ast h 2 k n i v = some h1) (hd : decode cc pc = .ok (.castore, 1))
    (kk : ∀ (H1 : Heap) (locs1 : List Loc), Rel X h1 H1 → va_S (xA X) s.heap H1 locs1 → h1.1 = h.1 → W p l e R s m args below meth c H1 locs1 cells slots Q (F0 m (pc + 1) ls rest)) : W p l e R s m args below meth c H locs cells slots Q (F0 m pc ls (trv X v :: .int i :: trv X (.inr (.inr (k, n))) :: rest)) := by
  simp only [ast] at hg
  split at hg
  · rename_i hc
    obtain ⟨⟨k0, k1⟩, hp1, hp2, hw⟩ := cell_at (X := X) hR.2 (by rw [hc.1]; decide) hc.2.1
    rw [ent_2 hc.1] at hw
    rw [trv_cell X k0 k1]
    match v, hg with
    | .inl x, hg =>
      cases hg
      refine va_cast hx hb hO.1 hR.1 wsl_D hS _ 1 hw rfl (inb_in hc.2.2) hd (fun H1 locs1 g1 g2 g3 => kk H1 locs1 (hR.set (by rw [hc.1]; decide) hc.2.1 rfl ?_ ?_ g1) g3 rfl)
      · rw [ent_2 hc.1, ← uF_eq]
      · exact fun k' n' hne => ent_F (fun k2 n2 hne2 => uF_ne hne2) hne
    | .inr _, hg => cases hg
  · cases hg
theorem sh_zast (hx : p.tables.exec = Jvm.exec) (hb : c.code = cc) (hO : Ou X Ls xs s s.heap) (hR : Rel X h H) (hS : va_S (xA X) s.heap H locs)
    {k n : Nat} {i : Int32} {v : PV} (hg : ast h 3 k n i v = some h1) (hd : decode cc pc = .ok (.bastore, 1))
    (kk : ∀ (H1 : Heap) (locs1 : List Loc), Rel X h1 H1 → va_S (xA X) s.heap H1 locs1 → h1.1 = h.1 → W p l e R s m args below meth c H1 locs1 cells slots Q (F0 m (pc + 1) ls rest)) : W p l e R s m args below meth c H locs cells slots Q (F0 m pc ls (trv X v :: .int i :: trv X (.inr (.inr (k, n))) :: rest)) := by
  simp only [ast] at hg
  split at hg
  · rename_i hc
    obtain ⟨⟨k0, k1⟩, hp1, hp2, hw⟩ := cell_at (X := X) hR.2 (by rw [hc.1]; decide) hc.2.1
    rw [ent_3 hc.1] at hw
    rw [trv_cell X k0 k1]
    match v, hg with
    | .inl x, hg =>
      simp only at hg
      split at hg
      · rename_i h01
        cases hg
        refine va_zast hx hb hO.1 hR.1 wsl_D hS _ 2 hw rfl (inb_in hc.2.2) hd (fun H1 locs1 g1 g2 g3 => kk H1 locs1 (hR.set (by rw [hc.1]; decide) hc.2.1 rfl ?_ ?_ g1) g3 rfl)
        · rw [ent_3 hc.1, ← uF_eq, vp_nar_z h01]
        · exact fun k' n' hne => ent_F (fun k2 n2 hne2 => uF_ne hne2) hne
      · cases hg
    | .inr _, hg => cases hg
  · cases hg
theorem sh_last (hx : p.tables.exec = Jvm.exec) (hb : c.code = cc) (hO : Ou X Ls xs s s.heap) (hR : Rel X h H) (hS : va_S (xA X) s.heap H locs)
    {k n : Nat} {i : Int32} {v : PV} (hg : ast h 4 k n i v = some h1) (hd : decode cc pc = .ok (.lastore, 1))
    (kk : ∀ (H1 : Heap) (locs1 : List Loc), Rel X h1 H1 → va_S (xA X) s.heap H1 locs1 → h1.1 = h.1 → W p l e R s m args below meth c H1 locs1 cells slots Q (F0 m (pc + 1) ls rest)) : W p l e R s m args below meth c H locs cells slots Q (F0 m pc ls (trv X v :: .int i :: trv X (.inr (.inr (k, n))) :: rest)) := by
  simp only [ast] at hg
  split at hg
  · rename_i hc
    obtain ⟨⟨k0, k1⟩, hp1, hp2, hw⟩ := cell_at (X := X) hR.2 (by rw [hc.1]; decide) hc.2.1
    rw [ent_4 hc.1] at hw
    rw [trv_cell X k0 k1]
    match v, hg with
    | .inr (.inl x), hg =>
      cases hg
      refine va_last hx hb hO.1 hR.1 wsl_D hS _ 3 hw rfl (inb_in hc.2.2) hd (fun H1 locs1 g1 g2 g3 => kk H1 locs1 (hR.set (by rw [hc.1]; decide) hc.2.1 rfl ?_ ?_ g1) g3 rfl)
      · rw [ent_4 hc.1, ← uG_eq]
      · exact fun k' n' hne => ent_G (fun k2 n2 hne2 => uG_ne hne2) hne
    | .inl _, hg => cases hg
    | .inr (.inr _), hg => cases hg
  · cases hg
theorem sh_aast (hx : p.tables.exec = Jvm.exec) (hb : c.code = cc) (hO : Ou X Ls xs s s.heap) (hR : Rel X h H) (hS : va_S (xA X) s.heap H locs)
    {k n : Nat} {i : Int32} {v : PV} (hg : ast h 5 k n i v = some h1) (hd : decode cc pc = .ok (.aastore, 1))
    (kk : ∀ (H1 : Heap) (locs1 : List Loc), Rel X h1 H1 → va_S (xA X) s.heap H1 locs1 → h1.1 = h.1 → W p l e R s m args below meth c H1 locs1 cells slots Q (F0 m (pc + 1) ls rest)) : W p l e R s m args below meth c H locs cells slots Q (F0 m pc ls (trv X v :: .int i :: trv X (.inr (.inr (k, n))) :: rest)) := by
  simp only [ast] at hg
  split at hg
  · rename_i hc
    obtain ⟨⟨k0, k1⟩, hp1, hp2, hw⟩ := cell_at (X := X) hR.2 (by rw [hc.1]; decide) hc.2.1
    rw [ent_5 hc.1] at hw
    obtain ⟨hr1, hr2⟩ := kt_ref hc.1
    rw [trv_cell X k0 k1]
    match v, hg with
    | .inr (.inr (k2, m2)), hg =>
      simp only [hr1] at hg
      split at hg
      · rename_i h2
        cases hg
        obtain ⟨rfl, hm2⟩ := h2
        have ho2 : (kt (rka k)).1 = 0 := by rcases hr2 with hr2 | hr2 <;> rw [hr2] <;> rfl
        obtain ⟨⟨j0, j1⟩, -, -, hw2⟩ := cell_at (X := X) hR.2 (by rw [ho2]; decide) hm2
        rw [ent_obj ho2] at hw2
        rw [trv_cell X j0 j1]
        have hfin : ∀ (H1 : Heap) (locs1 : List Loc), va_P (xD X) vwCl ((wsl X h).set (pos k n) (xz X + pos k n, .inl (xc X (if rka k = 23 then 5 else 6), (kt k).2.1, .inr (.inr (.inr (.inr (va_up (fun j => (h.2.2.2 k n j).map fun m => xz X + pos (rka k) m) i.toNatClampNeg (some (xz X + pos (rka k) m2))))))))) H1 → va_S (xA X) s.heap H1 locs1 → W p l e R s m args below meth c H1 locs1 cells slots Q (F0 m (pc + 1) ls rest) := by
          intro H1 locs1 g1 g3
          refine kk H1 locs1 (hR.set (by rw [hc.1]; decide) hc.2.1 rfl ?_ ?_ g1) g3 rfl
          · rw [ent_5 hc.1]
            congr 7
            funext j
            simp only [uR_eq, va_up]
            split <;> rfl
          · exact fun k' n' hne => ent_R (fun k2 n2 hne2 => uR_ne hne2) hne
        rcases hr2 with hr2 | hr2
        · exact va_astq hx hb hO.1 hR.1 wsl_D hS _ 4 _ _ hw (r := (RX6, TX6, 4)) (by rw [if_pos hr2]; rfl) hw2 (by rw [hr2]; rfl) (inb_in hc.2.2) hd (fun H1 locs1 g1 g2 g3 => hfin H1 locs1 g1 g3)
        · exact va_astq hx hb hO.1 hR.1 wsl_D hS _ 5 _ _ hw (r := (RX7, TX7, 7)) (by rw [if_neg (by omega)]; rfl) hw2 (by rw [hr2]; rfl) (inb_in hc.2.2) hd (fun H1 locs1 g1 g2 g3 => hfin H1 locs1 g1 g3)
      · cases hg
    | .inl _, hg => cases hg
    | .inr (.inl _), hg => cases hg
  · cases hg
theorem sh_alen (hx : p.tables.exec = Jvm.exec) (hb : c.code = cc) (hO : Ou X Ls xs s s.heap) (hR : Rel X h H) (hS : va_S (xA X) s.heap H locs)
    {k n : Nat} {v : Int32} (hg : aln Ls h k n = some v) (hd : decode cc pc = .ok (.arraylength, 1))
    (kk : W p l e R s m args below meth c H locs cells slots Q (F0 m (pc + 1) ls (.int v :: rest))) : W p l e R s m args below meth c H locs cells slots Q (F0 m pc ls (trv X (.inr (.inr (k, n))) :: rest)) := by
  simp only [aln] at hg
  split at hg
  · rename_i h0
    subst h0
    split at hg
    · cases hg
      obtain ⟨-, -, -, -, -, -, h7, h8, -, -, h11, -⟩ := hO
      exact va_slen hx hb h7 (by omega) (show ¬ xz X ≤ xb X by omega) hS hd kk
    · cases hg
  · split at hg
    · rename_i h91
      subst h91
      split at hg
      · rename_i hn
        cases hg
        obtain ⟨-, -, -, -, -, h6, -⟩ := hO
        have hT := (h6.1 n hn).2.2.2
        rw [slen_at] at hT
        exact va_tlen hx hb hT hS rfl hd kk
      · cases hg
    · split at hg
      · rename_i hc
        cases hg
        obtain ⟨⟨k0, k1⟩, -, -, hw⟩ := cell_at (X := X) hR.2 (by omega) hc.2.2
        rw [trv_cell X k0 k1]
        have h5 : (kt k).1 = 1 ∨ (kt k).1 = 2 ∨ (kt k).1 = 3 ∨ (kt k).1 = 4 ∨ (kt k).1 = 5 := by omega
        rcases h5 with h5 | h5 | h5 | h5 | h5
        · rw [ent_1 h5] at hw
          exact va_alen hx hb hO.1 hR.1 _ 0 hw rfl rfl hd kk
        · rw [ent_2 h5] at hw
          exact va_alen hx hb hO.1 hR.1 _ 1 hw rfl rfl hd kk
        · rw [ent_3 h5] at hw
          exact va_alen hx hb hO.1 hR.1 _ 2 hw rfl rfl hd kk
        · rw [ent_4 h5] at hw
          exact va_alen hx hb hO.1 hR.1 _ 3 hw rfl rfl hd kk
        · rw [ent_5 h5] at hw
          by_cases h23 : rka k = 23
          · exact va_alen hx hb hO.1 hR.1 _ 4 hw (ty := .object "StrangeWinding$Scene") (by rw [if_pos h23]; rfl) rfl hd kk
          · exact va_alen hx hb hO.1 hR.1 _ 5 hw (ty := .object "StrangeWinding$State") (by rw [if_neg h23]; rfl) rfl hd kk
      · cases hg
end ST
