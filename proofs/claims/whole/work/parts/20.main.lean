/-! SOUNDNESS IX: the main induction -/
theorem acn2_in : Cond.native arraycopyName ∈ wtb := List.mem_filter.mpr ⟨acn_in, by decide +kernel⟩
section HD
variable {p : Program} {l : Launch} {e : Env} {R : Room} {s : State} {m : MethodId} {args : Array Value} {below : List Frame} {meth : Method} {c : Code} {H : Heap} {locs : List Loc} {cells slots : Nat} {Q : State → Prop}
variable {pc len op a b q q1 mm d : Nat} {z : PV} {ls : Array Slot} {L : LL} {st st1 : List PV} {X : CX} {Ls : Nat} {xs : Nat → Int32} {h h1 : HS} {ins : Instr} {ini : Bool} {rt : Option FieldType}
set_option maxHeartbeats 8000000 in
theorem sl_heap (C0 : MC p s m args meth c mm X Ls xs) (hR : Rel X h H) (hS : va_S (xA X) s.heap H locs) (hl : hasL X ls (mx mm) L) (hz : h.1.1 < NN → s.heap.size + cells = xz X + h.1.1) (hini : ini = true → (yy mm).name = "<init>")
    (hd : decode (bb mm) pc = .ok (ins, len)) (ha : agl (mo mm) pc ini rt ins len op a b z q = true) (h29 : ¬ op < 29) (h34 : ¬ op = 34) (h45 : ¬ op = 45) (h35 : ¬ op = 35) (h36 : ¬ op = 36) (hdd : ¬ (44 ≤ op ∧ d = 0)) (hfr : d ≤ R.frames) (hlo : 64 * d ≤ R.locals)
    (hs : hst Ls xs op a b q st h = some (q1, st1, h1)) (hc0 : cells ≤ R.cells) (hs0 : slots ≤ R.slots) (hc1 : cells + dC h h1 ≤ R.cells) (hc2 : slots + dS h h1 ≤ R.slots)
    (kk : ∀ (H1 : Heap) (locs1 : List Loc), Rel X h1 H1 → va_S (xA X) s.heap H1 locs1 → W p l e R s m args below meth c H1 locs1 (cells + dC h h1) (slots + dS h h1) Q (F0 m q1 ls (st1.map (trv X)))) : W p l e R s m args below meth c H locs cells slots Q (F0 m pc ls (st.map (trv X))) := by
  obtain ⟨hx, hb, hml, hown, hts, hO, hname⟩ := C0
  have hX : (xo X).category = 1 := hO.2.2.2.2.2.2.2.2.2.2.2
  have hsame : ∀ {H1 : Heap} {locs1 : List Loc} {g : JFrame}, h1.1 = h.1 → W p l e R s m args below meth c H1 locs1 (cells + dC h h1) (slots + dS h h1) Q g → W p l e R s m args below meth c H1 locs1 cells slots Q g := by
    intro H1 locs1 g e0 k
    rw [(dz e0).1, (dz e0).2, Nat.add_zero, Nat.add_zero] at k
    exact k
  unfold agl at ha
  split at ha
  case h_5 =>
    simp only [Bool.and_eq_true, decide_eq_true_eq] at ha
    obtain ⟨⟨rfl, rfl, rfl⟩, hlk⟩ := ha
    simp only [hst] at hs
    split at hs
    · simp only [Option.map_eq_some_iff] at hs
      obtain ⟨v, hv, hs⟩ := hs
      cases hs
      have k2 := hsame rfl (kk H locs hR hS)
      split at hlk
      · rename_i h90
        subst h90
        simp only [decide_eq_true_eq] at hlk
        exact sh_getS hx hb hown hts hO hS hlk.1 hlk.2 hv hd k2
      · rename_i h90
        exact sh_get hx hb hown hts hO hR (by simpa using hlk) h90 hv hd k2
    · cases hs
  case h_6 =>
    simp only [Bool.and_eq_true, decide_eq_true_eq] at ha
    obtain ⟨⟨⟨rfl, rfl, rfl⟩, hlk⟩, hfin⟩ := ha
    simp only [hst] at hs
    split at hs
    · simp only [Option.map_eq_some_iff] at hs
      obtain ⟨v, hv, hs⟩ := hs
      cases hs
      refine sh_put hx hb hown hts hO hR hS (by simpa using hlk) hv (fun hf => ?_) hd (fun H1 locs1 g1 g2 g3 => hsame g3 (kk H1 locs1 g1 g2))
      rw [hf] at hfin
      simp only [Bool.not_true, Bool.false_or, Bool.and_eq_true, decide_eq_true_eq] at hfin
      exact ⟨hname.trans (hini hfin.1), hfin.2⟩
    · cases hs
  case h_7 =>
    simp only [decide_eq_true_eq] at ha
    obtain ⟨rfl, rfl, rfl, rfl⟩ := ha
    simp only [hst] at hs
    split at hs
    · simp only [Option.map_eq_some_iff] at hs
      obtain ⟨v, hv, hs⟩ := hs
      cases hs
      exact sh_iald hx hb hO hR hS hv hd (hsame rfl (kk H locs hR hS))
    · cases hs
  case h_8 =>
    simp only [decide_eq_true_eq] at ha
    obtain ⟨rfl, rfl, rfl, rfl⟩ := ha
    simp only [hst] at hs
    split at hs
    · simp only [Option.map_eq_some_iff] at hs
      obtain ⟨v, hv, hs⟩ := hs
      cases hs
      exact sh_cald hx hb hO hR hv hd (hsame rfl (kk H locs hR hS))
    · cases hs
  case h_9 =>
    simp only [decide_eq_true_eq] at ha
    obtain ⟨rfl, rfl, rfl, rfl⟩ := ha
    simp only [hst] at hs
    split at hs
    · simp only [Option.map_eq_some_iff] at hs
      obtain ⟨v, hv, hs⟩ := hs
      cases hs
      exact sh_bald hx hb hO hR hS hv hd (hsame rfl (kk H locs hR hS))
    · cases hs
  case h_10 =>
    simp only [decide_eq_true_eq] at ha
    obtain ⟨rfl, rfl, rfl, rfl⟩ := ha
    simp only [hst] at hs
    split at hs
    · simp only [Option.map_eq_some_iff] at hs
      obtain ⟨v, hv, hs⟩ := hs
      cases hs
      exact sh_lald hx hb hO hR hv hd (hsame rfl (kk H locs hR hS))
    · cases hs
  case h_11 =>
    simp only [decide_eq_true_eq] at ha
    obtain ⟨rfl, rfl, rfl, rfl⟩ := ha
    simp only [hst] at hs
    split at hs
    · simp only [Option.map_eq_some_iff] at hs
      obtain ⟨v, hv, hs⟩ := hs
      cases hs
      exact sh_aald hx hb hO hR hv hd (hsame rfl (kk H locs hR hS))
    · cases hs
  case h_12 =>
    simp only [decide_eq_true_eq] at ha
    obtain ⟨rfl, rfl, rfl, rfl⟩ := ha
    simp only [hst] at hs
    split at hs
    · simp only [Option.map_eq_some_iff] at hs
      obtain ⟨v, hv, hs⟩ := hs
      cases hs
      exact sh_iast hx hb hO hR hS hv hd (fun H1 locs1 g1 g2 g3 => hsame g3 (kk H1 locs1 g1 g2))
    · cases hs
  case h_13 =>
    simp only [decide_eq_true_eq] at ha
    obtain ⟨rfl, rfl, rfl, rfl⟩ := ha
    simp only [hst] at hs
    split at hs
    · simp only [Option.map_eq_some_iff] at hs
      obtain ⟨v, hv, hs⟩ := hs
      cases hs
      exact sh_cast hx hb hO hR hS hv hd (fun H1 locs1 g1 g2 g3 => hsame g3 (kk H1 locs1 g1 g2))
    · cases hs
  case h_14 =>
    simp only [decide_eq_true_eq] at ha
    obtain ⟨rfl, rfl, rfl, rfl⟩ := ha
    simp only [hst] at hs
    split at hs
    · simp only [Option.map_eq_some_iff] at hs
      obtain ⟨v, hv, hs⟩ := hs
      cases hs
      exact sh_zast hx hb hO hR hS hv hd (fun H1 locs1 g1 g2 g3 => hsame g3 (kk H1 locs1 g1 g2))
    · cases hs
  case h_15 =>
    simp only [decide_eq_true_eq] at ha
    obtain ⟨rfl, rfl, rfl, rfl⟩ := ha
    simp only [hst] at hs
    split at hs
    · simp only [Option.map_eq_some_iff] at hs
      obtain ⟨v, hv, hs⟩ := hs
      cases hs
      exact sh_last hx hb hO hR hS hv hd (fun H1 locs1 g1 g2 g3 => hsame g3 (kk H1 locs1 g1 g2))
    · cases hs
  case h_16 =>
    simp only [decide_eq_true_eq] at ha
    obtain ⟨rfl, rfl, rfl, rfl⟩ := ha
    simp only [hst] at hs
    split at hs
    · simp only [Option.map_eq_some_iff] at hs
      obtain ⟨v, hv, hs⟩ := hs
      cases hs
      exact sh_aast hx hb hO hR hS hv hd (fun H1 locs1 g1 g2 g3 => hsame g3 (kk H1 locs1 g1 g2))
    · cases hs
  case h_17 =>
    simp only [decide_eq_true_eq] at ha
    obtain ⟨rfl, rfl, rfl⟩ := ha
    simp only [hst] at hs
    split at hs
    · simp only [Option.map_eq_some_iff] at hs
      obtain ⟨v, hv, hs⟩ := hs
      cases hs
      exact sh_alen hx hb hO hR hS hv hd (hsame rfl (kk H locs hR hS))
    · cases hs
  case h_18 df lo hi offs =>
    simp only [Bool.and_eq_true, decide_eq_true_eq] at ha
    obtain ⟨rfl, hT⟩ := ha
    simp only [hst] at hs
    split at hs
    · rename_i x r
      split at hT
      · rename_i lo2 ts d2 hts2
        simp only [hts2] at hs
        cases hs
        simp only [Bool.and_eq_true, decide_eq_true_eq] at hT
        obtain ⟨⟨rfl, hdf, hlen, hsz⟩, hall⟩ := hT
        have k2 := hsame rfl (kk H locs hR hS)
        by_cases h1 : x.toInt < lo2
        · rw [if_pos h1] at k2
          exact lv_tableOut hx hb hd (Or.inl h1) hdf k2
        · rw [if_neg h1] at k2
          by_cases h2 : hi < x.toInt
          · have h3 : ts[(x.toInt - lo2).toNat]? = none := List.getElem?_eq_none (by omega)
            rw [h3] at k2
            exact lv_tableOut hx hb hd (Or.inr h2) hdf k2
          · have h4 : (x.toInt - lo2).toNat < ts.length := by omega
            have h5 : (x.toInt - lo2).toNat < offs.size := by omega
            have h6 := List.all_eq_true.mp hall (offs.toList[(x.toInt - lo2).toNat]'(by simpa using h5), ts[(x.toInt - lo2).toNat]) (by
              rw [List.mem_iff_getElem]
              exact ⟨(x.toInt - lo2).toNat, by simp; omega, by simp⟩)
            simp only [decide_eq_true_eq] at h6
            rw [List.getElem?_eq_getElem h4] at k2
            refine lv_tableIn hx hb hd h1 h2 (off := offs.toList[(x.toInt - lo2).toNat]'(by simpa using h5)) ?_ h6 k2
            rw [Array.getElem?_eq_getElem h5]
            simp
      · cases hT
    · cases hs
  case h_21 =>
    simp only [Bool.and_eq_true, decide_eq_true_eq] at ha
    obtain ⟨⟨rfl, rfl, rfl⟩, hlk⟩ := ha
    simp only [hst] at hs
    split at hs
    · rename_i h0
      simp only [Option.map_eq_some_iff] at hs
      obtain ⟨v, hv, hs⟩ := hs
      cases hs
      rw [(da hv).1] at hc1 kk
      rw [(da hv).2] at hc2 kk
      exact sh_new hx hb hown hts hO hR hS (by simpa using hlk) h0 hv hz hc1 hc2 (hts _ (clN_in h0)) hd (fun H1 g1 g2 => kk H1 locs g1 g2)
    · cases hs
  case h_22 =>
    simp only [decide_eq_true_eq] at ha
    obtain ⟨rfl, rfl, rfl, rfl⟩ := ha
    simp only [hst] at hs
    split at hs
    · split at hs
      · rename_i h0
        obtain ⟨h01, h02, rfl⟩ := h0
        simp only [Option.map_eq_some_iff] at hs
        obtain ⟨v, hv, hs⟩ := hs
        cases hs
        rw [(da hv).1] at hc1 kk
        rw [(da hv).2] at hc2 kk
        exact sh_newa hx hb hts hO hR hS ⟨h01, h02⟩ hv hz hc1 hc2 hd (fun H1 g1 g2 => kk H1 locs g1 g2)
      · cases hs
    · cases hs
  case h_23 =>
    simp only [Bool.and_eq_true, decide_eq_true_eq] at ha
    obtain ⟨⟨rfl, rfl, rfl⟩, hlk⟩ := ha
    simp only [hst] at hs
    split at hs
    · split at hs
      · rename_i h0
        obtain ⟨h01, rfl⟩ := h0
        simp only [Option.map_eq_some_iff] at hs
        obtain ⟨v, hv, hs⟩ := hs
        cases hs
        rw [(da hv).1] at hc1 kk
        rw [(da hv).2] at hc2 kk
        exact sh_newq hx hb hown hts hO hR hS (by simpa using hlk) h01 hv hz hc1 hc2 hd (fun H1 g1 g2 => kk H1 locs g1 g2)
      · cases hs
    · cases hs
  case h_25 =>
    simp only [Bool.and_eq_true, Bool.or_eq_true, decide_eq_true_eq] at ha
    obtain ⟨⟨rfl, rfl⟩, hlk⟩ := ha
    rcases hlk with (((⟨⟨h1, -⟩, -⟩ | ⟨rfl, hlk⟩) | ⟨rfl, hlk⟩) | ⟨rfl, hlk⟩) | ⟨h1, -⟩
    · exact absurd h1 h34
    · simp only [hst] at hs
      split at hs
      · split at hs
        · rename_i hcat
          simp only [Option.map_eq_some_iff] at hs
          obtain ⟨v, hv, hs⟩ := hs
          cases hs
          have e1 := cpa_1 hv
          unfold cpa at hv
          split at hv
          · rename_i hc
            cases hv
            obtain ⟨g1, g2, g3, g4, g5, g6, g7, g8, g9⟩ := hc
            obtain ⟨⟨k0, k1⟩, -, -, hw⟩ := cell_at (X := X) hR.2 (by rw [g2]; decide) g4
            obtain ⟨⟨j0, j1⟩, -, -, hw2⟩ := cell_at (X := X) hR.2 (by rw [g1]; decide) g3
            rw [ent_1 g2] at hw
            rw [ent_1 g1] at hw2
            simp only [List.map_cons]
            rw [trv_cell X k0 k1, trv_cell X j0 j1]
            have hm1 : c.maxLocals = ls.size := by rw [hml]; exact hl.2.1.symm
            refine va_copyi (ty := .int) hx hb hm1 hown (hts _ (ack_in _ (List.mem_map.mpr ⟨_, (by simpa using hlk), rfl⟩))) (hts _ acn2_in) (hts _ (aci_in _ (by simp))) (hts _ (aci_in _ (by simp))) hO.1 hR.1 wsl_D hS _ _ 0 0 hw2 hw rfl rfl rfl (Int32.not_lt.mpr g5) (Int32.not_lt.mpr g6) (Int32.not_lt.mpr g7) g8 g9 (fun i _ => rfl) (by omega) (by rw [cat_sum hX]; rw [show nativeFrameWords "java/lang/System" "arraycopy" 5 = 7 from by decide +kernel]; omega) hd (fun H1 locs1 q1 q2 q3 => hsame rfl (kk H1 locs1 (hR.set (by rw [g2]; decide) g4 rfl ?_ ?_ q1) q3))
            · rw [ent_1 g2, ← cF_eq]
            · exact fun k' n' hne => ent_F (fun k2 n2 hne2 => cF_ne hne2) hne
          · cases hv
        · cases hs
      · cases hs
    · simp only [hst] at hs
      split at hs
      · split at hs
        · rename_i hcat
          cases hs
          have hm1 : c.maxLocals = ls.size := by rw [hml]; exact hl.2.1.symm
          exact va_mmax hx hb hm1 hown (hts _ (mk_max_in _ (List.mem_map.mpr ⟨_, (by simpa using hlk), rfl⟩))) (hts _ (mk_max_w _ (by simp))) (hts _ (mk_max_w _ (by simp))) (hts _ (mk_max_w _ (by simp))) (by omega) (by rw [cat_sum hX]; omega) hc0 hs0 hd (hsame rfl (kk H locs hR hS))
        · cases hs
      · cases hs
    · simp only [hst] at hs
      split at hs
      · split at hs
        · rename_i hcat
          cases hs
          have hm1 : c.maxLocals = ls.size := by rw [hml]; exact hl.2.1.symm
          exact va_mmin hx hb hm1 hown (hts _ (mk_min_in _ (List.mem_map.mpr ⟨_, (by simpa using hlk), rfl⟩))) (hts _ (mk_min_w _ (by simp))) (hts _ (mk_min_w _ (by simp))) (hts _ (mk_min_w _ (by simp))) (by omega) (by rw [cat_sum hX]; omega) hc0 hs0 hd (hsame rfl (kk H locs hR hS))
        · cases hs
      · cases hs
    · exact absurd h1 h45
  case h_26 =>
    simp only [Bool.and_eq_true, Bool.or_eq_true, decide_eq_true_eq] at ha
    obtain ⟨⟨rfl, rfl⟩, hlk⟩ := ha
    rcases hlk with ⟨⟨⟨h1, -⟩, -⟩, -⟩ | ⟨rfl, hlk⟩
    · exact absurd h1 h34
    · simp only [hst] at hs
      split at hs
      · rename_i k n r0
        split at hs
        · rename_i hcat
          cases hs
          simp only [List.map_cons]
          obtain ⟨v, hv⟩ := trv_ref X (k := k) (n := n) (by omega)
          rw [hv]
          have hm1 : ls.size = c.maxLocals := by rw [hml]; exact hl.2.1
          refine W.objInit hx hb hown (hts _ (obk_in _ (List.mem_map.mpr ⟨_, (by simpa using hlk), rfl⟩))) (hts _ (obi_in _ (by simp))) (hts _ (obi_in _ (by simp))) rfl hm1 rfl hd (by omega) ?_ (hsame rfl (kk H locs hR hS))
          have h9 : 2 * (F0 m pc ls (Value.ref v :: st1.map (trv X))).monitorRoom + ((st1.map (trv X)).map fun v => v.category).sum ≤ 8 := lv_room (by rw [cat_sum hX]; exact hcat.2)
          omega
        · cases hs
      · cases hs
  all_goals first
    | (exfalso; simp only [Bool.and_eq_true, Bool.or_eq_true, decide_eq_true_eq] at ha; omega)
    | cases ha
end HD
