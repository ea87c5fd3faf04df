/-! rests(): contracts of the landed one and of the law's own; the oracle -/
def atR : List Cond := vx_at0 (own 11) 290 nse ["java/lang/RuntimeException", "java/lang/Exception"]
theorem atR_in : ∀ w ∈ atR.filter goodWord, w ∈ wtb := tb_all _ [128, 1183, 1192, 1194, 1197, 1199, 1184, 1185, 138, 139, 1186, 1191, 1195, 1211, 1173, 1212, 1175, 1213, 1177, 1187, 1189, 1179, 1201, 1202, 1203, 1204, 1204, 1205, 1206, 1207, 1207, 1208, 1209, 1184, 1200, 1162, 1170, 1171, 1172, 1174, 1176, 1178, 1182, 1181, 1180] (by decide +kernel) (by decide +kernel)
def atB : List Cond := [Cond.declares (Bundle.init0 "java/lang/RuntimeException"), Cond.declares (Bundle.init0 "java/lang/Exception"), Cond.declares (Bundle.init0 Bundle.tN), Cond.castable nse nse]
theorem atR_no : ∀ w ∈ atR.filter (fun w => !goodWord w), w ∈ atB := by
  have h0 : ((atR.filter (fun w => !goodWord w)).all fun w => decide (w ∈ atB)) = true := by decide +kernel
  exact fun w hw => of_decide_eq_true (List.all_eq_true.mp h0 w hw)
theorem atR_ot : ∀ w ∈ Cond.classLink (own 11) 288 nse :: Cond.initialized nse :: atR, vx_ot w = true := by
  have h0 : ((Cond.classLink (own 11) 288 nse :: Cond.initialized nse :: atR).all fun w => vx_ot w) = true := by decide +kernel
  exact fun w hw => List.all_eq_true.mp h0 w hw
def wsR : List Cond := Cond.code yR codR 7 (some .int) :: wtb
def wsLr : List Cond := Cond.codeWith yL codL 7 (some .int) [(0, 14, 17, 13)] :: wtb
theorem wsR_good : GoodIn wtb wsR := by
  intro w hw
  have h1 : Cond.code yR codR 7 (some .int) ∈ wtb := wR_in _ (List.mem_of_getElem? (i := 0) rfl)
  rcases List.mem_cons.mp hw with rfl | hw
  · exact ⟨h1, good_of_word (wtb_good _ h1)⟩
  · exact ⟨hw, good_of_word (wtb_good _ hw)⟩
theorem wsLr_good : GoodIn wtb wsLr := by
  intro w hw
  have h1 : Cond.codeWith yL codL 7 (some .int) [(0, 14, 17, 13)] ∈ wtb := wL_in _ (List.mem_of_getElem? (i := 2) rfl)
  rcases List.mem_cons.mp hw with rfl | hw
  · exact ⟨h1, good_of_word (wtb_good _ h1)⟩
  · exact ⟨hw, good_of_word (wtb_good _ hw)⟩
def PcT (X : CX) (Ls : Nat) (xs : Nat → Int32) (h : HS) (as : List PV) : Array Value → State → Prop := va_Pc (as.map (trv X)) (fun U => (Rel X h U.heap ∧ Ou X Ls xs U U.heap) ∧ XTh X U U.heap)
theorem PcT_blind {X : CX} {Ls : Nat} {xs : Nat → Int32} {h : HS} {as : List PV} : FrameBlind (PcT X Ls xs h as) := by
  intro a U g mk hq
  obtain ⟨q0, ⟨q1, q2⟩, q3⟩ := hq
  exact ⟨q0, ⟨q1, q2.same rfl⟩, q3.same rfl⟩
theorem PcT_pre {X : CX} {Ls : Nat} {xs : Nat → Int32} {h : HS} {as : List PV} {s : State} {H : Heap} {locs : List Loc} (hO : Ou X Ls xs s s.heap) (hT : XTh X s s.heap) (hR : Rel X h H) (hS : va_S (xA X) s.heap H locs) : ∀ U : State, U.heap = H → s.WarmedH U.vm → PcT X Ls xs h as (as.map (trv X)).toArray U := by
  intro U hU hW
  refine ⟨rfl, ⟨by rw [hU]; exact hR, ?_⟩, ?_⟩
  · rw [hU]
    exact hO.to hW hS
  · rw [hU]
    exact hT.to hW hS
theorem hasL_ent {X : CX} {as : List PV} {n : Nat} (hX : (xo X).category = 1) (hl : (entG as).length ≤ n) : hasL X ((lg_sl (as.map (trv X)) ++ List.replicate (n - (lg_sl (as.map (trv X))).length) Slot.unset).toArray) n (entG as ++ List.replicate (n - (entG as).length) none) := by
  refine ⟨by simp; omega, ?_⟩
  have h := lv_entry (as.map (trv X)) (n := n) (by rw [sl_len hX]; exact hl)
  rw [prL_ent hX]
  exact h
section RM
variable {l : Launch} {X : CX} {Ls : Nat} {xs : Nat → Int32} {h : HS} {u1 u2 u3 u4 : Int32}
abbrev QcR (X : CX) (h : HS) (u1 u2 u3 u4 : Int32) : Array Value → State → Outcome → State → Prop := va_Qi (S := Unit) (fun r _ => rsA u1 u2 u3 u4 = (r, 0)) (fun _ t => Rel X h t.heap) (xA X)
abbrev XcR (X : CX) (h : HS) (u1 u2 u3 u4 : Int32) : String → State → State → Prop := vx_X (S := Unit) (fun _ => (rsA u1 u2 u3 u4).2 = 1) (fun E _ t => E = nse ∧ Rel X h t.heap) (xA X)
set_option maxHeartbeats 4000000 in
theorem met_rests (hsl : l.stackTraces = false) (hN : ¬ h.1.1 < NN) : vx_Met l yR wsR (rmm 10 1 8) (PcT X Ls xs h [vr 1 0, vi u1, vi u2, vi u3, vi u4]) (QcR X h u1 u2 u3 u4) (XcR X h u1 u2 u3 u4) 1 8 (xA X) := by
  refine vx_ofW (cc := codR) (maxL := 7) (ret := some .int) (by decide) rfl ?_
  intro p e s m args below meth c s₁ B hml htab hv
  obtain ⟨rfl, ⟨hR, hO⟩, hT⟩ := hv
  have hts0 := atoms_spec (ws := wsR) B.pre
  have hts : ∀ w ∈ wtb, w.before ([vr 1 0, vi u1, vi u2, vi u3, vi u4].map (trv X)).toArray s = true := fun w hw => hts0 w (List.mem_cons_of_mem _ hw)
  have hown : s.vm.findClass (own 11) = some m.cls := findClass_of_methodNamed B.named
  have hX : (xo X).category = 1 := hO.2.2.2.2.2.2.2.2.2.2.2
  rw [lg_entry_eq]
  have C : CR p s m ([vr 1 0, vi u1, vi u2, vi u3, vi u4].map (trv X)).toArray c codR 11 X Ls xs := ⟨B.exec, B.bytes, hml, hown, hts, hO⟩
  refine rests_go C hN (show (6 : Nat) ≤ 10 by decide) (show (384 : Nat) ≤ 640 by decide) (Nat.zero_le _) (Nat.zero_le _) ⟨?_, ?_⟩ s.heap [] _ hR va_S.rf (hasL_ent (as := [vr 1 0, vi u1, vi u2, vi u3, vi u4]) hX (n := 7) (Nat.le_of_ble_eq_true rfl))
  · intro x L pc hx hd H locs ls hR hS hl
    exact W.widen (k := 1) (n := 8) (by omega) (by omega) (vx_ret (W.iret B.exec B.bytes B.returns (fun t ht hW => ⟨⟨x, (), rfl, hx, by show Rel X h t.heap; rw [ht]; exact hR⟩, hS.F ht⟩) hS.2.2 hd))
  · intro hq L pc hpc H locs ls hR hS hl
    have hat : ∀ w ∈ atR, w.before ([vr 1 0, vi u1, vi u2, vi u3, vi u4].map (trv X)).toArray s = true := vx_hat (fun w hw => hts w (atR_in w hw)) atR_no (vx_c (va_any rfl hT.1) (vx_c (va_any rfl hT.2.1) (vx_c (va_any rfl hT.2.2.1) (vx_c (va_any rfl hT.2.2.2.1) vx_n))))
    have hd : decode codR pc = .ok (.new 288, 3) ∧ decode codR (pc + 3) = .ok (.dup, 1) ∧ decode codR (pc + 4) = .ok (.invokespecial 290, 3) ∧ decode codR (pc + 7) = .ok (.athrow, 1) := by
      rcases hpc with rfl | rfl
      · exact ⟨by decide +kernel, by decide +kernel, by decide +kernel, by decide +kernel⟩
      · exact ⟨by decide +kernel, by decide +kernel, by decide +kernel, by decide +kernel⟩
    refine vx_throw0 (own := own 11) (cls := nse) (names := ["java/lang/RuntimeException", "java/lang/Exception"]) (ik := 288) (ic := 290) (A := xA X) B.exec B.bytes hsl hown (by decide +kernel) ?_ (hts _ (wR_in _ (List.mem_of_getElem? (i := 4) rfl))) (hts _ (wR_in _ (List.mem_of_getElem? (i := 5) rfl))) hat atR_ot hT.2.2.2.2.1 hT.2.2.2.2.2 hS (hl.2.1.trans hml.symm) hd.1 hd.2.1 hd.2.2.1 hd.2.2.2 (fun x hx => (htab x hx).elim) (show (5 : Nat) < 10 by decide) (show (81 : Nat) ≤ 640 by decide) (show (1 : Nat) ≤ 1 by decide) (show (6 : Nat) ≤ 8 by decide) B.notSynchronized ?_ hS.2.2 (by omega) (by omega)
    · intro n hn
      have h0 : (["java/lang/RuntimeException", "java/lang/Exception"].all fun n => Bundle.fit n) = true := by decide +kernel
      exact List.all_eq_true.mp h0 n hn
    · intro t hA hz hk
      exact ⟨(), hq, ⟨rfl, hR.1.kept (fun k q hk2 => hk q.1 (hR.1 k q hk2).lt), hR.2⟩, Nat.le_trans hS.1 hz, fun q h1 h2 => (hk q (Nat.lt_of_lt_of_le h1 hS.1)).trans (hS.2.1 q h1 h2)⟩
/-- the heap behind the law's own rests -/
def rsT (v : Int32 × Int32) (h : HS) : HS := (h.1, h.2.1, (if v.2 = 0 then uG h.2.2.1 81 0 0 v.1.toInt64 else h.2.2.1), h.2.2.2)
theorem rsT_1 {v : Int32 × Int32} {h : HS} (hv : v.2 = 1) : rsT v h = h := by
  simp only [rsT]
  rw [if_neg (by rw [hv]; decide)]
theorem rsT_ast {r : Int32} {h : HS} (h81 : 0 < h.1.2 81) : ast h 4 81 0 0 (vl r.toInt64) = some (rsT (r, 0) h) := by
  simp only [ast]
  rw [if_pos ⟨by decide, h81, by decide⟩]
  rfl
set_option maxHeartbeats 8000000 in
theorem met_lr (hsl : l.stackTraces = false) (hN : ¬ h.1.1 < NN) (h1 : 0 < h.1.2 1) (h81 : 0 < h.1.2 81) : Met l yL wsLr (rmm 20 1 8) (PcT X Ls xs h [vr 1 0, vi u1, vi u2, vi u3, vi u4, vr 81 0]) (QcX X (some (vi (rsA u1 u2 u3 u4).2)) (rsT (rsA u1 u2 u3 u4) h)) 1 8 (xA X) := by
  refine va_MetW (cc := codL) (maxL := 7) (ret := some .int) (by decide) rfl ?_
  intro p e s m args below meth c s₁ B hml hv
  obtain ⟨rfl, ⟨hR, hO⟩, hT⟩ := hv
  have hts0 := atoms_spec (ws := wsLr) B.pre
  have hts : ∀ w ∈ wtb, w.before ([vr 1 0, vi u1, vi u2, vi u3, vi u4, vr 81 0].map (trv X)).toArray s = true := fun w hw => hts0 w (List.mem_cons_of_mem _ hw)
  have hown : s.vm.findClass (own 19) = some m.cls := findClass_of_methodNamed B.named
  have hX : (xo X).category = 1 := hO.2.2.2.2.2.2.2.2.2.2.2
  have htab : c.exceptionTable.toList = tableOf [(0, 14, 17, 13)] := vx_table (x := yL) B (hts0 _ List.mem_cons_self)
  rw [lg_entry_eq]
  have C : CR p s m ([vr 1 0, vi u1, vi u2, vi u3, vi u4, vr 81 0].map (trv X)).toArray c codL 19 X Ls xs := ⟨B.exec, B.bytes, hml, hown, hts, hO⟩
  refine rg_run (pc := 0) (st := []) (L := [some (vr 1 0), some (vi u1), some (vi u2), some (vi u3), some (vi u4), some (vr 81 0), none]) (h := h) C cdL_ok 7 rfl ?_ s.heap [] _ hR va_S.rf (hasL_ent (as := [vr 1 0, vi u1, vi u2, vi u3, vi u4, vr 81 0]) hX (n := 7) (Nat.le_of_ble_eq_true rfl))
  intro H locs ls hR hS hl
  have hK2 : (kt 1).1 = 0 := by decide +kernel
  obtain ⟨⟨k0, k1⟩, -, -, hw⟩ := cell_at (X := X) (k := 1) hR.2 (by rw [hK2]; decide) h1
  obtain ⟨q, hq, -, -⟩ := kt_obj hK2
  have hq1 : q.1 = own 11 := by
    have h9 : vwCl[(kt 1).2.1]? = some (RX11, TX11, 15) := rfl
    rw [h9] at hq
    cases hq
    rfl
  rw [ent_obj hK2] at hw
  have hcell := va_recv hO.1 hR.1 hq hw
  rw [hq1] at hcell
  have hv : trv X (vr 1 0) = .ref (xz X + pos 1 0) := trv_cell X k0 k1
  have hW : 2 * (F0 m 9 ls ([vi u4, vi u3, vi u2, vi u1, vr 1 0, vi 0, vr 81 0].map (trv X))).monitorRoom + (([vi 0, vr 81 0].map (trv X)).map fun v => v.category).sum ≤ 8 := lv_room (by rw [cat_sum hX]; exact Nat.le_of_ble_eq_true rfl)
  have hcb : CallB (headSpec wsLr (rmm 20 1 8)).room s ([vr 1 0, vi u1, vi u2, vi u3, vi u4, vr 81 0].map (trv X)).toArray (own 19) 7 yR codR 7 (some .int) wsR (rmm 10 1 8) 1 8 4 := by
    refine callB_of 4 hts wsR_good rfl rfl rfl ?_ (hts _ (wR_in _ (List.mem_of_getElem? (i := 1) rfl))) ⟨by decide, by decide, by decide +kernel⟩ ⟨show (11 : Nat) ≤ 20 by decide, show (8 + (7 + 11) + 640 : Nat) ≤ 1280 by decide⟩
    exact hts _ (own_in 11 (by decide))
  have hpre := PcT_pre (as := [vr 1 0, vi u1, vi u2, vi u3, vi u4]) hO hT hR hS
  have hmap : ([vr 1 0, vi u1, vi u2, vi u3, vi u4].map (trv X)) = .ref (xz X + pos 1 0) :: [vi u1, vi u2, vi u3, vi u4].map (trv X) := by rw [List.map_cons, hv]
  rw [hmap] at hpre
  refine vx_calli (vx_runV (rest := [vi 0, vr 81 0].map (trv X)) (As := [vi u1, vi u2, vi u3, vi u4].map (trv X)) ⟨B.exec, B.bytes, hml, hown, hts⟩ (met_rests hsl hN) ⟨hcb, hts _ (wR_in _ (List.mem_of_getElem? (i := 2) rfl)), hts _ (wR_in _ (List.mem_of_getElem? (i := 3) rfl))⟩ ⟨PcT_blind, hcell, hpre⟩ rfl rfl hl.2.1 (st_split2 (b := 5) (st := [vi u4, vi u3, vi u2, vi u1, vr 1 0, vi 0, vr 81 0]) rfl hv) hW (show decode codL 9 = .ok (.invokevirtual 7, 3) by decide +kernel) ⟨show (1 : Nat) ≤ 1 by decide, show (8 : Nat) ≤ 8 by decide⟩) hS (fun q _ h => h) (fun q h => h) (fun q _ h => h) ?_ ?_
  · intro E ce q9 u t H1 locs1 ht hA hp hB hz hk hS1 hc hcv hcl
    obtain ⟨rfl, hR1⟩ := hB
    rw [ht] at hR1
    refine vx_catch hown [] ⟨0, 14, 17, 13⟩ [] (by rw [htab]; rfl) (fun z hz => by cases hz) (by decide) (by decide) (hts _ (wL_in _ (List.mem_of_getElem? (i := 3) rfl))) (va_any rfl hT.2.2.2.1) hc hcv hcl ?_
    refine lv_astore B.exec B.bytes (by decide +kernel : decode codL 17 = .ok (.astore 6, 2)) hl.2 (by decide) rfl (fun ls' hl' => ?_)
    have hl2 : hasL X ls' 7 (List.replicate 7 none) := ⟨rfl, by rw [prL_rep]; exact ⟨hl'.1, hl'.2.1, fun q hq => by cases hq⟩⟩
    refine rg_run (pc := 19) (L := List.replicate 7 none) (h := h) (st := []) C cdL_ok 1 rfl ?_ H1 locs1 ls' hR1 hS1 hl2
    intro H2 locs2 ls2 hR2 hS2 hl3
    refine W.iret B.exec B.bytes B.returns (fun t ht hW => ⟨⟨?_, ?_⟩, hS2.F ht⟩) hS2.2.2 (by decide +kernel)
    · rw [hp]; rfl
    · rw [rsT_1 hp, ht]; exact hR2
  · intro r u t H1 locs1 ht hA hp hB hz hk hS1
    rw [ht] at hB
    refine rg_run (pc := 12) (L := [some (vr 1 0), some (vi u1), some (vi u2), some (vi u3), some (vi u4), some (vr 81 0), none]) (h := h) (st := [vi r, vi 0, vr 81 0]) C cdL_ok 1 rfl ?_ H1 locs1 ls hB hS1 hl
    intro H2 locs2 ls2 hR2 hS2 hl2
    refine sh_last (k := 81) (n := 0) (i := 0) (v := vl r.toInt64) B.exec B.bytes hO hR2 hS2 (rsT_ast h81) (by decide +kernel) (fun H3 locs3 g1 g2 g3 => ?_)
    refine rg_run (pc := 14) (L := [some (vr 1 0), some (vi u1), some (vi u2), some (vi u3), some (vi u4), some (vr 81 0), none]) (h := rsT (r, 0) h) (st := []) C cdL_ok 2 rfl ?_ H3 locs3 ls2 g1 g2 hl2
    intro H4 locs4 ls4 hR4 hS4 hl4
    refine W.iret B.exec B.bytes B.returns (fun t ht hW => ⟨⟨?_, ?_⟩, hS4.F ht⟩) hS4.2.2 (by decide +kernel)
    · rw [hp]; rfl
    · rw [hp, ht]; exact hR4
end RM
def orP (as : List PV) : Option (Int32 × Int32) := match as with
  | [.inr (.inr (k, n)), .inl u1, .inl u2, .inl u3, .inl u4, .inr (.inr (k2, n2))] => if k = 1 ∧ n = 0 ∧ k2 = 81 ∧ n2 = 0 then some (rsA u1 u2 u3 u4) else none
  | _ => none
theorem orP_spec {as : List PV} {v : Int32 × Int32} (h : orP as = some v) : ∃ u1 u2 u3 u4, as = [vr 1 0, vi u1, vi u2, vi u3, vi u4, vr 81 0] ∧ v = rsA u1 u2 u3 u4 := by
  unfold orP at h
  split at h
  · split at h
    · rename_i hc
      obtain ⟨rfl, rfl, rfl, rfl⟩ := hc
      cases h
      exact ⟨_, _, _, _, rfl, rfl⟩
    · cases h
  · cases h
/-- what the law's own rests does -/
def orcL : Orc := fun as h => match orP as with
  | some v => if h.1.1 = NN ∧ 0 < h.1.2 1 ∧ 0 < h.1.2 81 then some (some (vi v.2), (h.1.1, uC h.1.2 1000 (h.1.2 1000 + 1)), (rsT v h).2) else none
  | none => none
theorem orcL_A : OrcA orcL := by
  intro as h g a
  unfold orcL
  cases orP as with
  | none => trivial
  | some v =>
    simp only
    rw [a.1]
    by_cases hc : h.1.1 = NN ∧ 0 < h.1.2 1 ∧ 0 < h.1.2 81
    · rw [if_pos hc, if_pos hc]
      refine ⟨rfl, rfl, fun k n j hn hv => ?_⟩
      by_cases hk : k = 1000
      · subst hk
        have h9 : (kt 1000).1 = 9 ∧ (kt 1000).2.1 = 0 := by decide +kernel
        unfold vld at hv
        rw [if_neg (by rw [h9.1]; decide), h9.2] at hv
        exact absurd hv (Nat.not_lt_zero _)
      · have hn2 : n < h.1.2 k := by
          have hn3 : n < uC h.1.2 1000 (h.1.2 1000 + 1) k := hn
          simp only [uC] at hn3
          rw [if_neg hk] at hn3
          exact hn3
        obtain ⟨a1, a2, a3⟩ := a.2 k n j hn2 hv
        refine ⟨a1, ?_, a3⟩
        show (if v.2 = 0 then uG g.2.2.1 81 0 0 v.1.toInt64 else g.2.2.1) k n j = (if v.2 = 0 then uG h.2.2.1 81 0 0 v.1.toInt64 else h.2.2.1) k n j
        by_cases hv0 : v.2 = 0
        · rw [if_pos hv0, if_pos hv0]
          simp only [uG, a2]
        · rw [if_neg hv0, if_neg hv0, a2]
    · rw [if_neg hc, if_neg hc]
      trivial
theorem law45 {pc a q : Nat} {z : PV} (h : cod mLaw pc = some (45, a, 6, z, q)) : pc = 1005 := by
  have h0 : ((ctab.getD mLaw []).all fun x => !(decide (x.2.1 = 45)) || decide (x.1 = 1005)) = true := by decide +kernel
  have h2 : (pc, 45, a, 6, z, q) ∈ ctab.getD mLaw [] := by
    unfold cod at h
    rw [List.lookup_eq_some_iff] at h
    obtain ⟨l1, l2, h3, -⟩ := h
    rw [h3]
    simp
  have h1 := List.all_eq_true.mp h0 _ h2
  simpa using h1
theorem law1005 : decode (bb mLaw) 1005 = .ok (.invokestatic 129, 3) := by decide +kernel
theorem Rel_cnt {X : CX} {h : HS} {H : Heap} {n : Nat} (hR : Rel X h H) : Rel X ((h.1.1, uC h.1.2 1000 n), h.2) H := by
  refine ⟨hR.1, hR.2.1, fun k j hk hj => hR.2.2 k j hk ?_⟩
  have hj2 : j < uC h.1.2 1000 n k := hj
  simp only [uC] at hj2
  rw [if_neg (by omega)] at hj2
  exact hj2
set_option maxHeartbeats 4000000 in
theorem orcL_O {l : Launch} {X : CX} {Ls : Nat} {xs : Nat → Int32} (hsl : l.stackTraces = false) : OrcO l X Ls xs orcL := by
  intro as h r t ho
  unfold orcL at ho
  split at ho
  · rename_i v hv
    split at ho
    · rename_i hc
      obtain ⟨u1, u2, u3, u4, rfl, rfl⟩ := orP_spec hv
      cases ho
      obtain ⟨hc1, hc2, hc3⟩ := hc
      have e1 : uC h.1.2 1000 (h.1.2 1000 + 1) 1000 = h.1.2 1000 + 1 := by simp [uC]
      refine ⟨⟨Nat.le_refl _, by show h.1.2 1000 ≤ uC h.1.2 1000 (h.1.2 1000 + 1) 1000; rw [e1]; omega, fun hn => absurd hn (by show ¬ h.1.1 < NN; omega)⟩, ?_⟩
      have eC : dC h ((h.1.1, uC h.1.2 1000 (h.1.2 1000 + 1)), (rsT (rsA u1 u2 u3 u4) h).2) = 1 := by simp only [dC, e1]; omega
      have eS : dS h ((h.1.1, uC h.1.2 1000 (h.1.2 1000 + 1)), (rsT (rsA u1 u2 u3 u4) h).2) = 8 := by simp only [dS, e1]; omega
      intro p e R s m args below meth c H locs cells slots Q ls L pc d idx a q z rest C0 hlw hR hS hl hfr hlo hr1 hr2 hcat hcod hde kk
      rw [eC] at hr1 kk
      rw [eS] at hr2 kk
      have hpc := law45 hcod
      subst hpc
      rw [law1005] at hde
      cases hde
      obtain ⟨hx, hb, hml, hown, hts, hO, -⟩ := C0
      have hX : (xo X).category = 1 := hO.2.2.2.2.2.2.2.2.2.2.2
      have hown9 : s.vm.findClass (own 19) = some m.cls := hown
      have hW : 2 * (F0 m 1005 ls ((([vr 1 0, vi u1, vi u2, vi u3, vi u4, vr 81 0].map (trv X)).reverse) ++ rest.map (trv X))).monitorRoom + ((rest.map (trv X)).map fun v => v.category).sum ≤ 8 := lv_room (by rw [cat_sum hX]; exact hcat)
      have hcw : vx_CSW R s args (own 19) 129 yL codL 7 (some .int) [(0, 14, 17, 13)] wsLr (rmm 20 1 8) 1 8 6 := by
        refine ⟨⟨rfl, rfl, show 20 + 1 ≤ R.frames by omega, show 8 + (7 + 11) + 64 * 20 ≤ R.locals by omega, pay_in hts wsLr_good, List.mem_cons_self⟩, hts _ (wL_in _ (List.mem_of_getElem? (i := 2) rfl)), hts _ (own_in 19 (by decide)), ⟨by decide, by decide⟩, ?_, hts _ (wL_in _ (List.mem_of_getElem? (i := 0) rfl)), hts _ (wL_in _ (List.mem_of_getElem? (i := 1) rfl))⟩
        intro sig hs
        have h9 : (parseMethodDescriptor yL.desc).map (fun d => d.parameters.length) = some 6 := by decide +kernel
        rw [hs] at h9
        exact (Option.some.inj h9).symm
      refine sc_back (vx_runSW (cc := bb mLaw) (nL := mx mLaw) (As := [vr 1 0, vi u1, vi u2, vi u3, vi u4, vr 81 0].map (trv X)) ⟨hx, hb, hml, hown9, hts⟩ (met_lr hsl (by omega) hc2 hc3) hcw ⟨PcT_blind, PcT_pre hO hlw.2 hR hS⟩ rfl rfl hl.2.1 rfl hW law1005 ⟨hr1, hr2⟩) hS (fun H1 locs1 g1 g2 => ?_)
      exact kk H1 locs1 (Rel_cnt g1) g2
    · cases ho
  · cases ho
