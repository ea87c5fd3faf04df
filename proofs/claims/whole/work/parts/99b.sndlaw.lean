/-! SOUNDNESS XI: a run of the law, with its own rests, which catches what is thrown -/
abbrev nse : String := "java/util/NoSuchElementException"
/-- what a throw needs beside the words -/
def XTh (X : CX) (s : State) (H : Heap) : Prop :=
  va_Nw (.declares (Bundle.init0 "java/lang/RuntimeException")) s ∧ va_Nw (.declares (Bundle.init0 "java/lang/Exception")) s ∧ va_Nw (.declares (Bundle.init0 Bundle.tN)) s ∧ (Cond.castable nse nse).before #[] s = true ∧ vx_Zq Bundle.tN "UNASSIGNED_STACK" Bundle.steD (xA X) s H ∧ vx_Zq Bundle.tN "SUPPRESSED_SENTINEL" Bundle.listD (xA X) s H
theorem XTh.to {X : CX} {s U : State} {H H1 : Heap} {locs : List Loc} (hW : s.WarmedH U.vm) (hS : va_S (xA X) H H1 locs) (h : XTh X s H) : XTh X U H1 := by
  obtain ⟨h1, h2, h3, h4, h5, h6⟩ := h
  exact ⟨h1.warmD hW, h2.warmD hW, h3.warmD hW, va_tabs rfl (rfl : (s.setVm U.vm).vm = U.vm) (by rw [Cond.castable_setVm hW.alike]; exact h4), (h5.kept hS.2.1).moved hW.alike, (h6.kept hS.2.1).moved hW.alike⟩
theorem XTh.same {X : CX} {s U : State} {H : Heap} (hv : U.vm = s.vm) (h : XTh X s H) : XTh X U H := by
  obtain ⟨h1, h2, h3, h4, h5, h6⟩ := h
  have hA : s.vm.Alike U.vm := by rw [hv]; exact Vm.Alike.refl _
  exact ⟨va_Nw.same rfl hv.symm h1, va_Nw.same rfl hv.symm h2, va_Nw.same rfl hv.symm h3, va_tabs rfl hv.symm h4, h5.moved hA, h6.moved hA⟩
theorem mAll_law {a : Nat} (h : a ∈ mAll) : a ≠ mLaw := by
  have h0 : (mAll.all fun m => decide (m ≠ mLaw)) = true := by decide +kernel
  exact of_decide_eq_true (List.all_eq_true.mp h0 a h)
/-- what the law's own 'rests' does -/
def OrcO (l : Launch) (X : CX) (Ls : Nat) (xs : Nat → Int32) (orc : Orc) : Prop := ∀ (as : List PV) (h : HS) (r : Option PV) (t : HS), orc as h = some (r, t) → hle h t ∧ ∀ {p : Program} {e : Env} {R : Room} {s : State} {m : MethodId} {args : Array Value} {below : List Frame} {meth : Method} {c : Code} {H : Heap} {locs : List Loc} {cells slots : Nat} {Q : State → Prop} {ls : Array Slot} {L : LL} {pc d idx a q : Nat} {z : PV} (rest : List PV), MC p s m args meth c mLaw X Ls xs → 40 < d + 1 ∧ XTh X s s.heap → Rel X h H → va_S (xA X) s.heap H locs → hasL X ls (mx mLaw) L → d + 1 ≤ R.frames → 64 * (d + 1) ≤ R.locals → cells + dC h t ≤ R.cells → slots + dS h t ≤ R.slots → (rest.map catP).sum ≤ 8 → cod mLaw pc = some (45, a, 6, z, q) → decode (bb mLaw) pc = .ok (.invokestatic idx, 3) →
  (∀ (H1 : Heap) (locs1 : List Loc), Rel X t H1 → va_S (xA X) s.heap H1 locs1 → W p l e R s m args below meth c H1 locs1 (cells + dC h t) (slots + dS h t) Q (F0 m (pc + 3) ls (r.toList.map (trv X) ++ rest.map (trv X)))) → W p l e R s m args below meth c H locs cells slots Q (F0 m pc ls ((as.map (trv X)).reverse ++ rest.map (trv X)))
set_option maxHeartbeats 8000000 in
theorem snd_law {l : Launch} {X : CX} {Ls : Nat} {xs : Nat → Int32} {orc : Orc} (hOr : OrcO l X Ls xs orc) : ∀ (f d mm pc : Nat) (L : LL) (st : List PV) (h : HS) (r : Option PV) (t : HS), exec Ls xs orc f d mm pc L st h = some (r, t) →
    ∀ {p : Program} {e : Env} {R : Room} {s : State} {m : MethodId} {args : Array Value} {below : List Frame} {meth : Method} {c : Code} {H : Heap} {locs : List Loc} {cells slots : Nat} {Q : State → Prop} {ls : Array Slot}, MC p s m args meth c mm X Ls xs → (mm = mLaw → 40 < d ∧ XTh X s s.heap) → Rel X h H → va_S (xA X) s.heap H locs → hasL X ls (mx mm) L → (h.1.1 < NN → s.heap.size + cells = xz X + h.1.1) → d ≤ R.frames → 64 * d ≤ R.locals → cells + dC h t ≤ R.cells → slots + dS h t ≤ R.slots →
      (∀ (H' : Heap) (locs' : List Loc) (ls' : Array Slot) (pc' : Nat), Rel X t H' → va_S (xA X) s.heap H' locs' → Rt mm pc' r → W p l e R s m args below meth c H' locs' (cells + dC h t) (slots + dS h t) Q (F0 m pc' ls' (r.toList.map (trv X)))) → W p l e R s m args below meth c H locs cells slots Q (F0 m pc ls (st.map (trv X))) := by
  have hOl : ∀ as h r t, orc as h = some (r, t) → hle h t := fun as h r t ho => (hOr as h r t ho).1
  intro f
  induction f with
  | zero => intro d mm pc L st h r t hg; simp [exec] at hg
  | succ f ih =>
    intro d mm pc L st h r t hg p e R s m args below meth c H locs cells slots Q ls C0 hlw hR hS hl hz hfr hlo hc1 hc2 kret
    have hX : (xo X).category = 1 := C0.2.2.2.2.2.1.2.2.2.2.2.2.2.2.2.2.2
    unfold exec at hg
    split at hg
    · cases hg
    · rename_i op a b z q hcod
      obtain ⟨hmm, hck⟩ := cod_chk hcod
      have hdec : op = 99 ∨ ∃ ins len, decode (bb mm) pc = .ok (ins, len) ∧ (agb pc ins len op a b z q = true ∨ agl (mo mm) pc (decide ((yy mm).name = "<init>")) (rr mm) ins len op a b z q = true) := by
        unfold chk1 at hck
        simp only [Bool.or_eq_true, beq_iff_eq] at hck
        rcases hck with hck | hck
        · exact Or.inl hck
        · right
          split at hck
          · rename_i ins len hde
            exact ⟨ins, len, hde, by simpa using hck⟩
          · cases hck
      split at hg
      · rename_i h29
        split at hg
        · rename_i q1 L1 st1 hs
          have kk : ∀ ls' : Array Slot, hasL X ls' (mx mm) L1 → W p l e R s m args below meth c H locs cells slots Q (F0 m q1 ls' (st1.map (trv X))) := fun ls' hl' => ih _ _ _ _ _ _ _ _ hg C0 hlw hR hS hl' hz hfr hlo hc1 hc2 kret
          rcases hdec with h99 | ⟨ins, len, hde, hag⟩
          · omega
          · rcases hag with hag | hag
            · exact sp_all C0.1 C0.2.1 hX hde (agb_ok hag) hs hl kk
            · exact sl_push C0 hS hde hag h29 hs hl kk
        · cases hg
      · rename_i h29
        rcases hdec with h99 | ⟨ins, len, hde, hag⟩
        · subst h99
          simp [hst] at hg
        · have hag := hag.resolve_left (fun h => h29 (agp_lt (agb_ok h)))
          have hzn : ∀ h1 : HS, hle h h1 → h1.1.1 < NN → s.heap.size + (cells + dC h h1) = xz X + h1.1.1 := by
            intro h1 hle1 hn
            have e1 := hz (Nat.lt_of_le_of_lt hle1.1 hn)
            have e2 := hle1.2.2 hn
            have e3 := hle1.1
            unfold dC
            omega
          split at hg
          · rename_i h34
            subst h34
            split at hg
            · cases hg
            · rename_i d1
              split at hg
              · rename_i hcond
                obtain ⟨hbl, hcat, hlen, hrc⟩ := hcond
                split at hg
                · rename_i r1 h1 he
                  have hle1 := exec_le hOl _ _ _ _ _ _ _ _ _ he
                  have hle2 := exec_le hOl _ _ _ _ _ _ _ _ _ hg
                  have eC := dC_add hle1 hle2
                  have eS := dS_add hle1 hle2
                  obtain ⟨rfl, rfl, hsty⟩ := agl_34 hag
                  have ham : a ∈ mAll := by
                    rcases hsty with ⟨i, K, n0, -, -, hlk, -⟩ | ⟨i, -, -, hlk | hlk⟩ | ⟨i, K, n0, -, -, hlk | hlk, -⟩ <;> exact (mlk_facts hlk).1
                  have hM : Ctr l X Ls xs a d1 (st.take b).reverse h r1 h1 := ctr_of ham hlen (fun C1 g1 g2 g3 g4 g5 g6 g7 g8 g9 => ih _ _ _ _ _ _ _ _ he C1 (fun q => absurd q (mAll_law ham)) g1 g2 g3 g4 g5 g6 g7 g8 g9)
                  have kk : ∀ (H1 : Heap) (locs1 : List Loc), Rel X h1 H1 → va_S (xA X) s.heap H1 locs1 → W p l e R s m args below meth c H1 locs1 (cells + dC h h1) (slots + dS h h1) Q (F0 m (pc + 3) ls (r1.toList.map (trv X) ++ (st.drop b).map (trv X))) := by
                    intro H1 locs1 g1 g2
                    have k1 : W p l e R s m args below meth c H1 locs1 (cells + dC h h1) (slots + dS h h1) Q (F0 m (pc + 3) ls ((r1.toList ++ st.drop b).map (trv X))) := ih _ _ _ _ _ _ _ _ hg C0 hlw g1 g2 hl (hzn h1 hle1) hfr hlo (by omega) (by omega) (fun H' locs' ls' pc' k1 k2 k3 => by
                      have k4 := kret H' locs' ls' pc' k1 k2 k3
                      rw [eC, eS, ← Nat.add_assoc, ← Nat.add_assoc] at k4
                      exact k4)
                    rw [List.map_append] at k1
                    exact k1
                  have hf1 : d1 + 1 ≤ R.frames := hfr
                  have hc1' : cells + dC h h1 ≤ R.cells := by omega
                  have hc2' : slots + dS h h1 ≤ R.slots := by omega
                  rcases hsty with ⟨i, K, n0, rfl, hbn, hlk, rfl, hK⟩ | ⟨i, rfl, hbn, hlk⟩ | ⟨i, K, n0, rfl, hbn, hlk, rfl, hK⟩
                  · exact sc_virt C0 hR hS hl hz hM hbl hcat hlk hbn hK hrc hf1 hlo hc1' hc2' hde kk
                  · exact sc_static C0 hR hS hl hz hM hbl hcat hlk hbn hf1 hlo hc1' hc2' hde kk
                  · exact sc_init C0 hR hS hl hz hM hbl hcat hlk hbn hK hrc hf1 hlo hc1' hc2' hde kk
                · cases hg
              · cases hg
          · rename_i h34
            split at hg
            · rename_i h45
              subst h45
              split at hg
              · cases hg
              · rename_i d1
                split at hg
                · rename_i hcond
                  split at hg
                  · rename_i r1 h1 he
                    obtain ⟨hle1, hrun⟩ := hOr _ _ _ _ he
                    have hle2 := exec_le hOl _ _ _ _ _ _ _ _ _ hg
                    have eC := dC_add hle1 hle2
                    have eS := dS_add hle1 hle2
                    obtain ⟨rfl, rfl, hmo, rfl, i, rfl⟩ := agl_45 hag
                    have hlaw := mo_law hmm hmo
                    subst hlaw
                    rw [st_split 6]
                    refine hrun (st.drop 6) C0 (hlw rfl) hR hS hl hfr hlo (by omega) (by omega) hcond.2 hcod hde (fun H1 locs1 g1 g2 => ?_)
                    have k1 : W p l e R s m args below meth c H1 locs1 (cells + dC h h1) (slots + dS h h1) Q (F0 m (pc + 3) ls ((r1.toList ++ st.drop 6).map (trv X))) := ih _ _ _ _ _ _ _ _ hg C0 hlw g1 g2 hl (hzn h1 hle1) hfr hlo (by omega) (by omega) (fun H' locs' ls' pc' k1 k2 k3 => by
                      have k4 := kret H' locs' ls' pc' k1 k2 k3
                      rw [eC, eS, ← Nat.add_assoc, ← Nat.add_assoc] at k4
                      exact k4)
                    rw [List.map_append] at k1
                    exact k1
                  · cases hg
                · cases hg
            · rename_i h45
              split at hg
              · rename_i h35
                subst h35
                split at hg
                · cases hg
                  obtain ⟨rfl, rfl, hr⟩ := agl_35 hag
                  have k1 := kret H locs ls pc hR hS (Or.inl ⟨rfl, hde, hr⟩)
                  rw [dC_self, dS_self, Nat.add_zero, Nat.add_zero] at k1
                  exact k1
                · cases hg
              · rename_i h35
                split at hg
                · rename_i h36
                  subst h36
                  split at hg
                  · split at hg
                    · rename_i hk
                      cases hg
                      obtain ⟨rfl, rfl, ty, hr, hn⟩ := agl_36 hag hk
                      have k1 := kret H locs ls pc hR hS (Or.inr ⟨_, ty, rfl, hde, hr, hn⟩)
                      rw [dC_self, dS_self, Nat.add_zero, Nat.add_zero] at k1
                      exact k1
                    · cases hg
                  · cases hg
                · rename_i h36
                  split at hg
                  · cases hg
                  · rename_i hdd
                    split at hg
                    · rename_i q1 st1 h1 hs
                      have hle1 := hst_le hs
                      have hle2 := exec_le hOl _ _ _ _ _ _ _ _ _ hg
                      have eC := dC_add hle1 hle2
                      have eS := dS_add hle1 hle2
                      refine sl_heap C0 hR hS hl hz (fun h => of_decide_eq_true h) hde hag h29 h34 h45 h35 h36 hdd hfr hlo hs (by omega) (by omega) (by omega) (by omega) (fun H1 locs1 g1 g2 => ?_)
                      exact ih _ _ _ _ _ _ _ _ hg C0 hlw g1 g2 hl (hzn h1 hle1) hfr hlo (by omega) (by omega) (fun H' locs' ls' pc' k1 k2 k3 => by
                        have k4 := kret H' locs' ls' pc' k1 k2 k3
                        rw [eC, eS, ← Nat.add_assoc, ← Nat.add_assoc] at k4
                        exact k4)
                    · cases hg
/-- a contract out of a run -/
theorem ctr_run {l : Launch} {X : CX} {Ls : Nat} {xs : Nat → Int32} {orc : Orc} (hOr : OrcO l X Ls xs orc) {f d mm : Nat} {as : List PV} {h : HS} {r : Option PV} {t : HS} (hm : mm ∈ mAll) (hlen : (entG as).length ≤ mx mm) (he : exec Ls xs orc f d mm 0 (entL mm as) [] h = some (r, t)) : Ctr l X Ls xs mm d as h r t :=
  ctr_of hm hlen (fun C1 g1 g2 g3 g4 g5 g6 g7 g8 g9 => snd_law hOr _ _ _ _ _ _ _ _ _ he C1 (fun q => absurd q (mAll_law hm)) g1 g2 g3 g4 g5 g6 g7 g8 g9)
