/-! HEAPS THAT AGREE, references only where references are -/
def rK (k j : Nat) : Bool := if (kt k).1 = 0 then (match (kt k).2.2[j]? with
  | some (2, _) => true
  | _ => false) else decide ((kt k).1 = 5)
def Ah (h g : HS) : Prop := g.1 = h.1 ∧ ∀ k n j, n < h.1.2 k → vld k j → g.2.1 k n j = h.2.1 k n j ∧ g.2.2.1 k n j = h.2.2.1 k n j ∧ (rK k j = true → g.2.2.2 k n j = h.2.2.2 k n j)
theorem Ah.rf {h : HS} : Ah h h := ⟨rfl, fun _ _ _ _ _ => ⟨rfl, rfl, fun _ => rfl⟩⟩
theorem Ah.sy {h g : HS} (a : Ah h g) : Ah g h := ⟨a.1.symm, fun k n j hn hv => by
  obtain ⟨a1, a2, a3⟩ := a.2 k n j (by rw [← a.1]; exact hn) hv
  exact ⟨a1.symm, a2.symm, fun hr => (a3 hr).symm⟩⟩
theorem Ah.tr {h g f : HS} (a : Ah h g) (c : Ah g f) : Ah h f := ⟨c.1.trans a.1, fun k n j hn hv => by
  obtain ⟨a1, a2, a3⟩ := a.2 k n j hn hv
  obtain ⟨c1, c2, c3⟩ := c.2 k n j (by rw [a.1]; exact hn) hv
  exact ⟨c1.trans a1, c2.trans a2, fun hr => (c3 hr).trans (a3 hr)⟩⟩
theorem gfd_ah {h g : HS} (a : Ah h g) (K j k n : Nat) : gfd g K j k n = gfd h K j k n := by
  unfold gfd
  split
  · rfl
  · rw [a.1]
    by_cases hk : k = K ∧ n < h.1.2 k
    · rw [if_pos hk, if_pos hk]
      obtain ⟨rfl, hn⟩ := hk
      by_cases h0 : (kt k).1 = 0
      · cases e : (kt k).2.2[j]? with
        | none => rw [h0]; rfl
        | some y =>
          obtain ⟨a1, a2, a3⟩ := a.2 k n j hn (vld_f h0 e)
          rw [a1, a2]
          obtain ⟨t1, t2⟩ := y
          match t1, e with
          | 0, e => (rw [h0]) <;> rfl
          | 1, e => (rw [h0]) <;> rfl
          | 2, e => rw [a3 (by simp [rK, h0, e])]
          | 3, e => (rw [h0]) <;> rfl
          | t + 4, e => (rw [h0]) <;> rfl
      · split <;> simp_all
    · rw [if_neg hk, if_neg hk]
theorem ald_ah {h g : HS} (a : Ah h g) (Ls : Nat) (xs : Nat → Int32) (s k n : Nat) (i : Int32) : ald Ls xs g s k n i = ald Ls xs h s k n i := by
  unfold ald
  split
  · rfl
  · split
    · rfl
    · rw [a.1]
      by_cases hk : (kt k).1 = s ∧ n < h.1.2 k ∧ inb i (kt k).2.1 = true
      · rw [if_pos hk, if_pos hk]
        by_cases h0 : (kt k).1 = 0
        · rw [← hk.1, h0]; rfl
        · obtain ⟨a1, a2, a3⟩ := a.2 k n i.toNatClampNeg hk.2.1 (vld_a h0 (inb_lt hk.2.2))
          rw [a1, a2]
          by_cases h5 : s = 5
          · subst h5
            rw [a3 (by simp [rK, hk.1])]
          · match s, h5 with
            | 0, _ => rfl
            | 1, _ => rfl
            | 2, _ => rfl
            | 3, _ => rfl
            | 4, _ => rfl
            | 5, h5 => exact absurd rfl h5
            | n + 6, _ => rfl
      · rw [if_neg hk, if_neg hk]
theorem aln_ah {h g : HS} (a : Ah h g) (Ls k n : Nat) : aln Ls g k n = aln Ls h k n := by
  unfold aln
  rw [a.1]
/-- both none, or both some, and what stands agrees -/
def AhO (o p : Option HS) : Prop := match o, p with
  | none, none => True
  | some h, some g => Ah h g
  | _, _ => False
theorem Ah.uF {h g : HS} (a : Ah h g) (k n i : Nat) (v : Int32) : Ah (h.1, uF h.2.1 k n i v, h.2.2.1, h.2.2.2) (h.1, uF g.2.1 k n i v, g.2.2.1, g.2.2.2) := by
  refine ⟨rfl, fun k2 n2 j hn hv => ?_⟩
  obtain ⟨a1, a2, a3⟩ := a.2 k2 n2 j hn hv
  refine ⟨?_, a2, a3⟩
  show _root_.Jvm.Pilot.@@N@@.uF g.2.1 k n i v k2 n2 j = _root_.Jvm.Pilot.@@N@@.uF h.2.1 k n i v k2 n2 j
  unfold _root_.Jvm.Pilot.@@N@@.uF
  split
  · rfl
  · exact a1
theorem Ah.uG {h g : HS} (a : Ah h g) (k n i : Nat) (v : Int64) : Ah (h.1, h.2.1, uG h.2.2.1 k n i v, h.2.2.2) (h.1, g.2.1, uG g.2.2.1 k n i v, g.2.2.2) := by
  refine ⟨rfl, fun k2 n2 j hn hv => ?_⟩
  obtain ⟨a1, a2, a3⟩ := a.2 k2 n2 j hn hv
  refine ⟨a1, ?_, a3⟩
  show _root_.Jvm.Pilot.@@N@@.uG g.2.2.1 k n i v k2 n2 j = _root_.Jvm.Pilot.@@N@@.uG h.2.2.1 k n i v k2 n2 j
  unfold _root_.Jvm.Pilot.@@N@@.uG
  split
  · rfl
  · exact a2
theorem Ah.uR {h g : HS} (a : Ah h g) (k n i : Nat) (v : Option Nat) : Ah (h.1, h.2.1, h.2.2.1, uR h.2.2.2 k n i v) (h.1, g.2.1, g.2.2.1, uR g.2.2.2 k n i v) := by
  refine ⟨rfl, fun k2 n2 j hn hv => ?_⟩
  obtain ⟨a1, a2, a3⟩ := a.2 k2 n2 j hn hv
  refine ⟨a1, a2, fun hr => ?_⟩
  show _root_.Jvm.Pilot.@@N@@.uR g.2.2.2 k n i v k2 n2 j = _root_.Jvm.Pilot.@@N@@.uR h.2.2.2 k n i v k2 n2 j
  unfold _root_.Jvm.Pilot.@@N@@.uR
  split
  · rfl
  · exact a3 hr
theorem pfd_ah {h g : HS} (a : Ah h g) (K j k n : Nat) (v : PV) : AhO (pfd h K j k n v) (pfd g K j k n v) := by
  unfold pfd
  rw [a.1]
  split
  · split
    · exact a.uF _ _ _ _
    · split
      · exact a.uF _ _ _ _
      · trivial
    · exact a.uG _ _ _ _
    · split
      · exact a.uR _ _ _ _
      · trivial
    · trivial
  · trivial
theorem ast_ah {h g : HS} (a : Ah h g) (s k n : Nat) (i : Int32) (v : PV) : AhO (ast h s k n i v) (ast g s k n i v) := by
  unfold ast
  rw [a.1]
  split
  · split
    · exact a.uF _ _ _ _
    · exact a.uF _ _ _ _
    · split
      · exact a.uF _ _ _ _
      · trivial
    · exact a.uG _ _ _ _
    · split
      · split
        · exact a.uR _ _ _ _
        · trivial
      · trivial
    · trivial
  · trivial
theorem alc_ah {h g : HS} (a : Ah h g) (k : Nat) : AhO (alc k h) (alc k g) := by
  unfold alc
  rw [a.1]
  split
  · refine ⟨rfl, fun k2 n2 j hn hv => ?_⟩
    show zF g.2.1 k (h.1.2 k) k2 n2 j = zF h.2.1 k (h.1.2 k) k2 n2 j ∧ zG g.2.2.1 k (h.1.2 k) k2 n2 j = zG h.2.2.1 k (h.1.2 k) k2 n2 j ∧ (rK k2 j = true → zR g.2.2.2 k (h.1.2 k) k2 n2 j = zR h.2.2.2 k (h.1.2 k) k2 n2 j)
    have hn : n2 < uC h.1.2 k (h.1.2 k + 1) k2 := hn
    unfold zF zG zR
    by_cases e : k2 = k ∧ n2 = h.1.2 k
    · rw [if_pos e, if_pos e, if_pos e, if_pos e, if_pos e, if_pos e]
      exact ⟨rfl, rfl, fun _ => rfl⟩
    · rw [if_neg e, if_neg e, if_neg e, if_neg e, if_neg e, if_neg e]
      refine a.2 k2 n2 j ?_ hv
      unfold uC at hn
      split at hn
      · rename_i e2
        subst e2
        have : ¬ n2 = h.1.2 k2 := fun e3 => e ⟨rfl, e3⟩
        omega
      · exact hn
  · trivial
theorem cpa_ah {h g : HS} (a : Ah h g) (k2 n2 : Nat) (sp : Int32) (k n : Nat) (dp m : Int32) : AhO (cpa h k2 n2 sp k n dp m) (cpa g k2 n2 sp k n dp m) := by
  unfold cpa
  rw [a.1]
  split
  · rename_i hc
    obtain ⟨c1, c2, c3, c4, c5, c6, c7, c8, c9⟩ := hc
    refine ⟨rfl, fun k3 n3 j hn hv => ?_⟩
    obtain ⟨a1, a2, a3⟩ := a.2 k3 n3 j hn hv
    refine ⟨?_, a2, a3⟩
    show cF g.2.1 k n dp.toNatClampNeg k2 n2 sp.toNatClampNeg m.toNatClampNeg k3 n3 j = cF h.2.1 k n dp.toNatClampNeg k2 n2 sp.toNatClampNeg m.toNatClampNeg k3 n3 j
    unfold cF
    by_cases e : k3 = k ∧ n3 = n
    · rw [if_pos e, if_pos e]
      obtain ⟨rfl, rfl⟩ := e
      unfold va_cpy
      split
      · rename_i e2
        exact (a.2 k2 n2 _ c3 (vld_a (by omega) (by omega))).1
      · exact a1
    · rw [if_neg e, if_neg e]
      exact a1
  · trivial
def AhS (o p : Option (Nat × (List PV × HS))) : Prop := match o, p with
  | none, none => True
  | some (q, st, h), some (q2, st2, g) => q2 = q ∧ st2 = st ∧ Ah h g
  | _, _ => False
theorem AhO.m {o p : Option HS} (h : AhO o p) (q : Nat) (st : List PV) : AhS (o.map fun h1 => (q, st, h1)) (p.map fun h1 => (q, st, h1)) := by
  cases o with
  | none =>
    cases p with
    | none => trivial
    | some g => exact h.elim
  | some f =>
    cases p with
    | none => exact h.elim
    | some g => exact ⟨rfl, rfl, h⟩
theorem AhS.v {α : Type} (o : Option α) {h g : HS} (a : Ah h g) (f : α → Nat × List PV) : AhS (o.map fun v => ((f v).1, (f v).2, h)) (o.map fun v => ((f v).1, (f v).2, g)) := by
  cases o with
  | none => trivial
  | some v => exact ⟨rfl, rfl, a⟩
theorem hst_ah {h g : HS} (a : Ah h g) (Ls : Nat) (xs : Nat → Int32) (op c e q : Nat) (st : List PV) : AhS (hst Ls xs op c e q st h) (hst Ls xs op c e q st g) := by
  unfold hst
  split
  · split
    · rw [gfd_ah a]; exact AhS.v _ a (fun v => (q, v :: _))
    · trivial
  · split
    · exact (pfd_ah a _ _ _ _ _).m _ _
    · trivial
  · split
    · rw [ald_ah a]; exact AhS.v _ a (fun v => (q, v :: _))
    · trivial
  · split
    · exact (ast_ah a _ _ _ _ _).m _ _
    · trivial
  · split
    · rw [aln_ah a]; exact AhS.v _ a (fun v => (q, .inl v :: _))
    · trivial
  · split
    · split
      · exact ⟨rfl, rfl, a⟩
      · trivial
    · trivial
  · split
    · rw [a.1]; exact (alc_ah a _).m _ _
    · trivial
  · split
    · split
      · rw [a.1]; exact (alc_ah a _).m _ _
      · trivial
    · trivial
  · split
    · split
      · rw [a.1]; exact (alc_ah a _).m _ _
      · trivial
    · trivial
  · split
    · split
      · exact ⟨rfl, rfl, a⟩
      · trivial
    · trivial
  · split
    · split
      · exact (cpa_ah a _ _ _ _ _ _ _).m _ _
      · trivial
    · trivial
  · split
    · split
      · exact ⟨rfl, rfl, a⟩
      · trivial
    · trivial
  · split
    · split
      · exact ⟨rfl, rfl, a⟩
      · trivial
    · trivial
  · trivial
def AhR (o p : Option (Option PV × HS)) : Prop := match o, p with
  | none, none => True
  | some (r, h), some (r2, g) => r2 = r ∧ Ah h g
  | _, _ => False
def OrcH (orc : Orc) : Prop := ∀ as h g, Ah h g → AhR (orc as h) (orc as g)
theorem recv_ah {h g : HS} (a : Ah h g) (z : PV) (c : Nat) (as : List PV) : recv z c g as = recv z c h as := by
  unfold recv
  rw [a.1]
theorem exec_ah {Ls : Nat} {xs : Nat → Int32} {orc : Orc} (hO : OrcH orc) : ∀ (f d m pc : Nat) (L : LL) (st : List PV) (h g : HS), Ah h g → AhR (exec Ls xs orc f d m pc L st h) (exec Ls xs orc f d m pc L st g) := by
  intro f
  induction f with
  | zero => intro d m pc L st h g a; trivial
  | succ f ih =>
    intro d m pc L st h g a
    unfold exec
    split
    · trivial
    · rename_i op c e z q hc
      split
      · split
        · exact ih _ _ _ _ _ _ _ a
        · trivial
      · split
        · split
          · trivial
          · rename_i d1
            rw [recv_ah a]
            split
            · have k1 := ih d1 c 0 (entL c (st.take e).reverse) [] h g a
              revert k1
              cases exec Ls xs orc f d1 c 0 (entL c (st.take e).reverse) [] h with
              | none =>
                cases exec Ls xs orc f d1 c 0 (entL c (st.take e).reverse) [] g with
                | none => intro _; trivial
                | some y => intro k1; exact k1.elim
              | some w =>
                cases exec Ls xs orc f d1 c 0 (entL c (st.take e).reverse) [] g with
                | none => intro k1; exact k1.elim
                | some y =>
                  intro k1
                  obtain ⟨r1, h1⟩ := w
                  obtain ⟨r2, g1⟩ := y
                  obtain ⟨e1, e2⟩ := k1
                  subst e1
                  exact ih _ _ _ _ _ _ _ e2
            · trivial
        · split
          · split
            · trivial
            · split
              · have k1 := hO (st.take e).reverse h g a
                revert k1
                cases orc (st.take e).reverse h with
                | none =>
                  cases orc (st.take e).reverse g with
                  | none => intro _; trivial
                  | some y => intro k1; exact k1.elim
                | some w =>
                  cases orc (st.take e).reverse g with
                  | none => intro k1; exact k1.elim
                  | some y =>
                    intro k1
                    obtain ⟨r1, h1⟩ := w
                    obtain ⟨r2, g1⟩ := y
                    obtain ⟨e1, e2⟩ := k1
                    subst e1
                    exact ih _ _ _ _ _ _ _ e2
              · trivial
          · split
            · split
              · exact ⟨rfl, a⟩
              · trivial
            · split
              · split
                · split
                  · exact ⟨rfl, a⟩
                  · trivial
                · trivial
              · split
                · trivial
                · have k1 := hst_ah a Ls xs op c e q st
                  revert k1
                  cases hst Ls xs op c e q st h with
                  | none =>
                    cases hst Ls xs op c e q st g with
                    | none => intro _; trivial
                    | some y => intro k1; exact k1.elim
                  | some w =>
                    cases hst Ls xs op c e q st g with
                    | none => intro k1; exact k1.elim
                    | some y =>
                      intro k1
                      obtain ⟨q1, st1, h1⟩ := w
                      obtain ⟨q2, st2, g1⟩ := y
                      obtain ⟨e1, e2, e3⟩ := k1
                      subst e1
                      subst e2
                      exact ih _ _ _ _ _ _ _ e3
theorem t_ah {E : EV} {d m pc : Nat} {L : LL} {st : List PV} {C C2 : CT} {F F2 : FT} {G G2 : GT} {R R2 : RT} {r : Option PV} {t : HS} (hO : OrcH E.2.2) (a : Ah (C, F, G, R) (C2, F2, G2, R2)) (h : Tm E d m pc L st C F G R r t) : ∃ t2, Tm E d m pc L st C2 F2 G2 R2 r t2 ∧ Ah t t2 := by
  obtain ⟨f, hf⟩ := h
  have k1 := exec_ah (Ls := E.1) (xs := E.2.1) hO f d m pc L st _ _ a
  rw [hf] at k1
  cases e : exec E.1 E.2.1 E.2.2 f d m pc L st (C2, F2, G2, R2) with
  | none => rw [e] at k1; exact k1.elim
  | some y =>
    rw [e] at k1
    obtain ⟨r2, t2⟩ := y
    obtain ⟨e1, e2⟩ := k1
    subst e1
    exact ⟨t2, ⟨f, e⟩, e2⟩
theorem Ag.h {h g : HS} (a : Ag h g) : Ah h g := ⟨a.1, fun k n j hn hv => by
  obtain ⟨a1, a2, a3⟩ := a.2 k n j hn hv
  exact ⟨a1, a2, fun _ => a3⟩⟩
theorem orcL_H : OrcH orcL := by
  intro as h g a
  unfold orcL
  cases orP as with
  | none => trivial
  | some v =>
    simp only
    rw [a.1]
    by_cases hc : h.1.1 = NN ∧ 0 < h.1.2 1 ∧ 0 < h.1.2 81
    · rw [if_pos hc, if_pos hc]
      refine ⟨rfl, rfl, fun k n j hn hv => ?_⟩
      by_cases hk : k = 1000
      · subst hk
        have h9 : (kt 1000).1 = 9 ∧ (kt 1000).2.1 = 0 := by decide +kernel
        unfold vld at hv
        rw [if_neg (by rw [h9.1]; decide), h9.2] at hv
        exact absurd hv (Nat.not_lt_zero _)
      · have hn2 : n < h.1.2 k := by
          have hn3 : n < uC h.1.2 1000 (h.1.2 1000 + 1) k := hn
          simp only [uC] at hn3
          rw [if_neg hk] at hn3
          exact hn3
        obtain ⟨a1, a2, a3⟩ := a.2 k n j hn2 hv
        refine ⟨a1, ?_, a3⟩
        show (if v.2 = 0 then uG g.2.2.1 81 0 0 v.1.toInt64 else g.2.2.1) k n j = (if v.2 = 0 then uG h.2.2.1 81 0 0 v.1.toInt64 else h.2.2.1) k n j
        by_cases hv0 : v.2 = 0
        · rw [if_pos hv0, if_pos hv0]
          simp only [uG, a2]
        · rw [if_neg hv0, if_neg hv0, a2]
    · rw [if_neg hc, if_neg hc]
      trivial
