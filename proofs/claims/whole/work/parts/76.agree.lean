/-! HEAPS THAT AGREE ON WHAT IS MADE -/
def vld (k j : Nat) : Prop := if (kt k).1 = 0 then j < (kt k).2.2.length else j < (kt k).2.1
def Ag (h g : HS) : Prop := g.1 = h.1 ∧ ∀ k n j, n < h.1.2 k → vld k j → g.2.1 k n j = h.2.1 k n j ∧ g.2.2.1 k n j = h.2.2.1 k n j ∧ g.2.2.2 k n j = h.2.2.2 k n j
theorem Ag.rf {h : HS} : Ag h h := ⟨rfl, fun _ _ _ _ _ => ⟨rfl, rfl, rfl⟩⟩
theorem Ag.sy {h g : HS} (a : Ag h g) : Ag g h := ⟨a.1.symm, fun k n j hn hv => by
  obtain ⟨a1, a2, a3⟩ := a.2 k n j (by rw [← a.1]; exact hn) hv
  exact ⟨a1.symm, a2.symm, a3.symm⟩⟩
theorem Ag.tr {h g f : HS} (a : Ag h g) (c : Ag g f) : Ag h f := ⟨c.1.trans a.1, fun k n j hn hv => by
  obtain ⟨a1, a2, a3⟩ := a.2 k n j hn hv
  obtain ⟨c1, c2, c3⟩ := c.2 k n j (by rw [a.1]; exact hn) hv
  exact ⟨c1.trans a1, c2.trans a2, c3.trans a3⟩⟩
theorem vld_f {k j : Nat} {y : Nat × Nat} (h0 : (kt k).1 = 0) (h : (kt k).2.2[j]? = some y) : vld k j := by
  unfold vld
  rw [if_pos h0]
  exact (List.getElem?_eq_some_iff.mp h).1
theorem vld_a {k j : Nat} (h0 : (kt k).1 ≠ 0) (h : j < (kt k).2.1) : vld k j := by
  unfold vld
  rw [if_neg h0]
  exact h
theorem inb_lt {i : Int32} {n : Nat} (h : inb i n = true) : i.toNatClampNeg < n := by
  simp only [inb, Bool.not_eq_true', Bool.or_eq_false_iff, decide_eq_false_iff_not] at h
  omega
theorem gfd_ag {h g : HS} (a : Ag h g) (K j k n : Nat) : gfd g K j k n = gfd h K j k n := by
  unfold gfd
  split
  · rfl
  · rw [a.1]
    by_cases hk : k = K ∧ n < h.1.2 k
    · rw [if_pos hk, if_pos hk]
      obtain ⟨rfl, hn⟩ := hk
      by_cases h0 : (kt k).1 = 0
      · cases e : (kt k).2.2[j]? with
        | none => rw [h0]; rfl
        | some y =>
          obtain ⟨a1, a2, a3⟩ := a.2 k n j hn (vld_f h0 e)
          rw [a1, a2, a3]
      · split <;> simp_all
    · rw [if_neg hk, if_neg hk]
theorem ald_ag {h g : HS} (a : Ag h g) (Ls : Nat) (xs : Nat → Int32) (s k n : Nat) (i : Int32) : ald Ls xs g s k n i = ald Ls xs h s k n i := by
  unfold ald
  split
  · rfl
  · split
    · rfl
    · rw [a.1]
      by_cases hk : (kt k).1 = s ∧ n < h.1.2 k ∧ inb i (kt k).2.1 = true
      · rw [if_pos hk, if_pos hk]
        by_cases h0 : (kt k).1 = 0
        · rw [← hk.1, h0]; rfl
        · obtain ⟨a1, a2, a3⟩ := a.2 k n i.toNatClampNeg hk.2.1 (vld_a h0 (inb_lt hk.2.2))
          rw [a1, a2, a3]
      · rw [if_neg hk, if_neg hk]
theorem aln_ag {h g : HS} (a : Ag h g) (Ls k n : Nat) : aln Ls g k n = aln Ls h k n := by
  unfold aln
  rw [a.1]
/-- both none, or both some, and what stands agrees -/
def AgO (o p : Option HS) : Prop := match o, p with
  | none, none => True
  | some h, some g => Ag h g
  | _, _ => False
theorem Ag.uF {h g : HS} (a : Ag h g) (k n i : Nat) (v : Int32) : Ag (h.1, uF h.2.1 k n i v, h.2.2.1, h.2.2.2) (h.1, uF g.2.1 k n i v, g.2.2.1, g.2.2.2) := by
  refine ⟨rfl, fun k2 n2 j hn hv => ?_⟩
  obtain ⟨a1, a2, a3⟩ := a.2 k2 n2 j hn hv
  refine ⟨?_, a2, a3⟩
  show _root_.Jvm.Pilot.@@N@@.uF g.2.1 k n i v k2 n2 j = _root_.Jvm.Pilot.@@N@@.uF h.2.1 k n i v k2 n2 j
  unfold _root_.Jvm.Pilot.@@N@@.uF
  split
  · rfl
  · exact a1
theorem Ag.uG {h g : HS} (a : Ag h g) (k n i : Nat) (v : Int64) : Ag (h.1, h.2.1, uG h.2.2.1 k n i v, h.2.2.2) (h.1, g.2.1, uG g.2.2.1 k n i v, g.2.2.2) := by
  refine ⟨rfl, fun k2 n2 j hn hv => ?_⟩
  obtain ⟨a1, a2, a3⟩ := a.2 k2 n2 j hn hv
  refine ⟨a1, ?_, a3⟩
  show _root_.Jvm.Pilot.@@N@@.uG g.2.2.1 k n i v k2 n2 j = _root_.Jvm.Pilot.@@N@@.uG h.2.2.1 k n i v k2 n2 j
  unfold _root_.Jvm.Pilot.@@N@@.uG
  split
  · rfl
  · exact a2
theorem Ag.uR {h g : HS} (a : Ag h g) (k n i : Nat) (v : Option Nat) : Ag (h.1, h.2.1, h.2.2.1, uR h.2.2.2 k n i v) (h.1, g.2.1, g.2.2.1, uR g.2.2.2 k n i v) := by
  refine ⟨rfl, fun k2 n2 j hn hv => ?_⟩
  obtain ⟨a1, a2, a3⟩ := a.2 k2 n2 j hn hv
  refine ⟨a1, a2, ?_⟩
  show _root_.Jvm.Pilot.@@N@@.uR g.2.2.2 k n i v k2 n2 j = _root_.Jvm.Pilot.@@N@@.uR h.2.2.2 k n i v k2 n2 j
  unfold _root_.Jvm.Pilot.@@N@@.uR
  split
  · rfl
  · exact a3
theorem pfd_ag {h g : HS} (a : Ag h g) (K j k n : Nat) (v : PV) : AgO (pfd h K j k n v) (pfd g K j k n v) := by
  unfold pfd
  rw [a.1]
  split
  · split
    · exact a.uF _ _ _ _
    · split
      · exact a.uF _ _ _ _
      · trivial
    · exact a.uG _ _ _ _
    · split
      · exact a.uR _ _ _ _
      · trivial
    · trivial
  · trivial
theorem ast_ag {h g : HS} (a : Ag h g) (s k n : Nat) (i : Int32) (v : PV) : AgO (ast h s k n i v) (ast g s k n i v) := by
  unfold ast
  rw [a.1]
  split
  · split
    · exact a.uF _ _ _ _
    · exact a.uF _ _ _ _
    · split
      · exact a.uF _ _ _ _
      · trivial
    · exact a.uG _ _ _ _
    · split
      · split
        · exact a.uR _ _ _ _
        · trivial
      · trivial
    · trivial
  · trivial
theorem alc_ag {h g : HS} (a : Ag h g) (k : Nat) : AgO (alc k h) (alc k g) := by
  unfold alc
  rw [a.1]
  split
  · refine ⟨rfl, fun k2 n2 j hn hv => ?_⟩
    show zF g.2.1 k (h.1.2 k) k2 n2 j = zF h.2.1 k (h.1.2 k) k2 n2 j ∧ zG g.2.2.1 k (h.1.2 k) k2 n2 j = zG h.2.2.1 k (h.1.2 k) k2 n2 j ∧ zR g.2.2.2 k (h.1.2 k) k2 n2 j = zR h.2.2.2 k (h.1.2 k) k2 n2 j
    have hn : n2 < uC h.1.2 k (h.1.2 k + 1) k2 := hn
    unfold zF zG zR
    by_cases e : k2 = k ∧ n2 = h.1.2 k
    · rw [if_pos e, if_pos e, if_pos e, if_pos e, if_pos e, if_pos e]
      exact ⟨rfl, rfl, rfl⟩
    · rw [if_neg e, if_neg e, if_neg e, if_neg e, if_neg e, if_neg e]
      refine a.2 k2 n2 j ?_ hv
      unfold uC at hn
      split at hn
      · rename_i e2
        subst e2
        have : ¬ n2 = h.1.2 k2 := fun e3 => e ⟨rfl, e3⟩
        omega
      · exact hn
  · trivial
theorem cpa_ag {h g : HS} (a : Ag h g) (k2 n2 : Nat) (sp : Int32) (k n : Nat) (dp m : Int32) : AgO (cpa h k2 n2 sp k n dp m) (cpa g k2 n2 sp k n dp m) := by
  unfold cpa
  rw [a.1]
  split
  · rename_i hc
    obtain ⟨c1, c2, c3, c4, c5, c6, c7, c8, c9⟩ := hc
    refine ⟨rfl, fun k3 n3 j hn hv => ?_⟩
    obtain ⟨a1, a2, a3⟩ := a.2 k3 n3 j hn hv
    refine ⟨?_, a2, a3⟩
    show cF g.2.1 k n dp.toNatClampNeg k2 n2 sp.toNatClampNeg m.toNatClampNeg k3 n3 j = cF h.2.1 k n dp.toNatClampNeg k2 n2 sp.toNatClampNeg m.toNatClampNeg k3 n3 j
    unfold cF
    by_cases e : k3 = k ∧ n3 = n
    · rw [if_pos e, if_pos e]
      obtain ⟨rfl, rfl⟩ := e
      unfold va_cpy
      split
      · rename_i e2
        exact (a.2 k2 n2 _ c3 (vld_a (by omega) (by omega))).1
      · exact a1
    · rw [if_neg e, if_neg e]
      exact a1
  · trivial
def AgS (o p : Option (Nat × (List PV × HS))) : Prop := match o, p with
  | none, none => True
  | some (q, st, h), some (q2, st2, g) => q2 = q ∧ st2 = st ∧ Ag h g
  | _, _ => False
theorem AgO.m {o p : Option HS} (h : AgO o p) (q : Nat) (st : List PV) : AgS (o.map fun h1 => (q, st, h1)) (p.map fun h1 => (q, st, h1)) := by
  cases o with
  | none =>
    cases p with
    | none => trivial
    | some g => exact h.elim
  | some f =>
    cases p with
    | none => exact h.elim
    | some g => exact ⟨rfl, rfl, h⟩
theorem AgS.v {α : Type} (o : Option α) {h g : HS} (a : Ag h g) (f : α → Nat × List PV) : AgS (o.map fun v => ((f v).1, (f v).2, h)) (o.map fun v => ((f v).1, (f v).2, g)) := by
  cases o with
  | none => trivial
  | some v => exact ⟨rfl, rfl, a⟩
theorem hst_ag {h g : HS} (a : Ag h g) (Ls : Nat) (xs : Nat → Int32) (op c e q : Nat) (st : List PV) : AgS (hst Ls xs op c e q st h) (hst Ls xs op c e q st g) := by
  unfold hst
  split
  · split
    · rw [gfd_ag a]; exact AgS.v _ a (fun v => (q, v :: _))
    · trivial
  · split
    · exact (pfd_ag a _ _ _ _ _).m _ _
    · trivial
  · split
    · rw [ald_ag a]; exact AgS.v _ a (fun v => (q, v :: _))
    · trivial
  · split
    · exact (ast_ag a _ _ _ _ _).m _ _
    · trivial
  · split
    · rw [aln_ag a]; exact AgS.v _ a (fun v => (q, .inl v :: _))
    · trivial
  · split
    · split
      · exact ⟨rfl, rfl, a⟩
      · trivial
    · trivial
  · split
    · rw [a.1]; exact (alc_ag a _).m _ _
    · trivial
  · split
    · split
      · rw [a.1]; exact (alc_ag a _).m _ _
      · trivial
    · trivial
  · split
    · split
      · rw [a.1]; exact (alc_ag a _).m _ _
      · trivial
    · trivial
  · split
    · split
      · exact ⟨rfl, rfl, a⟩
      · trivial
    · trivial
  · split
    · split
      · exact (cpa_ag a _ _ _ _ _ _ _).m _ _
      · trivial
    · trivial
  · split
    · split
      · exact ⟨rfl, rfl, a⟩
      · trivial
    · trivial
  · split
    · split
      · exact ⟨rfl, rfl, a⟩
      · trivial
    · trivial
  · trivial
def AgR (o p : Option (Option PV × HS)) : Prop := match o, p with
  | none, none => True
  | some (r, h), some (r2, g) => r2 = r ∧ Ag h g
  | _, _ => False
def OrcA (orc : Orc) : Prop := ∀ as h g, Ag h g → AgR (orc as h) (orc as g)
theorem recv_ag {h g : HS} (a : Ag h g) (z : PV) (c : Nat) (as : List PV) : recv z c g as = recv z c h as := by
  unfold recv
  rw [a.1]
theorem exec_ag {Ls : Nat} {xs : Nat → Int32} {orc : Orc} (hO : OrcA orc) : ∀ (f d m pc : Nat) (L : LL) (st : List PV) (h g : HS), Ag h g → AgR (exec Ls xs orc f d m pc L st h) (exec Ls xs orc f d m pc L st g) := by
  intro f
  induction f with
  | zero => intro d m pc L st h g a; trivial
  | succ f ih =>
    intro d m pc L st h g a
    unfold exec
    split
    · trivial
    · rename_i op c e z q hc
      split
      · split
        · exact ih _ _ _ _ _ _ _ a
        · trivial
      · split
        · split
          · trivial
          · rename_i d1
            rw [recv_ag a]
            split
            · have k1 := ih d1 c 0 (entL c (st.take e).reverse) [] h g a
              revert k1
              cases exec Ls xs orc f d1 c 0 (entL c (st.take e).reverse) [] h with
              | none =>
                cases exec Ls xs orc f d1 c 0 (entL c (st.take e).reverse) [] g with
                | none => intro _; trivial
                | some y => intro k1; exact k1.elim
              | some w =>
                cases exec Ls xs orc f d1 c 0 (entL c (st.take e).reverse) [] g with
                | none => intro k1; exact k1.elim
                | some y =>
                  intro k1
                  obtain ⟨r1, h1⟩ := w
                  obtain ⟨r2, g1⟩ := y
                  obtain ⟨e1, e2⟩ := k1
                  subst e1
                  exact ih _ _ _ _ _ _ _ e2
            · trivial
        · split
          · split
            · trivial
            · split
              · have k1 := hO (st.take e).reverse h g a
                revert k1
                cases orc (st.take e).reverse h with
                | none =>
                  cases orc (st.take e).reverse g with
                  | none => intro _; trivial
                  | some y => intro k1; exact k1.elim
                | some w =>
                  cases orc (st.take e).reverse g with
                  | none => intro k1; exact k1.elim
                  | some y =>
                    intro k1
                    obtain ⟨r1, h1⟩ := w
                    obtain ⟨r2, g1⟩ := y
                    obtain ⟨e1, e2⟩ := k1
                    subst e1
                    exact ih _ _ _ _ _ _ _ e2
              · trivial
          · split
            · split
              · exact ⟨rfl, a⟩
              · trivial
            · split
              · split
                · split
                  · exact ⟨rfl, a⟩
                  · trivial
                · trivial
              · split
                · trivial
                · have k1 := hst_ag a Ls xs op c e q st
                  revert k1
                  cases hst Ls xs op c e q st h with
                  | none =>
                    cases hst Ls xs op c e q st g with
                    | none => intro _; trivial
                    | some y => intro k1; exact k1.elim
                  | some w =>
                    cases hst Ls xs op c e q st g with
                    | none => intro k1; exact k1.elim
                    | some y =>
                      intro k1
                      obtain ⟨q1, st1, h1⟩ := w
                      obtain ⟨q2, st2, g1⟩ := y
                      obtain ⟨e1, e2, e3⟩ := k1
                      subst e1
                      subst e2
                      exact ih _ _ _ _ _ _ _ e3
theorem t_ag {E : EV} {d m pc : Nat} {L : LL} {st : List PV} {C C2 : CT} {F F2 : FT} {G G2 : GT} {R R2 : RT} {r : Option PV} {t : HS} (hO : OrcA E.2.2) (a : Ag (C, F, G, R) (C2, F2, G2, R2)) (h : Tm E d m pc L st C F G R r t) : ∃ t2, Tm E d m pc L st C2 F2 G2 R2 r t2 ∧ Ag t t2 := by
  obtain ⟨f, hf⟩ := h
  have k1 := exec_ag (Ls := E.1) (xs := E.2.1) hO f d m pc L st _ _ a
  rw [hf] at k1
  cases e : exec E.1 E.2.1 E.2.2 f d m pc L st (C2, F2, G2, R2) with
  | none => rw [e] at k1; exact k1.elim
  | some y =>
    rw [e] at k1
    obtain ⟨r2, t2⟩ := y
    obtain ⟨e1, e2⟩ := k1
    subst e1
    exact ⟨t2, ⟨f, e⟩, e2⟩
/-- from here the run ends with the answer r, in a heap that agrees with one of which Q holds -/
def Te (E : EV) (d m pc : Nat) (L : LL) (st : List PV) (x : Nat) (F : FT) (G : GT) (bb : Bool) (r : Option PV) (Q : Nat → Bool → FT → GT → Prop) : Prop := ∃ t x2 b2 F2 G2, Tm E d m pc L st (cC x) F G (Rs bb) r t ∧ Ag (cC x2, F2, G2, Rs b2) t ∧ Q x2 b2 F2 G2
theorem te_of {E : EV} {d m pc x : Nat} {L : LL} {st : List PV} {F : FT} {G : GT} {bb : Bool} {r : Option PV} {Q : FT → GT → Prop} (h : Td E d m pc L st x F G bb r Q) : Te E d m pc L st x F G bb r (fun x2 b2 F2 G2 => x2 = x ∧ b2 = bb ∧ Q F2 G2) := by
  obtain ⟨F2, G2, h1, h2⟩ := h
  exact ⟨_, x, bb, F2, G2, h1, Ag.rf, rfl, rfl, h2⟩
