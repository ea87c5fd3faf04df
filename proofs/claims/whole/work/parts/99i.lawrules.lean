/-! THE LAW'S RUN: rules -/
def eqPV : PV → PV → Bool
  | .inl x, .inl y => decide (x = y)
  | .inr (.inl x), .inr (.inl y) => decide (x = y)
  | .inr (.inr (a, b)), .inr (.inr (c, d)) => decide (a = c) && decide (b = d)
  | _, _ => false
theorem eqPV_ok : ∀ {u v : PV}, eqPV u v = true → u = v
  | .inl x, .inl y, h => by rw [of_decide_eq_true h]
  | .inr (.inl x), .inr (.inl y), h => by rw [of_decide_eq_true h]
  | .inr (.inr (a, b)), .inr (.inr (c, d)), h => by
    simp only [eqPV, Bool.and_eq_true, decide_eq_true_eq] at h
    rw [h.1, h.2]
  | .inl x, .inr y, h => by cases h
  | .inr (.inl x), .inl y, h => by cases h
  | .inr (.inr x), .inl y, h => by cases h
  | .inr (.inl x), .inr (.inr y), h => by cases h
  | .inr (.inr (a, b)), .inr (.inl y), h => by cases h
def subT (T : List (Nat × Ent)) : Bool := T.all fun x => match cod 252 x.1 with
  | some e => decide (e.1 = x.2.1) && (decide (e.2.1 = x.2.2.1) && (decide (e.2.2.1 = x.2.2.2.1) && (eqPV e.2.2.2.1 x.2.2.2.2.1 && decide (e.2.2.2.2 = x.2.2.2.2.2))))
  | none => false
theorem subT_at {T : List (Nat × Ent)} {pc : Nat} {e : Ent} (hT : subT T = true) (he : T.lookup pc = some e) : cod 252 pc = some e := by
  have h2 : (pc, e) ∈ T := by
    rw [List.lookup_eq_some_iff] at he
    obtain ⟨l1, l2, h3, -⟩ := he
    rw [h3]
    simp
  have h1 := List.all_eq_true.mp hT _ h2
  simp only at h1
  split at h1
  · rename_i e2 h3
    simp only [Bool.and_eq_true, decide_eq_true_eq] at h1
    obtain ⟨a1, a2, a3, a4, a5⟩ := h1
    rw [h3]
    obtain ⟨c1, c2, c3, c4, c5⟩ := e
    obtain ⟨d1, d2, d3, d4, d5⟩ := e2
    simp only at a1 a2 a3 a4 a5
    rw [a1, a2, a3, eqPV_ok a4, a5]
  · cases h1
/-- from here the law's run ends with true; at most n exceptions are made in all -/
def LT (E : EV) (d pc : Nat) (L : LL) (st : List PV) (x : Nat) (F : FT) (G : GT) (b : Bool) (n : Nat) : Prop := ∃ t, Tm E d 252 pc L st (cC x) F G (Rs b) (some (vi 1)) t ∧ t.1.1 = 223 ∧ t.1.2 1000 ≤ n
section LR
variable {E : EV} {d pc pc2 a q q1 x n nA : Nat} {z : PV} {L L1 : LL} {st st1 : List PV} {F F1 : FT} {G G1 : GT} {b : Bool} {T : List (Nat × Ent)} {y w : Int32}
theorem lt_up (h : ∀ t, Tm E d 252 pc2 L1 st1 (cC x) F1 G1 (Rs b) (some (vi 1)) t → Tm E d 252 pc L st (cC x) F G (Rs b) (some (vi 1)) t) (kk : LT E d pc2 L1 st1 x F1 G1 b n) : LT E d pc L st x F G b n := by
  obtain ⟨t, h1, h2, h3⟩ := kk
  exact ⟨t, h t h1, h2, h3⟩
theorem lt_run (hT : subT T = true) : ∀ (k : Nat) {pc : Nat} {L : LL} {st : List PV}, prT T k pc L st = some (q1, L1, st1) → LT E d q1 L1 st1 x F G b n → LT E d pc L st x F G b n
  | 0, pc, L, st, h, kk => by
    simp only [prT, Option.some.injEq, Prod.mk.injEq] at h
    obtain ⟨rfl, rfl, rfl⟩ := h
    exact kk
  | k + 1, pc, L, st, h, kk => by
    unfold prT at h
    split at h
    · rename_i op a b z q he
      split at h
      · rename_i ho
        split at h
        · rename_i hs
          exact lt_up (fun t h2 => t_p (subT_at hT he) (by omega) hs h2) (lt_run hT k h kk)
        · cases h
      · cases h
    · cases h
theorem lt_le (hL : leL L1 L) (kk : LT E d pc L1 st x F G b n) : LT E d pc L st x F G b n := lt_up (fun t h => t_le hL h) kk
theorem lt_sc {k : Nat} {a2 : Nat} (hT : subT T = true) (he : T.lookup pc = some (31, 1, a2, z, q)) (hi : y = nI k) (hk : k < E.1) (hN : E.1 ≤ 3584) (kk : LT E d q L (vi (E.2.1 k) :: st) x F G b n) : LT E d pc L (vi y :: vr 0 0 :: st) x F G b n := by
  refine lt_up (fun t h => t_h (subT_at hT he) (by decide) ?_ h) kk
  subst hi
  simp only [hst, ald]
  rw [if_pos trivial, if_pos ⟨trivial, trivial, inb_nI hk (by omega)⟩, nI_clamp (by omega)]
  rfl
theorem lt_len {a1 a2 : Nat} (hT : subT T = true) (he : T.lookup pc = some (33, a1, a2, z, q)) (kk : LT E d q L (vi (nI E.1) :: st) x F G b n) : LT E d pc L (vr 0 0 :: st) x F G b n :=
  lt_up (fun t h => t_h (subT_at hT he) (by decide) rfl h) kk
theorem lt_sw {a2 df : Nat} {lo : Int} {ts : List Nat} (hT : subT T = true) (he : T.lookup pc = some (38, a, a2, z, q)) (hs : tswt[a]? = some (lo, ts, df)) (hq : (if y.toInt < lo then df else (ts[(y.toInt - lo).toNat]?).getD df) = q1) (kk : LT E d q1 L st x F G b n) : LT E d pc L (vi y :: st) x F G b n := by
  refine lt_up (fun t h => t_h (subT_at hT he) (by decide) ?_ h) kk
  simp only [hst, hs]
  rw [hq]
theorem lt_eq {a2 : Nat} (hT : subT T = true) (he : T.lookup pc = some (28, 0, a2, z, q)) (kk : LT E d a2 L st x F G b n) : LT E d pc L (vi y :: vi y :: st) x F G b n :=
  lt_up (fun t h => t_ic_eq (subT_at hT he) (fun _ => h) (fun hne => absurd rfl hne)) kk
theorem lt_gt {a2 : Nat} (hT : subT T = true) (he : T.lookup pc = some (28, 4, a2, z, q)) (k1 : w < y → LT E d a2 L st x F G b n) (k2 : ¬ w < y → LT E d q L st x F G b n) : LT E d pc L (vi w :: vi y :: st) x F G b n := by
  by_cases h : w < y
  · exact lt_up (fun t h2 => t_ic_gt (subT_at hT he) (fun _ => h2) (fun hne => absurd h hne)) (k1 h)
  · exact lt_up (fun t h2 => t_ic_gt (subT_at hT he) (fun hne => absurd hne h) (fun _ => h2)) (k2 h)
theorem lt_if0 {a2 : Nat} (hT : subT T = true) (he : T.lookup pc = some (27, 0, a2, z, q)) (k1 : y = 0 → LT E d a2 L st x F G b n) (k2 : ¬ y = 0 → LT E d q L st x F G b n) : LT E d pc L (vi y :: st) x F G b n := by
  by_cases h : y = 0
  · exact lt_up (fun t h2 => t_if_eq (subT_at hT he) (fun _ => h2) (fun hne => absurd h hne)) (k1 h)
  · exact lt_up (fun t h2 => t_if_eq (subT_at hT he) (fun hne => absurd hne h) (fun _ => h2)) (k2 h)
theorem lt_if1 {a2 : Nat} (hT : subT T = true) (he : T.lookup pc = some (27, 1, a2, z, q)) (k1 : ¬ y = 0 → LT E d a2 L st x F G b n) (k2 : y = 0 → LT E d q L st x F G b n) : LT E d pc L (vi y :: st) x F G b n := by
  by_cases h : y = 0
  · exact lt_up (fun t h2 => t_if_ne (subT_at hT he) (fun hne => absurd h hne) (fun _ => h2)) (k2 h)
  · exact lt_up (fun t h2 => t_if_ne (subT_at hT he) (fun _ => h2) (fun hne => absurd hne h)) (k1 h)
theorem lt_end {a2 : Nat} (hT : subT T = true) (he : T.lookup pc = some (36, 2, a2, z, q)) (hx : x ≤ n) : LT E d pc L [vi 1] x F G b n := by
  refine ⟨_, t_iret (subT_at hT he) (by decide), rfl, ?_⟩
  show cn x 1000 ≤ n
  simp only [cn]
  rw [if_pos trivial]
  exact hx
theorem lt_call {as : List PV} (nA : Nat) (hT : subT T = true) (he : T.lookup pc = some (34, a, nA, z, q)) (hd : 0 < d) (hl : nA ≤ st.length) (has : (st.take nA).reverse = as) (hcat : ((st.drop nA).map catP).sum ≤ 8) (hen : (entG as).length ≤ mx a) (hr : recv z nA (cC x, F, G, Rs b) as = true) {L0 : LL} (hL : entL a as = L0) {r1 : Int32} {Q : FT → GT → Prop} (hC : Td E (d - 1) a 0 L0 [] x F G b (some (vi r1)) Q) {st2 : List PV} (h2 : vi r1 :: st.drop nA = st2) (kk : ∀ F2 G2, Q F2 G2 → LT E d q L st2 x F2 G2 b n) : LT E d pc L st x F G b n := by
  obtain ⟨F2, G2, h3, h4⟩ := hC
  exact lt_up (fun t h => t_call nA (subT_at hT he) hd hl has hcat hen hr hL h3 h2 h) (kk F2 G2 h4)
theorem lt_callT {as : List PV} (nA : Nat) (hT : subT T = true) (he : T.lookup pc = some (34, a, nA, z, q)) (hd : 0 < d) (hl : nA ≤ st.length) (has : (st.take nA).reverse = as) (hcat : ((st.drop nA).map catP).sum ≤ 8) (hen : (entG as).length ≤ mx a) (hr : recv z nA (cC x, F, G, Rs b) as = true) {L0 : LL} (hL : entL a as = L0) {r1 : Int32} (hC : Tm E (d - 1) a 0 L0 [] (cC x) F G (Rs b) (some (vi r1)) (cC x, F, G, Rs b)) {st2 : List PV} (h2 : vi r1 :: st.drop nA = st2) (kk : LT E d q L st2 x F G b n) : LT E d pc L st x F G b n :=
  lt_up (fun t h => t_call nA (subT_at hT he) hd hl has hcat hen hr hL hC h2 h) kk
theorem lt_callE {as : List PV} (nA : Nat) (hO : OrcA E.2.2) (hT : subT T = true) (he : T.lookup pc = some (34, a, nA, z, q)) (hd : 0 < d) (hl : nA ≤ st.length) (has : (st.take nA).reverse = as) (hcat : ((st.drop nA).map catP).sum ≤ 8) (hen : (entG as).length ≤ mx a) (hr : recv z nA (cC x, F, G, Rs b) as = true) {L0 : LL} (hL : entL a as = L0) {r1 : Int32} {Q : Nat → Bool → FT → GT → Prop} (hC : Te E (d - 1) a 0 L0 [] x F G b (some (vi r1)) Q) {st2 : List PV} (h2 : vi r1 :: st.drop nA = st2) (kk : ∀ x2 b2 F2 G2, Q x2 b2 F2 G2 → LT E d q L st2 x2 F2 G2 b2 n) : LT E d pc L st x F G b n := by
  obtain ⟨t, x2, b2, F2, G2, h3, h4, h5⟩ := hC
  obtain ⟨C3, F3, G3, R3⟩ := t
  obtain ⟨t2, k1, k2, k3⟩ := kk x2 b2 F2 G2 h5
  obtain ⟨t3, m1, m2⟩ := t_ag hO h4 k1
  refine ⟨t3, t_call nA (subT_at hT he) hd hl has hcat hen hr hL h3 h2 m1, ?_, ?_⟩
  · rw [m2.1]; exact k2
  · rw [m2.1]; exact k3
/-- the law's own rests -/
theorem lt_orc {a2 : Nat} {u1 u2 u3 u4 : Int32} (hE : E.2.2 = orcL) (hT : subT T = true) (he : T.lookup pc = some (45, a2, 6, z, q)) (hd : 0 < d) (kk : LT E d q L [vi (rsA u1 u2 u3 u4).2] (x + 1) F (if (rsA u1 u2 u3 u4).2 = 0 then uG G 81 0 0 (rsA u1 u2 u3 u4).1.toInt64 else G) b n) : LT E d pc L [vr 81 0, vi u4, vi u3, vi u2, vi u1, vr 1 0] x F G b n := by
  obtain ⟨t, h1, h2, h3⟩ := kk
  refine ⟨t, ?_, h2, h3⟩
  obtain ⟨f, hf⟩ := h1
  obtain ⟨d1, rfl⟩ : ∃ d1, d = d1 + 1 := ⟨d - 1, by omega⟩
  refine ⟨f + 1, ?_⟩
  unfold exec
  rw [subT_at hT he]
  simp only
  rw [if_neg (by decide), if_neg (by decide), if_pos trivial, if_pos ⟨Nat.le_of_ble_eq_true rfl, Nat.le_of_ble_eq_true rfl⟩, hE]
  have eC : ((223, uC (cn x) 1000 (cn x 1000 + 1)) : CT) = cC (x + 1) := by
    refine Prod.ext rfl ?_
    funext k
    simp only [uC, cn]
    by_cases hk : k = 1000
    · simp [hk]
    · simp [hk]
  have e1 : orcL [vr 1 0, vi u1, vi u2, vi u3, vi u4, vr 81 0] (cC x, F, G, Rs b) = some (some (vi (rsA u1 u2 u3 u4).2), (cC (x + 1), F, (if (rsA u1 u2 u3 u4).2 = 0 then uG G 81 0 0 (rsA u1 u2 u3 u4).1.toInt64 else G), Rs b)) := by
    unfold orcL
    have e2 : orP [vr 1 0, vi u1, vi u2, vi u3, vi u4, vr 81 0] = some (rsA u1 u2 u3 u4) := rfl
    rw [e2, ← eC]
    exact if_pos ⟨rfl, show 0 < cn x 1 from Nat.le_of_ble_eq_true rfl, show 0 < cn x 81 from Nat.le_of_ble_eq_true rfl⟩
  show (match orcL [vr 1 0, vi u1, vi u2, vi u3, vi u4, vr 81 0] (cC x, F, G, Rs b) with
    | some (r, h1) => exec E.1 E.2.1 orcL f (d1 + 1) 252 q L (r.toList ++ []) h1
    | none => none) = _
  rw [e1]
  rw [hE] at hf
  exact hf
end LR
theorem and_31 (v : Int32) : ∃ k, k < 32 ∧ ibop 3 v 31 = nI k := by
  refine ⟨(v &&& 31).toBitVec.toNat, ?_, ?_⟩
  · rw [Int32.toBitVec_and, BitVec.toNat_and]
    exact Nat.lt_of_le_of_lt Nat.and_le_right (by decide)
  · apply Int32.toBitVec_inj.mp
    show (v &&& 31).toBitVec = (Int32.ofNat (v &&& 31).toBitVec.toNat).toBitVec
    rw [Int32.toBitVec_ofNat', BitVec.ofNat_toNat, BitVec.setWidth_eq]
theorem len7 {Ls i : Nat} (hL : Ls ≤ 3584) (hi : i ≤ 4000) (h : ¬ ibop 1 (nI Ls) 7 < nI i) : i + 7 ≤ Ls := by
  have h : ¬ nI Ls - 7 < nI i := h
  by_cases h7 : 7 ≤ Ls
  · have e : nI Ls - 7 = nI (Ls - 7) := by
      have e1 : nI Ls = nI (Ls - 7) + 7 := by
        rw [show (7 : Int32) = nI 7 from rfl, nI_add]
        congr 1
        omega
      rw [e1, Int32.add_sub_cancel]
    rw [e, nI_ltI (by omega) (by omega)] at h
    omega
  · exfalso
    have hz : nI Ls - 7 < 0 := by
      have h8 : ∀ k, k < 7 → nI k - 7 < 0 := by decide
      exact h8 Ls (by omega)
    have h0 : (0 : Int32) ≤ nI i := nI_pos' (by omega)
    exact h (Int32.lt_of_lt_of_le hz h0)
theorem cmp0 (v : Int64) : lg_cmp v v = 0 := by
  simp [lg_cmp]
