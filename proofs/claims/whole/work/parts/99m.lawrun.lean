/-! THE LAW'S RUN, from its entry -/
def lTi : List (Nat × Ent) := [(0, 39, 1, 0, z0, 3), (3, 23, 0, 0, z0, 4), (4, 34, 85, 1, vr 1 0, 7), (7, 7, 1, 0, z0, 8), (8, 39, 40, 0, z0, 11), (11, 23, 0, 0, z0, 12), (12, 34, 128, 1, vr 40 0, 15), (15, 7, 2, 0, z0, 16), (16, 0, 0, 0, vi (1), 17), (17, 40, 81, 0, z0, 19), (19, 7, 3, 0, z0, 20), (20, 0, 0, 0, z0, 21), (21, 5, 4, 0, z0, 23)]
theorem lk_i : subT lTi = true := by decide +kernel
def aHe : AH := ((0, List.replicate 82 0), [], [])
def LH (E : EV) (d pc : Nat) (L : LL) (st : List PV) (a : AH) (n : Nat) : Prop := ∃ t, Tm E d 252 pc L st (den a).1 (den a).2.1 (den a).2.2.1 (den a).2.2.2 (some (vi 1)) t ∧ t.1.1 = 223 ∧ t.1.2 1000 ≤ n
section LI
variable {E : EV} {d pc a q q1 n nA : Nat} {z : PV} {L L1 : LL} {st st1 : List PV} {h h1 : AH}
theorem lh_run : ∀ (k : Nat) {pc : Nat} {L : LL} {st : List PV}, prT lTi k pc L st = some (q1, L1, st1) → LH E d q1 L1 st1 h n → LH E d pc L st h n
  | 0, pc, L, st, hh, kk => by
    simp only [prT, Option.some.injEq, Prod.mk.injEq] at hh
    obtain ⟨rfl, rfl, rfl⟩ := hh
    exact kk
  | k + 1, pc, L, st, hh, kk => by
    unfold prT at hh
    split at hh
    · rename_i op a b z q he
      split at hh
      · rename_i ho
        split at hh
        · rename_i hs
          obtain ⟨t, k1, k2, k3⟩ := lh_run k hh kk
          exact ⟨t, t_p (subT_at lk_i he) (by omega) hs k1, k2, k3⟩
        · cases hh
      · cases hh
    · cases hh
theorem lh_h {op c e : Nat} (he : lTi.lookup pc = some (op, c, e, z, q)) (ho : 29 ≤ op ∧ op ≠ 34 ∧ op ≠ 45 ∧ op ≠ 35 ∧ op ≠ 36 ∧ op < 44) (hs : hstA op c e q st h = some (q1, st1, h1)) (kk : LH E d q1 L st1 h1 n) : LH E d pc L st h n := by
  obtain ⟨t, k1, k2, k3⟩ := kk
  exact ⟨t, t_h (subT_at lk_i he) ho (hstA_ok hs) k1, k2, k3⟩
theorem lh_call {as : List PV} (nA : Nat) (he : lTi.lookup pc = some (34, a, nA, z, q)) (hd : 0 < d) (hl : nA ≤ st.length) (has : (st.take nA).reverse = as) (hcat : ((st.drop nA).map catP).sum ≤ 8) (hen : (entG as).length ≤ mx a) (hr : recv z nA (den h) as = true) {f : Nat} (hC : execA f (d - 1) a 0 (entL a as) [] h = some (none, h1)) (kk : LH E d q L (st.drop nA) h1 n) : LH E d pc L st h n := by
  obtain ⟨t, k1, k2, k3⟩ := kk
  exact ⟨t, t_call nA (subT_at lk_i he) hd hl has hcat hen hr rfl ⟨f, execA_ok _ _ _ _ _ _ _ _ _ hC⟩ rfl k1, k2, k3⟩
end LI
theorem law_run {Ls : Nat} {xs : Nat → Int32} (hL : Ls ≤ 3584) : LH (Ls, xs, orcL) 400 0 [some (vr 0 0), none, none, none, none, none, none] [] aHe 600 := by
  refine lh_h (h1 := aH0) (st1 := [vr 1 0]) (q1 := 3) rfl (by decide) (by rfl) ?_
  refine lh_run 1 rfl ?_
  refine lh_call 1 rfl (by decide) (Nat.le_of_ble_eq_true rfl) rfl (Nat.le_of_ble_eq_true rfl) (Nat.le_of_ble_eq_true rfl) (by rfl) (isA_ok con_1) ?_
  refine lh_run 1 rfl ?_
  refine lh_h (h1 := aH2) (st1 := [vr 40 0]) (q1 := 11) rfl (by decide) (by rfl) ?_
  refine lh_run 1 rfl ?_
  refine lh_call 1 rfl (by decide) (Nat.le_of_ble_eq_true rfl) rfl (Nat.le_of_ble_eq_true rfl) (Nat.le_of_ble_eq_true rfl) (by rfl) (isA_ok con_2) ?_
  refine lh_run 2 rfl ?_
  refine lh_h (h1 := aH4) (st1 := [vr 81 0]) (q1 := 19) rfl (by decide) (by rfl) ?_
  refine lh_run 3 rfl ?_
  obtain ⟨t, k1, k2, k3⟩ := lt_loop (E := (Ls, xs, orcL)) (d := 400) (N := 600) rfl hL (by decide) 513 0 0 F00 g00 false o00 (by omega) (by show Ls ≤ 0 + 7 * 513 + 6; omega) (by omega) ci00 mi00 wf00
  obtain ⟨t2, m1, m2⟩ := t_ah (C := cC 0) (C2 := (den aH4).1) (F := F00) (F2 := (den aH4).2.1) (G := g00) (G2 := (den aH4).2.2.1) (R := Rs false) (R2 := (den aH4).2.2.2) orcL_H ah00 k1
  refine ⟨t2, m1, ?_, ?_⟩
  · rw [m2.1]; exact k2
  · rw [m2.1]; exact k3
