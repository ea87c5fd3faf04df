/-! THE BEGINNING -/
def F00 : FT := tbF fA2
def rw0 (a b : Nat) : Int32 := if a = 5 then (if b = 0 then 3 else 60) else 0
def A00 : LA := (0, 0, (fun g _ _ _ => 30 - g), rw0)
def s00 : ST := ((fun _ => 0), 0, (fun _ => 0), (fun _ => 0), 0, 0, 0)
def c00 : SC := (s00, (0, fun _ _ => 0), fun _ => -1)
def o00 : SG := ((0, fun _ => 0), ((fun _ => []), (fun _ => [])), A00, c00, (fun _ => (false, c00)), [])
theorem no_lt {p : Nat} {P : Prop} (h : p < 0) : P := absurd h (Nat.not_lt_zero p)
theorem wf00 : WF o00 := by
  refine ⟨⟨by decide, by decide, fun h => no_lt h, ⟨60, by decide, by decide⟩, fun p h => no_lt h, fun p h => no_lt h, fun a b h => no_lt h, ⟨fun _ _ => false, fun a h => no_lt h⟩⟩, ⟨⟨fun p h => no_lt h, fun p h => no_lt h, by decide +kernel⟩, ⟨by decide, fun i h => no_lt h⟩, fun p h => Or.inl rfl⟩, fun j hj e => ?_, fun s hs => ?_, by decide, ⟨fun i h => no_lt h, fun i h => no_lt h⟩, ⟨by decide, fun i h => no_lt h⟩⟩
  · exact Bool.noConfusion (show false = true from e)
  · cases hs
theorem f00_a : F00 5 0 1 = nI 0 ∧ F00 9 0 9 = nI 0 ∧ F00 9 0 10 = nI 0 ∧ F00 9 0 11 = 3 ∧ F00 9 0 12 = 60 ∧ F00 9 0 13 = nI 0 ∧ F00 25 0 4 = 0 ∧ F00 25 0 3 = 0 ∧ F00 25 0 5 = 0 ∧ F00 25 0 6 = 0 ∧ F00 19 1 3 = nI 0 ∧ F00 29 0 1 = nI 0 ∧ F00 29 0 2 = nI 0 := by decide +kernel
theorem f00_b : (∀ i, i < 36 → F00 28 0 i = 0) ∧ (∀ p, p < 6 → F00 24 0 p = -1) ∧ (∀ j, j < 4 → F00 23 (j + 1) 3 = b2i false) := by decide +kernel
theorem f00_c : F00 40 0 1 = nI 0 ∧ F00 42 0 0 = nI 0 ∧ F00 42 0 1 = nI 0 ∧ F00 42 0 2 = 3 ∧ F00 42 0 3 = 60 ∧ F00 50 0 0 = 0 ∧ F00 51 0 0 = nI 0 ∧ F00 70 0 0 = 0 ∧ F00 70 0 1 = 0 ∧ F00 65 0 0 = nI 0 ∧ F00 40 0 49 = nI 0 := by decide +kernel
theorem f00_d : (∀ p, p < 6 → F00 70 0 (8 + p) = 0) ∧ (∀ i, i < 36 → F00 70 0 (14 + i) = 0) ∧ (∀ p, p < 6 → F00 69 0 (6 * 0 + p) = -1) ∧ (∀ j, j < 4 → F00 75 0 j = b2i false) := by decide +kernel
theorem ci00 : CInv F00 g00 false o00 := by
  obtain ⟨a1, a2, a3, a4, a5, a6, a7, a8, a9, a10, a11, a12, a13⟩ := f00_a
  obtain ⟨b1, b2, b3⟩ := f00_b
  refine ⟨⟨a1, by decide, fun p h => no_lt h⟩, ⟨a2, a3, a4, a5, fun p h => no_lt h, fun p h => no_lt h, fun p h => no_lt h, fun p h => no_lt h, fun p h => no_lt h, 0, a6, by decide, fun i h => no_lt h, fun g t m w v0 => rfl⟩, ⟨fun i h => no_lt h, fun i h => no_lt h⟩, ⟨⟨fun p h => no_lt h, a7, fun p h => no_lt h, b1, a8, a9, ?_⟩, ⟨a11, by decide, fun p h => no_lt h, fun p h => no_lt h, fun p h => no_lt h⟩, b2⟩, fun j hj => ⟨b3 j hj, fun e => Bool.noConfusion (show false = true from e)⟩, 0, by decide, a12, a13, by decide, fun j hj => no_lt hj⟩
  show F00 25 0 6 = 0 + 0
  rw [a10]
  decide
theorem mi00 : MI2 F00 g00 o00 := by
  obtain ⟨c1, c2, c3, c4, c5, c6, c7, c8, c9, c10, c11⟩ := f00_c
  obtain ⟨d1, d2, d3, d4⟩ := f00_d
  refine ⟨⟨⟨c1, by decide, fun p h => no_lt h⟩, ⟨c2, c3, c4, c5, fun p h => no_lt h, fun p h => no_lt h, fun p h => no_lt h, fun p h => no_lt h, fun p h => no_lt h, Or.inl ⟨?_, fun g t m w => rfl⟩⟩, ⟨fun i h => no_lt h, fun i h => no_lt h⟩, ⟨⟨c8, c9, fun p h => no_lt h, fun p h => no_lt h, fun p _ hp => d1 p hp, d2⟩, ⟨c10, by decide, fun i h => no_lt h⟩, d3⟩, fun j hj => ⟨d4 j hj, fun e => Bool.noConfusion (show false = true from e)⟩, c11, by decide, fun j hj => no_lt hj⟩, [], ⟨c6, c7, by decide, fun i hi => no_lt hi⟩, Or.inl ⟨rfl, fun g t m w => rfl⟩⟩
  rw [c6, c7]
  decide
def klen (k : Nat) : Nat := if (kt k).1 = 0 then (kt k).2.2.length else if (kt k).1 = 5 then (kt k).2.1 else 0
theorem r00 : ((List.range 82).all fun k => (List.range (cn 0 k)).all fun n => (List.range (klen k)).all fun j => !(rK k j) || decide (tbR rA2 k n j = Rs false k n j)) = true := by decide +kernel
theorem cn_big {k : Nat} (h : 82 ≤ k) : cn 0 k = 0 := by
  unfold cn
  split
  · rfl
  · have h2 : cnt0.length ≤ k := h
    simp [List.getD, List.getElem?_eq_none h2]
theorem ah00 : Ah (cC 0, F00, g00, Rs false) (den aH4) := by
  refine ⟨?_, fun k n j hn hv => ⟨rfl, rfl, fun hr => ?_⟩⟩
  · show ((223, cnL aH4.1.2) : CT) = (223, cn 0)
    refine Prod.ext rfl ?_
    funext k
    rfl
  · have hn : n < cn 0 k := hn
    by_cases hk : k < 82
    · have hj : j < klen k := by
        unfold vld at hv
        unfold rK at hr
        unfold klen
        by_cases h0 : (kt k).1 = 0
        · rw [if_pos h0] at hv ⊢
          exact hv
        · rw [if_neg h0] at hv hr ⊢
          rw [if_pos (of_decide_eq_true hr)]
          exact hv
      have h1 := List.all_eq_true.mp r00 k (List.mem_range.mpr hk)
      have h2 := List.all_eq_true.mp h1 n (List.mem_range.mpr hn)
      have h3 := List.all_eq_true.mp h2 j (List.mem_range.mpr hj)
      rw [hr] at h3
      have h4 : tbR rA2 k n j = Rs false k n j := by simpa using h3
      exact h4
    · rw [cn_big (by omega)] at hn
      exact no_lt hn
/-- what the one does leaves the other -/
theorem CPost.m {b : Bool} {o o2 : SG} {F F2 : FT} {G G2 : GT} (h : CPost b o F G F2 G2) (hm : MI2 F G o2) : MI2 F2 G2 o2 := by
  obtain ⟨-, hf, hG⟩ := h
  have kF : ∀ k, 40 ≤ k → F2 k = F k := fun k hk => by
    funext n
    exact hf k n (by simp only [dCl, decide_eq_false_iff_not]; omega)
  obtain ⟨⟨i1, i2, i3, i4, i5, i6⟩, i7⟩ := hm
  refine ⟨⟨?_, i2.fr (fun k a b => kF k (by omega)), ?_, ⟨?_, i4.2.1.fr (fun k a b => kF k (by omega)), ?_⟩, i5.fr (fun k a b => kF k (by omega)) (kF 73 (by omega)) (kF 75 (by omega)), i6.fr (by rw [kF 40 (by omega)]) (kF 74 (by omega))⟩, i7.fr (by rw [kF 50 (by omega)]) (by rw [kF 51 (by omega)]) (fun i _ => by rw [kF 52 (by omega)])⟩
  · unfold MTp
    rw [kF 40 (by omega), kF 41 (by omega)]
    exact i1
  · unfold MNm
    rw [hG 43 (by omega), hG 44 (by omega)]
    exact i3
  · rw [kF 70 (by omega)]
    exact i4.1
  · rw [kF 69 (by omega)]
    exact i4.2.2
theorem CInv.fm {b : Bool} {o : SG} {F F2 : FT} {G G2 : GT} (h : CInv F G b o) (kF : ∀ k, k < 40 → F2 k = F k) (kG : ∀ k, k < 40 → G2 k = G k) : CInv F2 G2 b o := by
  obtain ⟨h1, h2, h3, h4, h5, h6⟩ := h
  refine ⟨h1.fr (by rw [kF 5 (by omega)]) (by rw [kF 6 (by omega)]), h2.fr (fun k a b => by rw [kF k (by omega)]), ?_, h4.fr (fun k a b => by rw [kF k (by omega)]) (fun k a b => by rw [kF k (by omega)]), h5.fr (fun m _ => by rw [kF 23 (by omega)]) (fun k m a b _ _ => by rw [kF k (by omega)]) (fun k m a b _ => by rw [kF k (by omega)]), h6.fr (fun k m a b _ _ => by rw [kF k (by omega)]) (by rw [kF 29 (by omega)])⟩
  unfold CNm
  rw [kG 10 (by omega), kG 12 (by omega)]
  exact h3
theorem MP2.c {b : Bool} {o o2 : SG} {F F2 : FT} {G G2 : GT} (h : MP2 o2 F G F2 G2) (hc : CInv F G b o) : CInv F2 G2 b o := by
  obtain ⟨-, hf, hG⟩ := h
  exact hc.fm (fun k hk => hf k (by simp only [dM4, Bool.and_eq_false_iff, decide_eq_false_iff_not]; omega)) (fun k hk => hG k (by omega) (by omega) (by omega))
