/-! RUNS OF THE PLAIN MACHINE: 'Tm' and its rules -/
theorem exec_fuel {Ls : Nat} {xs : Nat → Int32} {orc : Orc} : ∀ (f d m pc : Nat) (L : LL) (st : List PV) (h : HS) (x : Option PV × HS), exec Ls xs orc f d m pc L st h = some x → exec Ls xs orc (f + 1) d m pc L st h = some x := by
  intro f
  induction f with
  | zero => intro d m pc L st h x hg; simp [exec] at hg
  | succ f ih =>
    intro d m pc L st h x hg
    unfold exec at hg ⊢
    split at hg
    · cases hg
    · rename_i op a b z q hc
      split at hg
      · rename_i h1
        rw [if_pos h1]
        split at hg
        · rename_i he
          try rw [he]
          exact ih _ _ _ _ _ _ _ hg
        · cases hg
      · rename_i h1
        rw [if_neg h1]
        split at hg
        · rename_i h2
          rw [if_pos h2]
          split at hg
          · cases hg
          · rename_i d1
            split at hg
            · rename_i h3
              simp only [if_pos h3]
              split at hg
              · rename_i r1 h1 he
                rw [ih _ _ _ _ _ _ _ he]
                exact ih _ _ _ _ _ _ _ hg
              · cases hg
            · cases hg
        · rename_i h2
          rw [if_neg h2]
          split at hg
          · rename_i h3
            rw [if_pos h3]
            split at hg
            · cases hg
            · split at hg
              · rename_i h4
                simp only [if_pos h4]
                split at hg
                · rename_i he
                  try rw [he]
                  exact ih _ _ _ _ _ _ _ hg
                · cases hg
              · cases hg
          · rename_i h3
            rw [if_neg h3]
            split at hg
            · rename_i h4
              rw [if_pos h4]
              exact hg
            · rename_i h4
              rw [if_neg h4]
              split at hg
              · rename_i h5
                rw [if_pos h5]
                exact hg
              · rename_i h5
                rw [if_neg h5]
                split at hg
                · cases hg
                · rename_i h6
                  rw [if_neg h6]
                  split at hg
                  · rename_i he
                    try rw [he]
                    exact ih _ _ _ _ _ _ _ hg
                  · cases hg
theorem exec_more {Ls : Nat} {xs : Nat → Int32} {orc : Orc} {f g d m pc : Nat} {L : LL} {st : List PV} {h : HS} {x : Option PV × HS} (hfg : f ≤ g) (hg : exec Ls xs orc f d m pc L st h = some x) : exec Ls xs orc g d m pc L st h = some x := by
  induction g with
  | zero =>
    have h0 : f = 0 := by omega
    rw [h0] at hg
    exact hg
  | succ g ih =>
    by_cases h1 : f = g + 1
    · rw [← h1]; exact hg
    · exact exec_fuel _ _ _ _ _ _ _ _ (ih (by omega))
abbrev EV : Type := Nat × ((Nat → Int32) × Orc)
abbrev CT : Type := Nat × (Nat → Nat)
/-- from here the run ends with the answer r and the heap t -/
def Tm (E : EV) (d m pc : Nat) (L : LL) (st : List PV) (C : CT) (F : FT) (G : GT) (R : RT) (r : Option PV) (t : HS) : Prop := ∃ f, exec E.1 E.2.1 E.2.2 f d m pc L st (C, F, G, R) = some (r, t)
section TR
variable {E : EV} {d m pc op a b q q1 k n j K : Nat} {z : PV} {L L1 : LL} {st st1 : List PV} {C : CT} {F : FT} {G : GT} {R : RT} {r : Option PV} {t : HS} {x y i : Int32}
theorem t_p (hc : cod m pc = some (op, a, b, z, q)) (ho : op < 29) (hs : pst op a b z q L st = some (q1, L1, st1)) (kk : Tm E d m q1 L1 st1 C F G R r t) : Tm E d m pc L st C F G R r t := by
  obtain ⟨f, hf⟩ := kk
  refine ⟨f + 1, ?_⟩
  unfold exec
  rw [hc]
  simp only [if_pos ho, hs]
  exact hf
theorem t_h (hc : cod m pc = some (op, a, b, z, q)) (ho : 29 ≤ op ∧ op ≠ 34 ∧ op ≠ 45 ∧ op ≠ 35 ∧ op ≠ 36 ∧ op < 44) {C1 : CT} {F1 : FT} {G1 : GT} {R1 : RT} (hs : hst E.1 E.2.1 op a b q st (C, F, G, R) = some (q1, st1, (C1, F1, G1, R1))) (kk : Tm E d m q1 L st1 C1 F1 G1 R1 r t) : Tm E d m pc L st C F G R r t := by
  obtain ⟨f, hf⟩ := kk
  refine ⟨f + 1, ?_⟩
  unfold exec
  rw [hc]
  simp only
  rw [if_neg (by omega), if_neg ho.2.1, if_neg ho.2.2.1, if_neg ho.2.2.2.1, if_neg ho.2.2.2.2.1, if_neg (by omega), hs]
  exact hf
theorem t_h1 (hc : cod m pc = some (op, a, b, z, q)) (ho : 29 ≤ op ∧ op ≠ 34 ∧ op ≠ 45 ∧ op ≠ 35 ∧ op ≠ 36) (hd : 0 < d) {C1 : CT} {F1 : FT} {G1 : GT} {R1 : RT} (hs : hst E.1 E.2.1 op a b q st (C, F, G, R) = some (q1, st1, (C1, F1, G1, R1))) (kk : Tm E d m q1 L st1 C1 F1 G1 R1 r t) : Tm E d m pc L st C F G R r t := by
  obtain ⟨f, hf⟩ := kk
  refine ⟨f + 1, ?_⟩
  unfold exec
  rw [hc]
  simp only
  rw [if_neg (by omega), if_neg ho.2.1, if_neg ho.2.2.1, if_neg ho.2.2.2.1, if_neg ho.2.2.2.2, if_neg (by omega), hs]
  exact hf
/-- some steps without heap and without branches -/
def prun : Nat → Nat → Nat → LL → List PV → Option (Nat × (LL × List PV))
  | 0, _, pc, L, st => some (pc, L, st)
  | k + 1, m, pc, L, st => match cod m pc with
    | some (op, a, b, z, q) => if op < 27 then match pst op a b z q L st with
        | some (q1, L1, st1) => prun k m q1 L1 st1
        | none => none
      else none
    | none => none
theorem t_run : ∀ (k : Nat) {pc : Nat} {L : LL} {st : List PV}, prun k m pc L st = some (q1, L1, st1) → Tm E d m q1 L1 st1 C F G R r t → Tm E d m pc L st C F G R r t
  | 0, pc, L, st, h, kk => by
    simp only [prun, Option.some.injEq, Prod.mk.injEq] at h
    obtain ⟨rfl, rfl, rfl⟩ := h
    exact kk
  | k + 1, pc, L, st, h, kk => by
    unfold prun at h
    split at h
    · rename_i hc
      split at h
      · rename_i ho
        split at h
        · rename_i hs
          exact t_p hc (by omega) hs (t_run k h kk)
        · cases h
      · cases h
    · cases h
theorem t_if_eq (hc : cod m pc = some (27, 0, b, z, q)) (kt : (x = 0) → Tm E d m b L st C F G R r t) (kf : (¬ x = 0) → Tm E d m q L st C F G R r t) : Tm E d m pc L (vi x :: st) C F G R r t := by
  by_cases h : x = 0
  · exact t_p hc (by decide) (by simp only [pst]; rw [if_pos (by simpa [cnd] using h)]) (kt h)
  · exact t_p hc (by decide) (by simp only [pst]; rw [if_neg (by simpa [cnd] using h)]) (kf (by simpa using h))
theorem t_ic_eq (hc : cod m pc = some (28, 0, b, z, q)) (kt : (x = y) → Tm E d m b L st C F G R r t) (kf : (¬ x = y) → Tm E d m q L st C F G R r t) : Tm E d m pc L (vi y :: vi x :: st) C F G R r t := by
  by_cases h : x = y
  · exact t_p hc (by decide) (by simp only [pst]; rw [if_pos (by simpa [cnd] using h)]) (kt h)
  · exact t_p hc (by decide) (by simp only [pst]; rw [if_neg (by simpa [cnd] using h)]) (kf (by simpa using h))
theorem t_if_ne (hc : cod m pc = some (27, 1, b, z, q)) (kt : (¬ x = 0) → Tm E d m b L st C F G R r t) (kf : (x = 0) → Tm E d m q L st C F G R r t) : Tm E d m pc L (vi x :: st) C F G R r t := by
  by_cases h : ¬ x = 0
  · exact t_p hc (by decide) (by simp only [pst]; rw [if_pos (by simpa [cnd] using h)]) (kt h)
  · exact t_p hc (by decide) (by simp only [pst]; rw [if_neg (by simpa [cnd] using h)]) (kf (by simpa using h))
theorem t_ic_ne (hc : cod m pc = some (28, 1, b, z, q)) (kt : (¬ x = y) → Tm E d m b L st C F G R r t) (kf : (x = y) → Tm E d m q L st C F G R r t) : Tm E d m pc L (vi y :: vi x :: st) C F G R r t := by
  by_cases h : ¬ x = y
  · exact t_p hc (by decide) (by simp only [pst]; rw [if_pos (by simpa [cnd] using h)]) (kt h)
  · exact t_p hc (by decide) (by simp only [pst]; rw [if_neg (by simpa [cnd] using h)]) (kf (by simpa using h))
theorem t_if_lt (hc : cod m pc = some (27, 2, b, z, q)) (kt : (x < 0) → Tm E d m b L st C F G R r t) (kf : (¬ x < 0) → Tm E d m q L st C F G R r t) : Tm E d m pc L (vi x :: st) C F G R r t := by
  by_cases h : x < 0
  · exact t_p hc (by decide) (by simp only [pst]; rw [if_pos (by simpa [cnd] using h)]) (kt h)
  · exact t_p hc (by decide) (by simp only [pst]; rw [if_neg (by simpa [cnd] using h)]) (kf (by simpa using h))
theorem t_ic_lt (hc : cod m pc = some (28, 2, b, z, q)) (kt : (x < y) → Tm E d m b L st C F G R r t) (kf : (¬ x < y) → Tm E d m q L st C F G R r t) : Tm E d m pc L (vi y :: vi x :: st) C F G R r t := by
  by_cases h : x < y
  · exact t_p hc (by decide) (by simp only [pst]; rw [if_pos (by simpa [cnd] using h)]) (kt h)
  · exact t_p hc (by decide) (by simp only [pst]; rw [if_neg (by simpa [cnd] using h)]) (kf (by simpa using h))
theorem t_if_ge (hc : cod m pc = some (27, 3, b, z, q)) (kt : (0 ≤ x) → Tm E d m b L st C F G R r t) (kf : (¬ 0 ≤ x) → Tm E d m q L st C F G R r t) : Tm E d m pc L (vi x :: st) C F G R r t := by
  by_cases h : 0 ≤ x
  · exact t_p hc (by decide) (by simp only [pst]; rw [if_pos (by simpa [cnd] using h)]) (kt h)
  · exact t_p hc (by decide) (by simp only [pst]; rw [if_neg (by simpa [cnd] using h)]) (kf (by simpa using h))
theorem t_ic_ge (hc : cod m pc = some (28, 3, b, z, q)) (kt : (y ≤ x) → Tm E d m b L st C F G R r t) (kf : (¬ y ≤ x) → Tm E d m q L st C F G R r t) : Tm E d m pc L (vi y :: vi x :: st) C F G R r t := by
  by_cases h : y ≤ x
  · exact t_p hc (by decide) (by simp only [pst]; rw [if_pos (by simpa [cnd] using h)]) (kt h)
  · exact t_p hc (by decide) (by simp only [pst]; rw [if_neg (by simpa [cnd] using h)]) (kf (by simpa using h))
theorem t_if_gt (hc : cod m pc = some (27, 4, b, z, q)) (kt : (0 < x) → Tm E d m b L st C F G R r t) (kf : (¬ 0 < x) → Tm E d m q L st C F G R r t) : Tm E d m pc L (vi x :: st) C F G R r t := by
  by_cases h : 0 < x
  · exact t_p hc (by decide) (by simp only [pst]; rw [if_pos (by simpa [cnd] using h)]) (kt h)
  · exact t_p hc (by decide) (by simp only [pst]; rw [if_neg (by simpa [cnd] using h)]) (kf (by simpa using h))
theorem t_ic_gt (hc : cod m pc = some (28, 4, b, z, q)) (kt : (y < x) → Tm E d m b L st C F G R r t) (kf : (¬ y < x) → Tm E d m q L st C F G R r t) : Tm E d m pc L (vi y :: vi x :: st) C F G R r t := by
  by_cases h : y < x
  · exact t_p hc (by decide) (by simp only [pst]; rw [if_pos (by simpa [cnd] using h)]) (kt h)
  · exact t_p hc (by decide) (by simp only [pst]; rw [if_neg (by simpa [cnd] using h)]) (kf (by simpa using h))
theorem t_if_le (hc : cod m pc = some (27, 5, b, z, q)) (kt : (x ≤ 0) → Tm E d m b L st C F G R r t) (kf : (¬ x ≤ 0) → Tm E d m q L st C F G R r t) : Tm E d m pc L (vi x :: st) C F G R r t := by
  by_cases h : x ≤ 0
  · exact t_p hc (by decide) (by simp only [pst]; rw [if_pos (by simpa [cnd] using h)]) (kt h)
  · exact t_p hc (by decide) (by simp only [pst]; rw [if_neg (by simpa [cnd] using h)]) (kf (by simpa using h))
theorem t_ic_le (hc : cod m pc = some (28, 5, b, z, q)) (kt : (x ≤ y) → Tm E d m b L st C F G R r t) (kf : (¬ x ≤ y) → Tm E d m q L st C F G R r t) : Tm E d m pc L (vi y :: vi x :: st) C F G R r t := by
  by_cases h : x ≤ y
  · exact t_p hc (by decide) (by simp only [pst]; rw [if_pos (by simpa [cnd] using h)]) (kt h)
  · exact t_p hc (by decide) (by simp only [pst]; rw [if_neg (by simpa [cnd] using h)]) (kf (by simpa using h))
theorem t_gI (hc : cod m pc = some (29, K, j, z, q)) (hn : n < C.2 K) (hk : ((K == 90) = false ∧ (kt K).1 = 0 ∧ ((kt K).2.2[j]? = some (0, 0) ∨ (kt K).2.2[j]? = some (3, 0)))) (kk : Tm E d m q L (vi (F K n j) :: st) C F G R r t) : Tm E d m pc L (vr K n :: st) C F G R r t := by
  obtain ⟨h1, h2, h3⟩ := hk
  have h1 : ¬ K = 90 := by simpa using h1
  refine t_h hc (by decide) (C1 := C) (F1 := F) (G1 := G) (R1 := R) ?_ kk
  rcases h3 with h3 | h3 <;> simp [hst, gfd, h1, h2, h3, hn]
theorem t_gL (hc : cod m pc = some (29, K, j, z, q)) (hn : n < C.2 K) (hk : ((K == 90) = false ∧ (kt K).1 = 0 ∧ (kt K).2.2[j]? = some (1, 0))) (kk : Tm E d m q L (vl (G K n j) :: st) C F G R r t) : Tm E d m pc L (vr K n :: st) C F G R r t := by
  obtain ⟨h1, h2, h3⟩ := hk
  have h1 : ¬ K = 90 := by simpa using h1
  refine t_h hc (by decide) (C1 := C) (F1 := F) (G1 := G) (R1 := R) ?_ kk
  simp [hst, gfd, h1, h2, h3, hn]
theorem t_gR {rk n2 : Nat} (hc : cod m pc = some (29, K, j, z, q)) (hn : n < C.2 K) (hk : ((K == 90) = false ∧ (kt K).1 = 0 ∧ (kt K).2.2[j]? = some (2, rk))) (hR : R K n j = some n2) (kk : Tm E d m q L (vr rk n2 :: st) C F G R r t) : Tm E d m pc L (vr K n :: st) C F G R r t := by
  obtain ⟨h1, h2, h3⟩ := hk
  have h1 : ¬ K = 90 := by simpa using h1
  refine t_h hc (by decide) (C1 := C) (F1 := F) (G1 := G) (R1 := R) ?_ kk
  simp [hst, gfd, h1, h2, h3, hn, hR]
theorem t_gS (hc : cod m pc = some (29, 90, j, z, q)) (hn : n < 26) {v : PV} (hv : (if j = 0 then some (vr 91 n) else some (vi 0)) = some v) (kk : Tm E d m q L (v :: st) C F G R r t) : Tm E d m pc L (vr 90 n :: st) C F G R r t := by
  refine t_h hc (by decide) (C1 := C) (F1 := F) (G1 := G) (R1 := R) ?_ kk
  simp [hst, gfd, hn, hv]
theorem t_pI (hc : cod m pc = some (30, K, j, z, q)) (hn : n < C.2 K) (hk : (kt K).1 = 0 ∧ (kt K).2.2[j]? = some (0, 0)) (kk : Tm E d m q L st C (uF F K n j x) G R r t) : Tm E d m pc L (vi x :: vr K n :: st) C F G R r t := by
  obtain ⟨h2, h3⟩ := hk
  refine t_h hc (by decide) (C1 := C) (F1 := uF F K n j x) (G1 := G) (R1 := R) ?_ kk
  simp [hst, pfd, h2, h3, hn]
theorem t_pZ (hc : cod m pc = some (30, K, j, z, q)) (hn : n < C.2 K) (hk : (kt K).1 = 0 ∧ (kt K).2.2[j]? = some (3, 0)) (h01 : x = 0 ∨ x = 1) (kk : Tm E d m q L st C (uF F K n j x) G R r t) : Tm E d m pc L (vi x :: vr K n :: st) C F G R r t := by
  obtain ⟨h2, h3⟩ := hk
  refine t_h hc (by decide) (C1 := C) (F1 := uF F K n j x) (G1 := G) (R1 := R) ?_ kk
  simp [hst, pfd, h2, h3, hn, h01]
theorem t_pL {w : Int64} (hc : cod m pc = some (30, K, j, z, q)) (hn : n < C.2 K) (hk : (kt K).1 = 0 ∧ (kt K).2.2[j]? = some (1, 0)) (kk : Tm E d m q L st C F (uG G K n j w) R r t) : Tm E d m pc L (vl w :: vr K n :: st) C F G R r t := by
  obtain ⟨h2, h3⟩ := hk
  refine t_h hc (by decide) (C1 := C) (F1 := F) (G1 := uG G K n j w) (R1 := R) ?_ kk
  simp [hst, pfd, h2, h3, hn]
theorem t_pR {rk n2 : Nat} (hc : cod m pc = some (30, K, j, z, q)) (hn : n < C.2 K) (hk : (kt K).1 = 0 ∧ (kt K).2.2[j]? = some (2, rk)) (hn2 : n2 < C.2 rk) (kk : Tm E d m q L st C F G (uR R K n j (some n2)) r t) : Tm E d m pc L (vr rk n2 :: vr K n :: st) C F G R r t := by
  obtain ⟨h2, h3⟩ := hk
  refine t_h hc (by decide) (C1 := C) (F1 := F) (G1 := G) (R1 := uR R K n j (some n2)) ?_ kk
  simp [hst, pfd, h2, h3, hn, hn2]
theorem inb_nI {j N : Nat} (hj : j < N) (hN : N ≤ 100000) : inb (nI j) N = true := by
  have h := nI_in hj (by omega)
  simp only [inb, Bool.not_eq_true', Bool.or_eq_false_iff, decide_eq_false_iff_not]
  exact ⟨fun q => h (Or.inl q), fun q => h (Or.inr q)⟩
/-- reads of rows of ints (1), chars (2), booleans (3) -/
theorem t_ia (hc : cod m pc = some (31, a, b, z, q)) (ha : 1 ≤ a ∧ a ≤ 3) (hn : n < C.2 k) {N : Nat} (hk : ((k == 0) = false ∧ (k == 91) = false) ∧ (kt k).1 = a ∧ (kt k).2.1 = N) (hj : j < N) (hi : i = nI j) (kk : Tm E d m q L (vi (F k n j) :: st) C F G R r t) : Tm E d m pc L (vi i :: vr k n :: st) C F G R r t := by
  obtain ⟨⟨h1, h2⟩, h3, h4⟩ := hk
  have h1 : ¬ k = 0 := by simpa using h1
  have h2 : ¬ k = 91 := by simpa using h2
  have hN : N ≤ 2000 := by rw [← h4]; exact kt_len k
  subst hi
  have hcl : (nI j).toNatClampNeg = j := nI_clamp (by omega)
  refine t_h hc (by decide) (C1 := C) (F1 := F) (G1 := G) (R1 := R) ?_ kk
  have h5 : a = 1 ∨ a = 2 ∨ a = 3 := by omega
  rcases h5 with rfl | rfl | rfl <;> simp [hst, ald, h1, h2, h3, h4, hn, inb_nI hj (by omega), hcl]
theorem t_la (hc : cod m pc = some (31, 4, b, z, q)) (hn : n < C.2 k) {N : Nat} (hk : ((k == 0) = false ∧ (k == 91) = false) ∧ (kt k).1 = 4 ∧ (kt k).2.1 = N) (hj : j < N) (hi : i = nI j) (kk : Tm E d m q L (vl (G k n j) :: st) C F G R r t) : Tm E d m pc L (vi i :: vr k n :: st) C F G R r t := by
  obtain ⟨⟨h1, h2⟩, h3, h4⟩ := hk
  have h1 : ¬ k = 0 := by simpa using h1
  have h2 : ¬ k = 91 := by simpa using h2
  have hN : N ≤ 2000 := by rw [← h4]; exact kt_len k
  subst hi
  have hcl : (nI j).toNatClampNeg = j := nI_clamp (by omega)
  refine t_h hc (by decide) (C1 := C) (F1 := F) (G1 := G) (R1 := R) ?_ kk
  simp [hst, ald, h1, h2, h3, h4, hn, inb_nI hj (by omega), hcl]
theorem t_ra {rk n2 : Nat} (hc : cod m pc = some (31, 5, b, z, q)) (hn : n < C.2 k) {N : Nat} (hk : ((k == 0) = false ∧ (k == 91) = false) ∧ (kt k).1 = 5 ∧ (kt k).2.1 = N ∧ (kt k).2.2 = [(2, rk)]) (hj : j < N) (hi : i = nI j) (hR : R k n j = some n2) (kk : Tm E d m q L (vr rk n2 :: st) C F G R r t) : Tm E d m pc L (vi i :: vr k n :: st) C F G R r t := by
  obtain ⟨⟨h1, h2⟩, h3, h4, h5⟩ := hk
  have h1 : ¬ k = 0 := by simpa using h1
  have h2 : ¬ k = 91 := by simpa using h2
  have hN : N ≤ 2000 := by rw [← h4]; exact kt_len k
  subst hi
  have hcl : (nI j).toNatClampNeg = j := nI_clamp (by omega)
  refine t_h hc (by decide) (C1 := C) (F1 := F) (G1 := G) (R1 := R) ?_ kk
  simp [hst, ald, h1, h2, h3, h4, h5, hn, inb_nI hj (by omega), hcl, hR]
/-- the script -/
theorem t_sa (hc : cod m pc = some (31, 1, b, z, q)) (hj : j < E.1) (hE : E.1 ≤ 100000) (hi : i = nI j) (kk : Tm E d m q L (vi (E.2.1 j) :: st) C F G R r t) : Tm E d m pc L (vi i :: vr 0 0 :: st) C F G R r t := by
  subst hi
  have hcl : (nI j).toNatClampNeg = j := nI_clamp (by omega)
  refine t_h hc (by decide) (C1 := C) (F1 := F) (G1 := G) (R1 := R) ?_ kk
  simp [hst, ald, inb_nI hj hE, hcl]
/-- a text constant's byte -/
theorem t_ba (hc : cod m pc = some (31, 3, b, z, q)) (hn : n < 26) (hj : j < (sby n).length) (hl : (sby n).length ≤ 100000) (hi : i = nI j) (kk : Tm E d m q L (vi ((sby n).getD j 0) :: st) C F G R r t) : Tm E d m pc L (vi i :: vr 91 n :: st) C F G R r t := by
  subst hi
  have hcl : (nI j).toNatClampNeg = j := nI_clamp (by omega)
  refine t_h hc (by decide) (C1 := C) (F1 := F) (G1 := G) (R1 := R) ?_ kk
  simp [hst, ald, hn, inb_nI hj hl, hcl]
theorem t_is (hc : cod m pc = some (32, 1, b, z, q)) (hn : n < C.2 k) {N : Nat} (hk : (kt k).1 = 1 ∧ (kt k).2.1 = N) (hj : j < N) (hi : i = nI j) (kk : Tm E d m q L st C (uF F k n j x) G R r t) : Tm E d m pc L (vi x :: vi i :: vr k n :: st) C F G R r t := by
  obtain ⟨h3, h4⟩ := hk
  have hN : N ≤ 2000 := by rw [← h4]; exact kt_len k
  subst hi
  have hcl : (nI j).toNatClampNeg = j := nI_clamp (by omega)
  refine t_h hc (by decide) (C1 := C) (F1 := uF F k n j x) (G1 := G) (R1 := R) ?_ kk
  simp [hst, ast, h3, h4, hn, inb_nI hj (by omega), hcl]
theorem t_cs (hc : cod m pc = some (32, 2, b, z, q)) (hn : n < C.2 k) {N : Nat} (hk : (kt k).1 = 2 ∧ (kt k).2.1 = N) (hj : j < N) (hi : i = nI j) (kk : Tm E d m q L st C (uF F k n j (vp_nar .char x)) G R r t) : Tm E d m pc L (vi x :: vi i :: vr k n :: st) C F G R r t := by
  obtain ⟨h3, h4⟩ := hk
  have hN : N ≤ 2000 := by rw [← h4]; exact kt_len k
  subst hi
  have hcl : (nI j).toNatClampNeg = j := nI_clamp (by omega)
  refine t_h hc (by decide) (C1 := C) (F1 := uF F k n j (vp_nar .char x)) (G1 := G) (R1 := R) ?_ kk
  simp [hst, ast, h3, h4, hn, inb_nI hj (by omega), hcl]
theorem t_zs (hc : cod m pc = some (32, 3, b, z, q)) (hn : n < C.2 k) {N : Nat} (hk : (kt k).1 = 3 ∧ (kt k).2.1 = N) (hj : j < N) (hi : i = nI j) (h01 : x = 0 ∨ x = 1) (kk : Tm E d m q L st C (uF F k n j x) G R r t) : Tm E d m pc L (vi x :: vi i :: vr k n :: st) C F G R r t := by
  obtain ⟨h3, h4⟩ := hk
  have hN : N ≤ 2000 := by rw [← h4]; exact kt_len k
  subst hi
  have hcl : (nI j).toNatClampNeg = j := nI_clamp (by omega)
  refine t_h hc (by decide) (C1 := C) (F1 := uF F k n j x) (G1 := G) (R1 := R) ?_ kk
  simp [hst, ast, h3, h4, hn, inb_nI hj (by omega), hcl, h01]
theorem t_ls {w : Int64} (hc : cod m pc = some (32, 4, b, z, q)) (hn : n < C.2 k) {N : Nat} (hk : (kt k).1 = 4 ∧ (kt k).2.1 = N) (hj : j < N) (hi : i = nI j) (kk : Tm E d m q L st C F (uG G k n j w) R r t) : Tm E d m pc L (vl w :: vi i :: vr k n :: st) C F G R r t := by
  obtain ⟨h3, h4⟩ := hk
  have hN : N ≤ 2000 := by rw [← h4]; exact kt_len k
  subst hi
  have hcl : (nI j).toNatClampNeg = j := nI_clamp (by omega)
  refine t_h hc (by decide) (C1 := C) (F1 := F) (G1 := uG G k n j w) (R1 := R) ?_ kk
  simp [hst, ast, h3, h4, hn, inb_nI hj (by omega), hcl]
theorem t_al (hc : cod m pc = some (33, a, b, z, q)) (hn : n < C.2 k) {N : Nat} (hk : ((k == 0) = false ∧ (k == 91) = false) ∧ (1 ≤ (kt k).1 ∧ (kt k).1 ≤ 5) ∧ (kt k).2.1 = N) (kk : Tm E d m q L (vi (nI N) :: st) C F G R r t) : Tm E d m pc L (vr k n :: st) C F G R r t := by
  obtain ⟨⟨h1, h2⟩, h3, h4⟩ := hk
  have h1 : ¬ k = 0 := by simpa using h1
  have h2 : ¬ k = 91 := by simpa using h2
  refine t_h hc (by decide) (C1 := C) (F1 := F) (G1 := G) (R1 := R) ?_ kk
  simp [hst, aln, h1, h2, h3, h4, hn, nI]
theorem t_ret (hc : cod m pc = some (35, a, b, z, q)) : Tm E d m pc L [] C F G R none (C, F, G, R) := by
  refine ⟨1, ?_⟩
  unfold exec
  rw [hc]
  rfl
theorem t_iret (hc : cod m pc = some (36, a, b, z, q)) (hk : okr a x = true) : Tm E d m pc L [vi x] C F G R (some (vi x)) (C, F, G, R) := by
  refine ⟨1, ?_⟩
  unfold exec
  rw [hc]
  simp [hk]
theorem t_call (nA : Nat) {as : List PV} (hc : cod m pc = some (34, a, nA, z, q)) (hd : 0 < d) (hl : nA ≤ st.length) (has : (st.take nA).reverse = as) (hcat : ((st.drop nA).map catP).sum ≤ 8) (hen : (entG as).length ≤ mx a) (hr : recv z nA (C, F, G, R) as = true) {L0 : LL} (hL : entL a as = L0) {r1 : Option PV} {C1 : CT} {F1 : FT} {G1 : GT} {R1 : RT} (hC : Tm E (d - 1) a 0 L0 [] C F G R r1 (C1, F1, G1, R1)) {st2 : List PV} (h2 : r1.toList ++ st.drop nA = st2)
    (kk : Tm E d m q L st2 C1 F1 G1 R1 r t) : Tm E d m pc L st C F G R r t := by
  obtain ⟨f1, e1⟩ := hC
  obtain ⟨f2, e2⟩ := kk
  obtain ⟨d1, rfl⟩ : ∃ d1, d = d1 + 1 := ⟨d - 1, by omega⟩
  refine ⟨max f1 f2 + 1, ?_⟩
  rw [Nat.add_sub_cancel] at e1
  subst hL has h2
  unfold exec
  rw [hc]
  simp only
  rw [if_neg (by decide), if_pos trivial, if_pos ⟨hl, hcat, hen, hr⟩, exec_more (Nat.le_max_left f1 f2) e1]
  exact exec_more (Nat.le_max_right f1 f2) e2
theorem t_max (hc : cod m pc = some (47, a, b, z, q)) (hd : 0 < d) (hcat : (st.map catP).sum ≤ 8) (kk : Tm E d m q L (vi (if x < y then y else x) :: st) C F G R r t) : Tm E d m pc L (vi y :: vi x :: st) C F G R r t :=
  t_h1 hc (by decide) hd (by simp only [hst, if_pos hcat]) kk
theorem t_min (hc : cod m pc = some (48, a, b, z, q)) (hd : 0 < d) (hcat : (st.map catP).sum ≤ 8) (kk : Tm E d m q L (vi (if y < x then y else x) :: st) C F G R r t) : Tm E d m pc L (vi y :: vi x :: st) C F G R r t :=
  t_h1 hc (by decide) hd (by simp only [hst, if_pos hcat]) kk
/-- System.arraycopy of rows of ints: all numbers as they are written -/
theorem t_cpy {k2 n2 sp dp mm N N2 : Nat} (hc : cod m pc = some (46, a, b, z, q)) (hd : 0 < d) (hcat : (st.map catP).sum ≤ 8) (hk : ((kt k2).1 = 1 ∧ (kt k2).2.1 = N2) ∧ (kt k).1 = 1 ∧ (kt k).2.1 = N) (hn2 : n2 < C.2 k2) (hn : n < C.2 k) (h1 : sp + mm ≤ N2) (h2 : dp + mm ≤ N) {i1 i2 i3 : Int32} (e1 : i1 = nI sp) (e2 : i2 = nI dp) (e3 : i3 = nI mm) (kk : Tm E d m q L st C (cF F k n dp k2 n2 sp mm) G R r t) : Tm E d m pc L (vi i3 :: vi i2 :: vr k n :: vi i1 :: vr k2 n2 :: st) C F G R r t := by
  obtain ⟨⟨g1, g2⟩, g3, g4⟩ := hk
  have hN : N ≤ 2000 := by rw [← g4]; exact kt_len k
  have hN2 : N2 ≤ 2000 := by rw [← g2]; exact kt_len k2
  subst e1 e2 e3
  have c1 : (nI sp).toNatClampNeg = sp := nI_clamp (by omega)
  have c2 : (nI dp).toNatClampNeg = dp := nI_clamp (by omega)
  have c3 : (nI mm).toNatClampNeg = mm := nI_clamp (by omega)
  have p1 : (0 : Int32) ≤ nI sp := nI_pos' (by omega)
  have p2 : (0 : Int32) ≤ nI dp := nI_pos' (by omega)
  have p3 : (0 : Int32) ≤ nI mm := nI_pos' (by omega)
  refine t_h1 hc (by decide) hd (C1 := C) (F1 := cF F k n dp k2 n2 sp mm) (G1 := G) (R1 := R) ?_ kk
  simp only [hst, if_pos hcat, cpa]
  rw [if_pos ⟨g1, g3, hn2, hn, p1, p2, p3, by rw [c1, c3, g2]; exact h1, by rw [c2, c3, g4]; exact h2⟩, c1, c2, c3]
  rfl
theorem t_sw {lo : Int} {ts : List Nat} {df : Nat} (hc : cod m pc = some (38, a, b, z, q)) (hT : tswt[a]? = some (lo, ts, df)) (hq : (if x.toInt < lo then df else (ts[(x.toInt - lo).toNat]?).getD df) = q1) (kk : Tm E d m q1 L st C F G R r t) : Tm E d m pc L (vi x :: st) C F G R r t := by
  subst hq
  exact t_h hc (by decide) (C1 := C) (F1 := F) (G1 := G) (R1 := R) (by simp only [hst, hT]) kk
theorem exec_leL {Ls : Nat} {xs : Nat → Int32} {orc : Orc} : ∀ (f d m pc : Nat) (L L' : LL) (st : List PV) (h : HS) (x : Option PV × HS), leL L L' → exec Ls xs orc f d m pc L st h = some x → exec Ls xs orc f d m pc L' st h = some x := by
  intro f
  induction f with
  | zero => intro d m pc L L' st h x hL hg; simp [exec] at hg
  | succ f ih =>
    intro d m pc L L' st h x hL hg
    unfold exec at hg ⊢
    split at hg
    · cases hg
    · rename_i op a b z q hc
      split at hg
      · rename_i h1
        rw [if_pos h1]
        split at hg
        · rename_i q1 L1 st1 he
          obtain ⟨L1', hL1, he'⟩ := pst_le hL he
          rw [he']
          exact ih _ _ _ _ _ _ _ _ hL1 hg
        · cases hg
      · rename_i h1
        rw [if_neg h1]
        split at hg
        · rename_i h2
          rw [if_pos h2]
          split at hg
          · cases hg
          · rename_i d1
            split at hg
            · rename_i h3
              simp only [if_pos h3]
              split at hg
              · try rename_i he; rw [he]
                exact ih _ _ _ _ _ _ _ _ hL hg
              · cases hg
            · cases hg
        · rename_i h2
          rw [if_neg h2]
          split at hg
          · rename_i h3
            rw [if_pos h3]
            split at hg
            · cases hg
            · split at hg
              · rename_i h4
                simp only [if_pos h4]
                split at hg
                · exact ih _ _ _ _ _ _ _ _ hL hg
                · cases hg
              · cases hg
          · rename_i h3
            rw [if_neg h3]
            split at hg
            · rename_i h4
              rw [if_pos h4]
              exact hg
            · rename_i h4
              rw [if_neg h4]
              split at hg
              · rename_i h5
                rw [if_pos h5]
                exact hg
              · rename_i h5
                rw [if_neg h5]
                split at hg
                · cases hg
                · rename_i h6
                  rw [if_neg h6]
                  split at hg
                  · exact ih _ _ _ _ _ _ _ _ hL hg
                  · cases hg
/-- fewer locals are enough -/
theorem t_le (hL : leL L1 L) (kk : Tm E d m pc L1 st C F G R r t) : Tm E d m pc L st C F G R r t := by
  obtain ⟨f, hf⟩ := kk
  exact ⟨f, exec_leL _ _ _ _ _ _ _ _ _ hL hf⟩
theorem recv_ok {n0 nA : Nat} {As : List PV} {h : HS} (h90 : (K == 90) = false) (hn : n < h.1.2 K) : recv (vr K n0) nA h (vr K n :: As) = true := by
  have h1 : ¬ K = 90 := by simpa using h90
  simp [recv, h1, hn]
theorem recv_st {nA : Nat} {As : List PV} {h : HS} : recv z0 nA h As = true := rfl
end TR
/-- the numbers of cells once all are made; x: of exceptions -/
def cnt0 : List Nat := [0, 1, 1, 1, 1, 1, 1, 1, 1, 2, 2, 2, 2, 2, 2, 2, 2, 2, 2, 6, 6, 6, 6, 5, 5, 27, 27, 27, 27, 1, 1, 1, 1, 1, 1, 1, 1, 1, 1, 1, 1, 1, 1, 1, 1, 1, 1, 1, 1, 1, 1, 1, 1, 1, 1, 1, 1, 1, 1, 1, 1, 1, 1, 1, 1, 1, 1, 1, 1, 1, 1, 1, 1, 1, 1, 1, 1, 1, 1, 1, 1, 1]
def cn (x k : Nat) : Nat := if k = 1000 then x else cnt0.getD k 0
abbrev cC (x : Nat) : CT := (223, cn x)
/-- the references once all is made; b: the lands are changed about -/
def Rs (b : Bool) : RT := fun k n j =>
  if k = 1 then (if j = 2 then some (if b then 1 else 0) else if j = 3 then some (if b then 0 else 1) else if j = 8 then some 21 else some 0)
  else if k = 2 then some (1 + j)
  else if k = 30 then some (5 + j)
  else if k = 32 then some (22 + j)
  else if k = 23 then (if j = 1 then some (n + 1) else some n)
  else some n
