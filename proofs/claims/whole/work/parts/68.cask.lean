/-! WORDS AS NUMBERS; what the class asks of a token -/
def nB (B : Nat) (l : List Nat) : Nat := l.foldl (fun a c => a * B + c) 0
theorem nB_s {B : Nat} {l : List Nat} {c : Nat} : nB B (l ++ [c]) = nB B l * B + c := by simp [nB]
theorem w32_n (l : List Nat) : w32 l = lN (nB 32 l) := by
  have key : ∀ (l : List Nat) (a : Nat), l.foldl (fun a c => a * 32 + Int64.ofNat c) (lN a) = lN (l.foldl (fun a c => a * 32 + c) a) := by
    intro l
    induction l with
    | nil => intro a; rfl
    | cons c l ih =>
      intro a
      simp only [List.foldl_cons]
      rw [← ih, show lN a * 32 + Int64.ofNat c = lN (a * 32 + c) by rw [show (32 : Int64) = lN 32 from rfl, lN_mul]; exact lN_add _ _]
  exact key l 0
theorem w27_n (l : List Nat) : w27 l = lN (nB 27 l) := by
  have key : ∀ (l : List Nat) (a : Nat), l.foldl (fun a c => a * 27 + Int64.ofNat c) (lN a) = lN (l.foldl (fun a c => a * 27 + c) a) := by
    intro l
    induction l with
    | nil => intro a; rfl
    | cons c l ih =>
      intro a
      simp only [List.foldl_cons]
      rw [← ih, show lN a * 27 + Int64.ofNat c = lN (a * 27 + c) by rw [show (27 : Int64) = lN 27 from rfl, lN_mul]; exact lN_add _ _]
  exact key l 0
theorem nB_lt {B : Nat} : ∀ (k : Nat) (l : List Nat), l.length = k → (∀ c, c ∈ l → c < B) → nB B l < B ^ k
  | 0, l, h, _ => by
    rw [List.length_eq_zero_iff.mp h]
    simp [nB]
  | k + 1, l, h, hc => by
    rcases List.eq_nil_or_concat l with rfl | ⟨l2, c, rfl⟩
    · simp at h
    · rw [List.concat_eq_append] at h hc ⊢
      have ih := nB_lt k l2 (by simp at h; exact h) (fun c e => hc c (by simp [e]))
      have hc2 := hc c (by simp)
      rw [nB_s, Nat.pow_succ]
      have : (nB B l2 + 1) * B ≤ B ^ k * B := Nat.mul_le_mul_right _ ih
      rw [Nat.add_mul, Nat.one_mul] at this
      omega
theorem nB_inj {B : Nat} : ∀ (k : Nat) (l1 l2 : List Nat), l1.length ≤ k → (∀ c, c ∈ l1 → 1 ≤ c ∧ c < B) → (∀ c, c ∈ l2 → 1 ≤ c ∧ c < B) → nB B l1 = nB B l2 → l1 = l2 := by
  have pos : ∀ (l : List Nat) (c : Nat), 1 ≤ c → nB B (l ++ [c]) ≠ 0 := fun l c h => by rw [nB_s]; omega
  intro k
  induction k with
  | zero =>
    intro l1 l2 h h1 h2 e
    have e1 : l1 = [] := List.length_eq_zero_iff.mp (by omega)
    subst e1
    rcases List.eq_nil_or_concat l2 with rfl | ⟨l3, c, rfl⟩
    · rfl
    · rw [List.concat_eq_append] at e h2
      exact absurd e.symm (pos l3 c (h2 c (by simp)).1)
  | succ k ih =>
    intro l1 l2 h h1 h2 e
    rcases List.eq_nil_or_concat l1 with rfl | ⟨l3, c, rfl⟩
    · rcases List.eq_nil_or_concat l2 with rfl | ⟨l4, c2, rfl⟩
      · rfl
      · rw [List.concat_eq_append] at e h2
        exact absurd e.symm (pos l4 c2 (h2 c2 (by simp)).1)
    · rw [List.concat_eq_append] at e h h1 ⊢
      rcases List.eq_nil_or_concat l2 with rfl | ⟨l4, c2, rfl⟩
      · exact absurd e (pos l3 c (h1 c (by simp)).1)
      · rw [List.concat_eq_append] at e h2 ⊢
        rw [nB_s, nB_s] at e
        have a1 := (h1 c (by simp)).2
        have a2 := (h2 c2 (by simp)).2
        have m1 : (nB B l3 * B + c) % B = c := by rw [Nat.mul_comm, Nat.mul_add_mod, Nat.mod_eq_of_lt a1]
        have m2 : (nB B l4 * B + c2) % B = c2 := by rw [Nat.mul_comm, Nat.mul_add_mod, Nat.mod_eq_of_lt a2]
        have ec : c = c2 := by rw [← m1, ← m2, e]
        subst ec
        have e2 : nB B l3 * B = nB B l4 * B := by omega
        have e3 := Nat.eq_of_mul_eq_mul_right (show 0 < B by omega) e2
        rw [ih l3 l4 (by simp at h; omega) (fun c e => h1 c (by simp [e])) (fun c e => h2 c (by simp [e])) e3]
theorem nB_b {B : Nat} (hB : B ≤ 32) (h27 : 27 ≤ B) {l : List Nat} (h : l.length ≤ 8 ∧ ∀ c, c ∈ l → 1 ≤ c ∧ c ≤ 26) : nB B l < 2 ^ 40 := by
  have h1 := nB_lt (B := B) l.length l rfl (fun c e => by have := h.2 c e; omega)
  have h2 : B ^ l.length ≤ 32 ^ 8 := Nat.le_trans (Nat.pow_le_pow_left hB _) (Nat.pow_le_pow_right (by decide) h.1)
  have h3 : (32 : Nat) ^ 8 = 2 ^ 40 := by decide
  omega
theorem w32_inj {l1 l2 : List Nat} (h1 : wfWd l1) (h2 : wfWd l2) : (w32 l1 = w32 l2) = (l1 = l2) := by
  apply propext
  constructor
  · intro e
    rw [w32_n, w32_n] at e
    have b1 := nB_b (B := 32) (by decide) (by decide) h1.2
    have b2 := nB_b (B := 32) (by decide) (by decide) h2.2
    have e2 : nB 32 l1 = nB 32 l2 := by
      have := congrArg Int64.toInt e
      rw [show lN (nB 32 l1) = Int64.ofNat _ from rfl, show lN (nB 32 l2) = Int64.ofNat _ from rfl, lg_ofNat_toInt (by omega), lg_ofNat_toInt (by omega)] at this
      omega
    exact nB_inj 8 l1 l2 h1.2.1 (fun c e => by have := h1.2.2 c e; omega) (fun c e => by have := h2.2.2 c e; omega) e2
  · intro e; rw [e]
theorem w27_inj {l1 l2 : List Nat} (h1 : wfWd l1) (h2 : wfWd l2) : (w27 l1 = w27 l2) = (l1 = l2) := by
  apply propext
  constructor
  · intro e
    rw [w27_n, w27_n] at e
    have b1 := nB_b (B := 27) (by decide) (by decide) h1.2
    have b2 := nB_b (B := 27) (by decide) (by decide) h2.2
    have e2 : nB 27 l1 = nB 27 l2 := by
      have := congrArg Int64.toInt e
      rw [show lN (nB 27 l1) = Int64.ofNat _ from rfl, show lN (nB 27 l2) = Int64.ofNat _ from rfl, lg_ofNat_toInt (by omega), lg_ofNat_toInt (by omega)] at this
      omega
    exact nB_inj 8 l1 l2 h1.2.1 (fun c e => by have := h1.2.2 c e; omega) (fun c e => by have := h2.2.2 c e; omega) e2
  · intro e; rw [e]
/-- the letters of a text constant -/
def lets (n : Nat) : List Nat := (sby n).map (fun c => ix c - 96)
theorem lets_r : ∀ n, n < 26 → lets n = (List.range (sby n).length).map (fun i => ix (sch n i) - 96) := by decide +kernel
theorem lets_ok : ∀ n, n < 26 → n ≠ 0 → n ≠ 2 → ∀ i, i < (sby n).length → 97 ≤ ix (sch n i) ∧ ix (sch n i) ≤ 122 ∧ sch n i = nI (ix (sch n i)) := by decide +kernel
theorem lets_wf : ∀ n, n < 26 → n ≠ 0 → n ≠ 2 → 0 < (lets n).length ∧ (lets n).length ≤ 8 ∧ ∀ c, c ∈ lets n → 1 ≤ c ∧ c ≤ 26 := by decide +kernel
def keptL : List (List Nat) := [lets 1, lets 3, lets 4, lets 9, lets 10, lets 11, lets 12, lets 13, lets 14, lets 22, lets 23, lets 24, lets 25, lets 5, lets 6, lets 7, lets 8, lets 15, lets 20, lets 21]
def isWd (t : TP) (p n : Nat) : Bool := decide (tK t p = 1) && decide (tW t p = lets n)
def isSg (t : TP) (p c : Nat) : Bool := decide (tK t p = 3) && decide (cAt t p = c)
def isNm (t : TP) (p : Nat) : Bool := decide (tK t p = 1) && !decide (tW t p ∈ keptL)
def kdN (t : TP) (p : Nat) : Int32 := if isWd t p 5 = true then 0 else if isWd t p 6 = true then 1 else if isWd t p 7 = true then 2 else if isWd t p 8 = true then 3 else -1
/-- the letters of the kept words so far, as the class sums them -/
def kpt : Nat → Int64
  | 0 => 0
  | i + 1 => if sch 2 i = 32 then 0 else lbop 0 (lbop 2 (kpt i) 32) ((ibop 0 (ibop 1 (sch 2 i) 97) 1).toInt64)
def blk : List Nat := (List.range (sby 2).length).filter (fun i => decide (sch 2 i = 32))
theorem blk_k : blk.map kpt = keptL.map w32 := by decide +kernel
theorem blk_in {i : Nat} (hi : i < (sby 2).length) (h : sch 2 i = 32) : i ∈ blk := by
  simp only [blk, List.mem_filter, List.mem_range, decide_eq_true_eq]
  exact ⟨hi, h⟩
theorem kept_wf : ∀ l, l ∈ keptL → wfWd l := by
  have h : ∀ l, l ∈ keptL → 0 < l.length ∧ l.length ≤ 8 ∧ ∀ c, c ∈ l → 1 ≤ c ∧ c ≤ 26 := by decide +kernel
  exact h
theorem kept_m {l : List Nat} (h : wfWd l) : (∃ i, i < (sby 2).length ∧ sch 2 i = 32 ∧ kpt i = w32 l) ↔ l ∈ keptL := by
  constructor
  · rintro ⟨i, hi, h1, h2⟩
    have m1 : kpt i ∈ blk.map kpt := List.mem_map.mpr ⟨i, blk_in hi h1, rfl⟩
    rw [blk_k, List.mem_map] at m1
    obtain ⟨l2, h3, h4⟩ := m1
    rw [h2, w32_inj (kept_wf l2 h3) h] at h4
    rw [← h4]; exact h3
  · intro h1
    have m1 : w32 l ∈ keptL.map w32 := List.mem_map.mpr ⟨l, h1, rfl⟩
    rw [← blk_k, List.mem_map] at m1
    obtain ⟨i, h2, h3⟩ := m1
    simp only [blk, List.mem_filter, List.mem_range, decide_eq_true_eq] at h2
    exact ⟨i, h2.1, h2.2, h3⟩
theorem wlt_at {t : TP} {p n i : Nat} (hi : i < n) : (wlt t p n)[i]? = some (cAt t (p + i) - 96) := by
  simp [wlt, hi]
theorem lets_at {n i : Nat} (hn : n < 26) (hi : i < (sby n).length) : (lets n)[i]? = some (ix (sch n i) - 96) := by
  rw [lets_r n hn]
  simp [hi]
section T2
variable {E : EV} {d x p n : Nat} {F : FT} {G : GT} {b : Bool} {t : TP} {u v w : Int32}
theorem l_isWd (hn : n < 26) (h0 : n ≠ 0) (h2 : n ≠ 2) (hd : 5 ≤ d) (h : CRd F G t p) (hK : tK t p = 1) (hl : tE t p - p = (sby n).length) : ∀ (r i : Nat), i + r = (sby n).length → (∀ j, j < i → cAt t (p + j) = ix (sch n j)) → Tm E d 74 28 [some (vr 5 0), some (vr 90 n), some (vi (nI i))] [] (cC x) F G (Rs b) (some (vi (b2i (decide (tW t p = lets n))))) (cC x, F, G, Rs b) := by
  intro r
  have hp := tK_lt (t := t) (p := p) (by omega)
  have hE := tE_le (t := t) (p := p) (by omega)
  have hlen := h.1.2.1
  have hwd := tW_ok hK
  induction r with
  | zero =>
    intro i hir hq
    refine t_run 2 rfl ?_
    refine t_call 1 k74_30 (by omega) (Nat.le_of_ble_eq_true rfl) rfl (Nat.le_of_ble_eq_true rfl) (Nat.le_of_ble_eq_true rfl) (recv_s (by first | assumption | decide)) rfl (c_slen hn (by omega)) rfl ?_
    refine t_ic_ge k74_33 (fun h33 => ?_) (fun h33 => ?_)
    · refine t_run 1 rfl ?_
      exact t_ib k74_64 (by exact (congrArg b2i (decide_eq_true (show tW t p = lets n by unfold tW; rw [hl, lets_r n hn]; exact List.map_congr_left (fun j hj => by rw [hq j (by rw [List.mem_range] at hj; omega)])))).symm)
    · exact absurd (lt_nI h33 rfl (by omega) (by omega)) (by omega)
  | succ r ih =>
    intro i hir hq
    have hi : i < (sby n).length := by omega
    have hlo := lets_ok n hn h0 h2 i hi
    have hcc := cAt_c h.2.1 (show p + i < t.1 by omega)
    refine t_run 2 rfl ?_
    refine t_call 1 k74_30 (by omega) (Nat.le_of_ble_eq_true rfl) rfl (Nat.le_of_ble_eq_true rfl) (Nat.le_of_ble_eq_true rfl) (recv_s (by first | assumption | decide)) rfl (c_slen hn (by omega)) rfl ?_
    refine t_ic_ge k74_33 (fun h33 => ?_) (fun h33 => ?_)
    · exact absurd (ge_nI h33 rfl (by omega) (by omega)) (by omega)
    · refine t_run 1 rfl ?_
      refine t_gR k74_37 (by first | assumption | exact Nat.le_of_ble_eq_true rfl | omega) ⟨rfl, rfl, rfl⟩ rfl ?_
      refine t_run 1 rfl ?_
      refine t_gI k74_41 (by first | assumption | exact Nat.le_of_ble_eq_true rfl | omega) ⟨rfl, rfl, Or.inl rfl⟩ ?_
      rw [h.2.2.2.1]
      refine t_run 2 rfl ?_
      refine t_ia (N := 1000) (j := p + i) k74_46 (by decide) (by first | assumption | exact Nat.le_of_ble_eq_true rfl | omega) ⟨⟨rfl, rfl⟩, rfl, rfl⟩ (show p + i < 1000 by omega) (nI_add p i) ?_
      rw [show F 6 0 (p + i) = nI (cAt t (p + i)) from (h.1.2.2 _ (by omega)).trans hcc.1]
      refine t_run 2 rfl ?_
      refine t_call 2 k74_49 (by omega) (Nat.le_of_ble_eq_true rfl) rfl (Nat.le_of_ble_eq_true rfl) (Nat.le_of_ble_eq_true rfl) (recv_s (by first | assumption | decide)) rfl (c_charAt hn hi (by omega)) rfl ?_
      refine t_ic_eq k74_52 (fun h52 => ?_) (fun h52 => ?_)
      · rw [hlo.2.2] at h52
        have e52 := nI_inj h52 (by omega) (by omega)
        refine t_run 2 rfl ?_
        rw [show nI i + 1 = nI (i + 1) from nI_1 i]
        refine ih (i + 1) (by omega) (fun j hj => ?_)
        by_cases e : j = i
        · rw [e]; exact e52
        · exact hq j (by omega)
      · have e52 : ¬ tW t p = lets n := by
          intro e
          have e2 := congrArg (fun l => l[i]?) e
          simp only [tW] at e2
          rw [wlt_at (by omega), lets_at hn hi] at e2
          have e3 : cAt t (p + i) - 96 = ix (sch n i) - 96 := by simpa using e2
          have e4 : 1 ≤ cAt t (p + i) - 96 := (hwd.2.2 _ (by unfold tW; exact List.mem_of_getElem? (wlt_at (by omega)))).1
          exact h52 (by rw [hlo.2.2]; exact congrArg nI (by omega))
        refine t_run 1 rfl ?_
        exact t_ib k74_56 (by exact (congrArg b2i (decide_eq_false e52)).symm)
theorem c_isWd (hn : n < 26) (h0 : n ≠ 0) (h2 : n ≠ 2) (hd : 5 ≤ d) (h : CRd F G t p) : Tm E d 74 0 [some (vr 5 0), some (vr 90 n), none] [] (cC x) F G (Rs b) (some (vi (b2i (isWd t p n)))) (cC x, F, G, Rs b) := by
  have hpt := h.2.2.2.2.2.2.2.2
  have hE := tE_le hpt
  have hlen := h.1.2.1
  have hsl := sby_len n hn
  have hk4 : tK t p ≤ 4 := by
    unfold tK
    repeat' split
    all_goals omega
  refine t_run 1 rfl ?_
  refine t_gI k74_1 (by first | assumption | exact Nat.le_of_ble_eq_true rfl | omega) ⟨rfl, rfl, Or.inl rfl⟩ ?_
  rw [h.2.2.1]
  refine t_run 1 rfl ?_
  refine t_ic_ne k74_5 (fun h5 => ?_) (fun h5 => ?_)
  · have e5 : ¬ tK t p = 1 := fun e => h5 (by rw [e]; rfl)
    rw [show isWd t p n = false by simp only [isWd]; rw [decide_eq_false e5]; rfl]
    refine t_run 1 rfl ?_
    exact t_ib k74_25 (by rfl)
  · have e5 : tK t p = 1 := nI_inj (b := 1) h5 (by omega) (by omega)
    refine t_run 1 rfl ?_
    refine t_gI k74_9 (by first | assumption | exact Nat.le_of_ble_eq_true rfl | omega) ⟨rfl, rfl, Or.inl rfl⟩ ?_
    rw [h.2.2.2.2.1]
    refine t_run 1 rfl ?_
    refine t_gI k74_13 (by first | assumption | exact Nat.le_of_ble_eq_true rfl | omega) ⟨rfl, rfl, Or.inl rfl⟩ ?_
    rw [h.2.2.2.1]
    refine t_run 2 rfl ?_
    rw [show ibop 1 (nI (tE t p)) (nI p) = nI (tE t p - p) from pk_sub hE.1]
    refine t_call 1 k74_18 (by omega) (Nat.le_of_ble_eq_true rfl) rfl (Nat.le_of_ble_eq_true rfl) (Nat.le_of_ble_eq_true rfl) (recv_s (by first | assumption | decide)) rfl (c_slen hn (by omega)) rfl ?_
    refine t_ic_eq k74_21 (fun h21 => ?_) (fun h21 => ?_)
    · have e21 := nI_inj h21 (by omega) (by omega)
      rw [show isWd t p n = decide (tW t p = lets n) by simp only [isWd]; rw [decide_eq_true e5]; rfl]
      refine t_run 2 rfl ?_
      exact l_isWd hn h0 h2 hd h e5 e21 (sby n).length 0 (by omega) (fun j hj => absurd hj (by omega))
    · have e21 : ¬ tW t p = lets n := by
        intro e
        have e2 := congrArg List.length e
        rw [show (tW t p).length = tE t p - p from wlt_len, show (lets n).length = (sby n).length by simp [lets]] at e2
        exact h21 (by rw [e2])
      rw [show isWd t p n = false by simp only [isWd]; rw [decide_eq_false e21, Bool.and_false]]
      refine t_run 1 rfl ?_
      exact t_ib k74_25 (by rfl)
theorem tK_4 {t : TP} {p : Nat} : tK t p ≤ 4 := by
  unfold tK
  repeat' split
  all_goals omega
theorem c_isSg {c : Nat} (hc : c < 128) (h : CRd F G t p) : Tm E d 75 0 [some (vr 5 0), some (vi (nI c))] [] (cC x) F G (Rs b) (some (vi (b2i (isSg t p c)))) (cC x, F, G, Rs b) := by
  have hk4 := tK_4 (t := t) (p := p)
  refine t_run 1 rfl ?_
  refine t_gI k75_1 (by first | assumption | exact Nat.le_of_ble_eq_true rfl | omega) ⟨rfl, rfl, Or.inl rfl⟩ ?_
  rw [h.2.2.1]
  refine t_run 1 rfl ?_
  refine t_ic_ne k75_5 (fun h5 => ?_) (fun h5 => ?_)
  · have e5 : ¬ tK t p = 3 := fun e => h5 (by rw [e]; rfl)
    rw [show isSg t p c = false by simp only [isSg]; rw [decide_eq_false e5]; rfl]
    refine t_run 1 rfl ?_
    exact t_ib k75_21 (by rfl)
  · have e5 : tK t p = 3 := nI_inj (b := 3) h5 (by omega) (by omega)
    have hcc := (cAt_c h.2.1 (tK_lt (t := t) (p := p) (by omega))).2
    refine t_run 1 rfl ?_
    refine t_gI k75_9 (by first | assumption | exact Nat.le_of_ble_eq_true rfl | omega) ⟨rfl, rfl, Or.inl rfl⟩ ?_
    rw [h.2.2.2.2.2.2.2.1 e5]
    refine t_run 1 rfl ?_
    refine t_ic_ne k75_13 (fun h13 => ?_) (fun h13 => ?_)
    · have e13 : ¬ cAt t p = c := fun e => h13 (by rw [e])
      rw [show isSg t p c = false by simp only [isSg]; rw [decide_eq_false e13, Bool.and_false]]
      refine t_run 1 rfl ?_
      exact t_ib k75_21 (by rfl)
    · have e13 : cAt t p = c := nI_inj h13 (by omega) (by omega)
      rw [show isSg t p c = true by simp only [isSg]; rw [decide_eq_true e5, decide_eq_true e13]; rfl]
      refine t_run 2 rfl ?_
      exact t_ib k75_21 (by rfl)
theorem kpt_s {i : Nat} (h : ¬ sch 2 i = 32) : lbop 0 (lbop 2 (kpt i) 32) ((ibop 0 (ibop 1 (sch 2 i) 97) 1).toInt64) = kpt (i + 1) := by
  simp only [kpt]
  rw [if_neg h]
theorem kpt_z {i : Nat} (h : sch 2 i = 32) : kpt (i + 1) = 0 := by
  simp only [kpt]
  rw [if_pos h]
theorem len2 : (sby 2).length ≤ 1000 := by decide +kernel
theorem d_dr11010 {E : EV} {d m pc x : Nat} {st : List PV} {F : FT} {G : GT} {b : Bool} {r : Option PV} {Q : FT → GT → Prop} {a0 a1 a2 a3 a4 : Option PV} (kk : Td E d m pc [a0, a1, none, a3, none] st x F G b r Q) : Td E d m pc [a0, a1, a2, a3, a4] st x F G b r Q := d_le (by simp [leL]) kk
theorem t_dr11010 {E : EV} {d m pc : Nat} {st : List PV} {C : CT} {F : FT} {G : GT} {R : RT} {r : Option PV} {t : HS} {a0 a1 a2 a3 a4 : Option PV} (kk : Tm E d m pc [a0, a1, none, a3, none] st C F G R r t) : Tm E d m pc [a0, a1, a2, a3, a4] st C F G R r t := t_le (by simp [leL]) kk
theorem l_isNm (hd : 5 ≤ d) (h : CRd F G t p) (hK : tK t p = 1) : ∀ (r i : Nat), i + r = (sby 2).length → (∀ j, j < i → sch 2 j = 32 → ¬ kpt j = w32 (tW t p)) → Tm E d 76 14 [some (vr 5 0), some (vl (kpt i)), none, some (vi (nI i)), none] [] (cC x) F G (Rs b) (some (vi (b2i (!decide (tW t p ∈ keptL))))) (cC x, F, G, Rs b) := by
  intro r
  have hl2 := len2
  have hwd := tW_ok hK
  have hG := h.2.2.2.2.2.1 hK
  induction r with
  | zero =>
    intro i hir hq
    have eN : ¬ tW t p ∈ keptL := by
      intro e
      obtain ⟨j, h1, h2, h3⟩ := (kept_m hwd).mpr e
      exact hq j (by omega) h2 h3
    refine t_run 2 rfl ?_
    refine t_call 1 k76_17 (by omega) (Nat.le_of_ble_eq_true rfl) rfl (Nat.le_of_ble_eq_true rfl) (Nat.le_of_ble_eq_true rfl) (recv_s (by first | assumption | decide)) rfl (c_slen (n := 2) (by decide) (by omega)) rfl ?_
    refine t_ic_ge k76_20 (fun h20 => ?_) (fun h20 => ?_)
    · refine t_run 1 rfl ?_
      exact t_ib k76_76 (by rw [decide_eq_false eN]; rfl)
    · exact absurd (lt_nI h20 rfl (by omega) (by omega)) (by omega)
  | succ r ih =>
    intro i hir hq
    have hi : i < (sby 2).length := by omega
    refine t_run 2 rfl ?_
    refine t_call 1 k76_17 (by omega) (Nat.le_of_ble_eq_true rfl) rfl (Nat.le_of_ble_eq_true rfl) (Nat.le_of_ble_eq_true rfl) (recv_s (by first | assumption | decide)) rfl (c_slen (n := 2) (by decide) (by omega)) rfl ?_
    refine t_ic_ge k76_20 (fun h20 => ?_) (fun h20 => ?_)
    · exact absurd (ge_nI h20 rfl (by omega) (by omega)) (by omega)
    · refine t_run 2 rfl ?_
      refine t_call 2 k76_26 (by omega) (Nat.le_of_ble_eq_true rfl) rfl (Nat.le_of_ble_eq_true rfl) (Nat.le_of_ble_eq_true rfl) (recv_s (by first | assumption | decide)) rfl (c_charAt (n := 2) (by decide) hi (by omega)) rfl ?_
      refine t_run 3 rfl ?_
      refine t_ic_eq k76_35 (fun h35 => ?_) (fun h35 => ?_)
      · refine t_run 2 rfl ?_
        refine t_gL k76_58 (by first | assumption | exact Nat.le_of_ble_eq_true rfl | omega) ⟨rfl, rfl, rfl⟩ ?_
        rw [hG]
        refine t_run 1 rfl ?_
        refine t_if_ne k76_62 (fun h62 => ?_) (fun h62 => ?_)
        · have e62 : ¬ kpt i = w32 (tW t p) := fun e => h62 ((lg_cmp_eq _ _).mpr e)
          refine t_run 2 rfl ?_
          refine t_run 2 rfl ?_
          rw [show nI i + 1 = nI (i + 1) from nI_1 i]
          refine t_dr11010 ?_
          first
          | (rw [kpt_s h35]
             refine ih (i + 1) (by omega) (fun j hj e => ?_)
             by_cases ej : j = i
             · rw [ej] at e; exact absurd e h35
             · exact hq j (by omega) e)
          | (have k2 := ih (i + 1) (by omega) (fun j hj e => by
              by_cases ej : j = i
              · rw [ej]; exact e62
              · exact hq j (by omega) e)
             rw [kpt_z h35] at k2
             exact k2)
        · have e62 : kpt i = w32 (tW t p) := (lg_cmp_eq _ _).mp h62
          have eN : tW t p ∈ keptL := (kept_m hwd).mp ⟨i, hi, h35, e62⟩
          refine t_run 1 rfl ?_
          exact t_ib k76_66 (by rw [decide_eq_true eN]; rfl)
      · refine t_run 12 rfl ?_
        refine t_run 2 rfl ?_
        rw [show nI i + 1 = nI (i + 1) from nI_1 i]
        refine t_dr11010 ?_
        first
        | (rw [kpt_s h35]
           refine ih (i + 1) (by omega) (fun j hj e => ?_)
           by_cases ej : j = i
           · rw [ej] at e; exact absurd e h35
           · exact hq j (by omega) e)
        | (have k2 := ih (i + 1) (by omega) (fun j hj e => by
            by_cases ej : j = i
            · rw [ej]; exact e62
            · exact hq j (by omega) e)
           rw [kpt_z h35] at k2
           exact k2)
theorem c_isNm (hd : 5 ≤ d) (h : CRd F G t p) : Tm E d 76 0 [some (vr 5 0), none, none, none, none] [] (cC x) F G (Rs b) (some (vi (b2i (isNm t p)))) (cC x, F, G, Rs b) := by
  have hk4 := tK_4 (t := t) (p := p)
  refine t_run 1 rfl ?_
  refine t_gI k76_1 (by first | assumption | exact Nat.le_of_ble_eq_true rfl | omega) ⟨rfl, rfl, Or.inl rfl⟩ ?_
  rw [h.2.2.1]
  refine t_run 1 rfl ?_
  refine t_ic_eq k76_5 (fun h5 => ?_) (fun h5 => ?_)
  · have e5 : tK t p = 1 := nI_inj (b := 1) h5 (by omega) (by omega)
    rw [show isNm t p = !decide (tW t p ∈ keptL) by simp only [isNm]; rw [decide_eq_true e5]; rfl]
    refine t_run 4 rfl ?_
    exact l_isNm hd h e5 (sby 2).length 0 (by omega) (fun j hj => absurd hj (by omega))
  · have e5 : ¬ tK t p = 1 := fun e => h5 (by rw [e]; rfl)
    rw [show isNm t p = false by simp only [isNm]; rw [decide_eq_false e5]; rfl]
    refine t_run 1 rfl ?_
    exact t_ib k76_9 (by rfl)
theorem c_kdN (hd : 6 ≤ d) (h : CRd F G t p) : Tm E d 77 0 [some (vr 5 0)] [] (cC x) F G (Rs b) (some (vi (kdN t p))) (cC x, F, G, Rs b) := by
  refine t_run 2 rfl ?_
  refine t_call 2 k77_3 (by omega) (Nat.le_of_ble_eq_true rfl) rfl (Nat.le_of_ble_eq_true rfl) (Nat.le_of_ble_eq_true rfl) (recv_ok rfl (by first | assumption | exact Nat.le_of_ble_eq_true rfl | omega)) rfl (c_isWd (n := 5) (by decide) (by decide) (by decide) (by omega) h) rfl ?_
  refine t_if_eq k77_6 (fun h6 => ?_) (fun h6 => ?_)
  · rw [b2i0] at h6
    refine t_run 2 rfl ?_
    refine t_call 2 k77_14 (by omega) (Nat.le_of_ble_eq_true rfl) rfl (Nat.le_of_ble_eq_true rfl) (Nat.le_of_ble_eq_true rfl) (recv_ok rfl (by first | assumption | exact Nat.le_of_ble_eq_true rfl | omega)) rfl (c_isWd (n := 6) (by decide) (by decide) (by decide) (by omega) h) rfl ?_
    refine t_if_eq k77_17 (fun h17 => ?_) (fun h17 => ?_)
    · rw [b2i0] at h17
      refine t_run 2 rfl ?_
      refine t_call 2 k77_25 (by omega) (Nat.le_of_ble_eq_true rfl) rfl (Nat.le_of_ble_eq_true rfl) (Nat.le_of_ble_eq_true rfl) (recv_ok rfl (by first | assumption | exact Nat.le_of_ble_eq_true rfl | omega)) rfl (c_isWd (n := 7) (by decide) (by decide) (by decide) (by omega) h) rfl ?_
      refine t_if_eq k77_28 (fun h28 => ?_) (fun h28 => ?_)
      · rw [b2i0] at h28
        refine t_run 2 rfl ?_
        refine t_call 2 k77_36 (by omega) (Nat.le_of_ble_eq_true rfl) rfl (Nat.le_of_ble_eq_true rfl) (Nat.le_of_ble_eq_true rfl) (recv_ok rfl (by first | assumption | exact Nat.le_of_ble_eq_true rfl | omega)) rfl (c_isWd (n := 8) (by decide) (by decide) (by decide) (by omega) h) rfl ?_
        refine t_if_eq k77_39 (fun h39 => ?_) (fun h39 => ?_)
        · rw [b2i0] at h39
          refine t_run 1 rfl ?_
          exact t_ir k77_47 rfl (by simp [kdN, *])
        · rw [b2i0, Bool.not_eq_false] at h39
          refine t_run 2 rfl ?_
          exact t_ir k77_47 rfl (by simp [kdN, *])
      · rw [b2i0, Bool.not_eq_false] at h28
        refine t_run 1 rfl ?_
        exact t_ir k77_32 rfl (by simp [kdN, *])
    · rw [b2i0, Bool.not_eq_false] at h17
      refine t_run 1 rfl ?_
      exact t_ir k77_21 rfl (by simp [kdN, *])
  · rw [b2i0, Bool.not_eq_false] at h6
    refine t_run 1 rfl ?_
    exact t_ir k77_10 rfl (by simp [kdN, *])
theorem c_refuse {c : Nat} (h : CRd F G t p) : Tm E d 78 0 [some (vr 5 0), some (vi (nI c))] [] (cC x) F G (Rs b) (some (vi (b2i false))) (cC x, uF F 5 0 7 (nI (c + 16 * p)), G, Rs b) := by
  refine t_run 4 rfl ?_
  refine t_gI k78_5 (by first | assumption | exact Nat.le_of_ble_eq_true rfl | omega) ⟨rfl, rfl, Or.inl rfl⟩ ?_
  rw [h.2.2.2.1]
  refine t_run 2 rfl ?_
  rw [show ibop 0 (nI c) (ibop 2 16 (nI p)) = nI (c + 16 * p) by show nI c + 16 * nI p = _; rw [show (16 : Int32) = nI 16 from rfl, pk_mul, nI_add]]
  refine t_pI k78_10 (by first | assumption | exact Nat.le_of_ble_eq_true rfl | omega) ⟨rfl, rfl⟩ ?_
  refine t_run 1 rfl ?_
  exact t_ib k78_14 (by rfl)
/-- it is refused: the fault; only the tape has changed -/
def CFt (F : FT) (G : GT) (F2 : FT) (G2 : GT) (f : Nat) : Prop := F2 5 0 7 = nI f ∧ FrD d5 F F2 ∧ ∀ k, k ≠ 5 → G2 k = G k
theorem CFt.of {F F1 : FT} {G G1 : GT} {f : Nat} (h : CNx F G F1 G1) : CFt F G (uF F1 5 0 7 (nI f)) G1 f := ⟨by rw [uF_r, pk_us], h.2.1.u rfl, h.2.2⟩
/-- what comes of a reading by the tape alone: a fault, or a place -/
def COut (t : TP) (F : FT) (G : GT) (r : Nat ⊕ Nat) (F2 : FT) (G2 : GT) : Prop := match r with
  | .inl f => CFt F G F2 G2 f
  | .inr p => CRd F2 G2 t p ∧ CNx F G F2 G2
def okB {α : Type} (r : Nat ⊕ α) : Bool := match r with
  | .inl _ => false
  | .inr _ => true
def pWord (t : TP) (p n : Nat) : Nat ⊕ Nat := if isWd t p n = true then .inr (tN t p) else .inl (1 + 16 * p)
def pSign (t : TP) (p c : Nat) : Nat ⊕ Nat := if isSg t p c = true then .inr (tN t p) else .inl (1 + 16 * p)
def pNum (t : TP) (p lo hi : Nat) : Nat ⊕ Nat := if tK t p = 2 then (if lo ≤ tV t p ∧ tV t p ≤ hi then .inr p else .inl (4 + 16 * p)) else .inl (1 + 16 * p)
theorem c_passW (hn : n < 26) (h0 : n ≠ 0) (h2 : n ≠ 2) (hd : 6 ≤ d) (h : CRd F G t p) : Td E d 79 0 [some (vr 5 0), some (vr 90 n)] [] x F G b (some (vi (b2i (okB (pWord t p n))))) (COut t F G (pWord t p n)) := by
  refine d_run 2 rfl ?_
  refine d_callT 2 k79_2 (by omega) (Nat.le_of_ble_eq_true rfl) rfl (Nat.le_of_ble_eq_true rfl) (Nat.le_of_ble_eq_true rfl) (recv_ok rfl (by first | assumption | exact Nat.le_of_ble_eq_true rfl | omega)) rfl (c_isWd hn h0 h2 (by omega) h) rfl ?_
  refine d_if_ne k79_5 (fun h5 => ?_) (fun h5 => ?_)
  · rw [b2i0, Bool.not_eq_false] at h5
    rw [show pWord t p n = .inr (tN t p) by simp only [pWord]; rw [if_pos h5]]
    refine d_run 1 rfl ?_
    refine d_call 1 k79_15 (by omega) (Nat.le_of_ble_eq_true rfl) rfl (Nat.le_of_ble_eq_true rfl) (Nat.le_of_ble_eq_true rfl) (recv_ok rfl (by first | assumption | exact Nat.le_of_ble_eq_true rfl | omega)) rfl (c_nx (by omega) h) rfl ?_
    rintro F1 G1 h1
    refine d_run 1 rfl ?_
    refine d_ib k79_19 (by rfl) ?_
    exact h1
  · rw [b2i0] at h5
    rw [show pWord t p n = .inl (1 + 16 * p) by simp only [pWord]; rw [if_neg (by rw [h5]; decide)]]
    refine d_run 2 rfl ?_
    refine d_callT 2 k79_10 (by omega) (Nat.le_of_ble_eq_true rfl) rfl (Nat.le_of_ble_eq_true rfl) (Nat.le_of_ble_eq_true rfl) (recv_ok rfl (by first | assumption | exact Nat.le_of_ble_eq_true rfl | omega)) rfl (c_refuse (c := 1) h) rfl ?_
    refine d_ib k79_13 (by rfl) ?_
    exact CFt.of CNx.rf
theorem c_passS {c : Nat} (hc : c < 128) (hd : 6 ≤ d) (h : CRd F G t p) : Td E d 80 0 [some (vr 5 0), some (vi (nI c))] [] x F G b (some (vi (b2i (okB (pSign t p c))))) (COut t F G (pSign t p c)) := by
  refine d_run 2 rfl ?_
  refine d_callT 2 k80_2 (by omega) (Nat.le_of_ble_eq_true rfl) rfl (Nat.le_of_ble_eq_true rfl) (Nat.le_of_ble_eq_true rfl) (recv_ok rfl (by first | assumption | exact Nat.le_of_ble_eq_true rfl | omega)) rfl (c_isSg hc h) rfl ?_
  refine d_if_ne k80_5 (fun h5 => ?_) (fun h5 => ?_)
  · rw [b2i0, Bool.not_eq_false] at h5
    rw [show pSign t p c = .inr (tN t p) by simp only [pSign]; rw [if_pos h5]]
    refine d_run 1 rfl ?_
    refine d_call 1 k80_15 (by omega) (Nat.le_of_ble_eq_true rfl) rfl (Nat.le_of_ble_eq_true rfl) (Nat.le_of_ble_eq_true rfl) (recv_ok rfl (by first | assumption | exact Nat.le_of_ble_eq_true rfl | omega)) rfl (c_nx (by omega) h) rfl ?_
    rintro F1 G1 h1
    refine d_run 1 rfl ?_
    refine d_ib k80_19 (by rfl) ?_
    exact h1
  · rw [b2i0] at h5
    rw [show pSign t p c = .inl (1 + 16 * p) by simp only [pSign]; rw [if_neg (by rw [h5]; decide)]]
    refine d_run 2 rfl ?_
    refine d_callT 2 k80_10 (by omega) (Nat.le_of_ble_eq_true rfl) rfl (Nat.le_of_ble_eq_true rfl) (Nat.le_of_ble_eq_true rfl) (recv_ok rfl (by first | assumption | exact Nat.le_of_ble_eq_true rfl | omega)) rfl (c_refuse (c := 1) h) rfl ?_
    refine d_ib k80_13 (by rfl) ?_
    exact CFt.of CNx.rf
theorem c_num {lo hi : Nat} (hhi : hi ≤ 9999) (hlo : lo ≤ 9999) (hd : 6 ≤ d) (h : CRd F G t p) (hv : tK t p = 2 → tV t p ≤ 9999) : Td E d 81 0 [some (vr 5 0), some (vi (nI lo)), some (vi (nI hi))] [] x F G b (some (vi (b2i (okB (pNum t p lo hi))))) (COut t F G (pNum t p lo hi)) := by
  have hk4 := tK_4 (t := t) (p := p)
  refine d_run 1 rfl ?_
  refine d_gI k81_1 (by first | assumption | exact Nat.le_of_ble_eq_true rfl | omega) ⟨rfl, rfl, Or.inl rfl⟩ ?_
  rw [h.2.2.1]
  refine d_run 1 rfl ?_
  refine d_ic_eq k81_5 (fun h5 => ?_) (fun h5 => ?_)
  · have e5 : tK t p = 2 := nI_inj (b := 2) h5 (by omega) (by omega)
    have hv := hv e5
    have hW : isW2 (nI (tV t p)) (nI lo) (nI hi) = decide (lo ≤ tV t p ∧ tV t p ≤ hi) := by
      rw [Bool.eq_iff_iff]
      simp only [isW2, Bool.and_eq_true, decide_eq_true_eq]
      rw [nI_leI (by omega) (by omega), nI_leI (by omega) (by omega)]
    refine d_run 1 rfl ?_
    refine d_gI k81_15 (by first | assumption | exact Nat.le_of_ble_eq_true rfl | omega) ⟨rfl, rfl, Or.inl rfl⟩ ?_
    rw [h.2.2.2.2.2.2.1 e5]
    refine d_run 2 rfl ?_
    refine d_callT 3 k81_20 (by omega) (Nat.le_of_ble_eq_true rfl) rfl (Nat.le_of_ble_eq_true rfl) (Nat.le_of_ble_eq_true rfl) recv_st rfl c_within rfl ?_
    rw [hW]
    refine d_if_ne k81_23 (fun h23 => ?_) (fun h23 => ?_)
    · rw [b2i0, Bool.not_eq_false, decide_eq_true_eq] at h23
      rw [show pNum t p lo hi = .inr p by simp only [pNum]; rw [if_pos e5, if_pos h23]]
      refine d_run 2 rfl ?_
      refine d_ib k81_39 (by rfl) ?_
      first | exact CFt.of CNx.rf | exact ⟨h, CNx.rf⟩
    · rw [b2i0, decide_eq_false_iff_not] at h23
      rw [show pNum t p lo hi = .inl (4 + 16 * p) by simp only [pNum]; rw [if_pos e5, if_neg h23]]
      refine d_run 2 rfl ?_
      refine d_callT 2 k81_28 (by omega) (Nat.le_of_ble_eq_true rfl) rfl (Nat.le_of_ble_eq_true rfl) (Nat.le_of_ble_eq_true rfl) (recv_ok rfl (by first | assumption | exact Nat.le_of_ble_eq_true rfl | omega)) rfl (c_refuse (c := 4) h) rfl ?_
      refine d_if_eq k81_31 (fun h31 => ?_) (fun h31 => ?_)
      · refine d_run 1 rfl ?_
        refine d_ib k81_39 (by rfl) ?_
        first | exact CFt.of CNx.rf | exact ⟨h, CNx.rf⟩
      · exact absurd rfl h31
  · have e5 : ¬ tK t p = 2 := fun e => h5 (by rw [e]; rfl)
    rw [show pNum t p lo hi = .inl (1 + 16 * p) by simp only [pNum]; rw [if_neg e5]]
    refine d_run 2 rfl ?_
    refine d_callT 2 k81_10 (by omega) (Nat.le_of_ble_eq_true rfl) rfl (Nat.le_of_ble_eq_true rfl) (Nat.le_of_ble_eq_true rfl) (recv_ok rfl (by first | assumption | exact Nat.le_of_ble_eq_true rfl | omega)) rfl (c_refuse (c := 1) h) rfl ?_
    refine d_ib k81_13 (by rfl) ?_
    exact CFt.of CNx.rf
theorem vlt_lt {t : TP} {p : Nat} : ∀ n, (∀ i, i < n → isDc (cAt t (p + i)) = true) → vlt t p n < 10 ^ n
  | 0, _ => by simp [vlt]
  | n + 1, h => by
    have ih := vlt_lt (t := t) (p := p) n (fun i hi => h i (by omega))
    have hd := h n (by omega)
    simp only [isDc, Bool.and_eq_true, decide_eq_true_eq] at hd
    rw [vlt_s, Nat.pow_succ]
    omega
theorem scn_all {t : TP} {q : Nat → Bool} : ∀ (f p2 j : Nat), p2 ≤ j → j < scn t q f p2 → q (cAt t j) = true
  | 0, p2, j, h1, h2 => by simp only [scn] at h2; omega
  | f + 1, p2, j, h1, h2 => by
    simp only [scn] at h2
    split at h2
    · rename_i e2
      by_cases ej : j = p2
      · rw [ej]; exact e2
      · exact scn_all f (p2 + 1) j (by omega) h2
    · omega
theorem tV_le {t : TP} {p : Nat} (h : tK t p = 2) : tV t p ≤ 9999 := by
  have hp := tK_lt (t := t) (p := p) (by omega)
  unfold tK at h
  rw [if_neg (by omega)] at h
  split at h
  · split at h <;> cases h
  · rename_i e1
    split at h
    · rename_i e
      split at h
      · rename_i e4
        have e3 : tE t p = scn t isDc (t.1 - p) p := by
          unfold tE
          rw [if_neg (by omega), if_neg e1, if_pos e]
        have := vlt_lt (t := t) (p := p) (tE t p - p) (fun i hi => scn_all (t.1 - p) p (p + i) (by omega) (by rw [← e3]; omega))
        have h2 : 10 ^ (tE t p - p) ≤ 10 ^ 4 := Nat.pow_le_pow_right (by decide) e4
        unfold tV
        omega
      · cases h
    · split at h <;> cases h
end T2
