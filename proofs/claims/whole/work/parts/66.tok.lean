/-! SIGNS AND TOKENS; the text constants -/
section S1
variable {E : EV} {d m pc q a b n : Nat} {z : PV} {L : LL} {st : List PV} {C : CT} {F : FT} {G : GT} {R : RT} {r : Option PV} {t : HS}
theorem t_al91 (hc : cod m pc = some (33, a, b, z, q)) (hn : n < 26) (kk : Tm E d m q L (vi (nI (sby n).length) :: st) C F G R r t) : Tm E d m pc L (vr 91 n :: st) C F G R r t := by
  refine t_h hc (by decide) (C1 := C) (F1 := F) (G1 := G) (R1 := R) ?_ kk
  simp [hst, aln, hn, nI]
theorem recv_s {n0 nA : Nat} {As : List PV} {h : HS} (hn : n < 26) : recv (vr 90 n0) nA h (vr 90 n :: As) = true := by
  simp [recv, hn]
end S1
theorem d_al91 {E : EV} {d m pc q a b n x : Nat} {z : PV} {L : LL} {st : List PV} {F : FT} {G : GT} {bb : Bool} {r : Option PV} {Q : FT → GT → Prop} (hc : cod m pc = some (33, a, b, z, q)) (hn : n < 26) (kk : Td E d m q L (vi (nI (sby n).length) :: st) x F G bb r Q) : Td E d m pc L (vr 91 n :: st) x F G bb r Q := td_up (fun _ h => t_al91 hc hn h) kk
/-- the i-th sign of a text constant -/
def sch (n i : Nat) : Int32 := (sby n).getD i 0
theorem sby_len : ∀ n, n < 26 → (sby n).length ≤ 110 := by decide +kernel
theorem slen_sh : ∀ n, n < 26 → ibop 7 (nI (sby n).length) 0 = nI (sby n).length := by decide +kernel
theorem sch_c : ∀ n, n < 26 → ∀ i, i < (sby n).length → ((ibop 3 (sch n i) 255).toUInt32 % 65536).toInt32 = sch n i ∧ okr 3 (sch n i) = true := by decide +kernel
section S2
variable {E : EV} {d n i x : Nat} {F : FT} {G : GT} {b : Bool}
theorem c_coder (hn : n < 26) : Tm E d 243 0 [some (vr 90 n)] [] (cC x) F G (Rs b) (some (vi 0)) (cC x, F, G, Rs b) := by
  refine t_run 1 rfl ?_
  refine t_if_eq k243_3 (fun h3 => ?_) (fun h3 => ?_)
  · exact absurd h3 (by decide)
  · refine t_run 1 rfl ?_
    refine t_gS k243_7 (by first | assumption | decide) rfl ?_
    refine t_run 1 rfl ?_
    exact t_ir k243_14 rfl (by rfl)
theorem c_lat1 (hn : n < 26) : Tm E d 244 0 [some (vr 90 n)] [] (cC x) F G (Rs b) (some (vi (b2i true))) (cC x, F, G, Rs b) := by
  refine t_run 1 rfl ?_
  refine t_if_eq k244_3 (fun h3 => ?_) (fun h3 => ?_)
  · exact absurd h3 (by decide)
  · refine t_run 1 rfl ?_
    refine t_gS k244_7 (by first | assumption | decide) rfl ?_
    refine t_if_ne k244_10 (fun h10 => ?_) (fun h10 => ?_)
    · exact absurd rfl h10
    · refine t_run 2 rfl ?_
      exact t_ib k244_18 (by rfl)
theorem c_slen (hn : n < 26) (hd : 1 ≤ d) : Tm E d 239 0 [some (vr 90 n)] [] (cC x) F G (Rs b) (some (vi (nI (sby n).length))) (cC x, F, G, Rs b) := by
  refine t_run 1 rfl ?_
  refine t_gS k239_1 (by first | assumption | decide) rfl ?_
  refine t_al91 k239_4 hn ?_
  refine t_run 1 rfl ?_
  refine t_call 1 k239_6 (by omega) (Nat.le_of_ble_eq_true rfl) rfl (Nat.le_of_ble_eq_true rfl) (Nat.le_of_ble_eq_true rfl) (recv_s (by first | assumption | decide)) rfl (c_coder hn) rfl ?_
  refine t_run 1 rfl ?_
  exact t_ir k239_10 rfl (by exact slen_sh n hn)
theorem c_chk {m : Nat} (hi : i < m) (hm : m ≤ 1000) : Tm E d 251 0 [some (vi (nI i)), some (vi (nI m)), some (vr 99 0)] [] (cC x) F G (Rs b) (some (vi (nI i))) (cC x, F, G, Rs b) := by
  refine t_run 1 rfl ?_
  refine t_if_lt k251_1 (fun h1 => ?_) (fun h1 => ?_)
  · exact absurd h1 (nn_nI (by omega))
  · refine t_run 2 rfl ?_
    refine t_ic_lt k251_6 (fun h6 => ?_) (fun h6 => ?_)
    · refine t_run 1 rfl ?_
      exact t_ir k251_17 rfl (by rfl)
    · exact absurd ((nI_ltI (by omega) (by omega)).mpr hi) h6
theorem c_schk {m : Nat} (hi : i < m) (hm : m ≤ 1000) (hd : 1 ≤ d) : Tm E d 245 0 [some (vi (nI i)), some (vi (nI m))] [] (cC x) F G (Rs b) none (cC x, F, G, Rs b) := by
  refine t_run 3 rfl ?_
  refine t_call 3 k245_5 (by omega) (Nat.le_of_ble_eq_true rfl) rfl (Nat.le_of_ble_eq_true rfl) (Nat.le_of_ble_eq_true rfl) recv_st rfl (c_chk hi hm) rfl ?_
  refine t_run 1 rfl ?_
  exact t_ret k245_9
theorem c_b1at (hn : n < 26) (hi : i < (sby n).length) (hd : 2 ≤ d) : Tm E d 246 0 [some (vr 91 n), some (vi (nI i))] [] (cC x) F G (Rs b) (some (vi (sch n i))) (cC x, F, G, Rs b) := by
  have hl := sby_len n hn
  have hsc := sch_c n hn i hi
  refine t_run 2 rfl ?_
  refine t_al91 k246_2 hn ?_
  refine t_call 2 k246_3 (by omega) (Nat.le_of_ble_eq_true rfl) rfl (Nat.le_of_ble_eq_true rfl) (Nat.le_of_ble_eq_true rfl) recv_st rfl (c_schk hi (by omega) (by omega)) rfl ?_
  refine t_run 2 rfl ?_
  refine t_ba k246_8 hn hi (by omega) rfl ?_
  refine t_run 3 rfl ?_
  exact t_ir k246_14 (by first | exact (show okr 3 (((ibop 3 (sch n i) 255).toUInt32 % 65536).toInt32) = true by rw [hsc.1]; exact hsc.2)) (by exact hsc.1)
theorem c_charAt (hn : n < 26) (hi : i < (sby n).length) (hd : 3 ≤ d) : Tm E d 240 0 [some (vr 90 n), some (vi (nI i))] [] (cC x) F G (Rs b) (some (vi (sch n i))) (cC x, F, G, Rs b) := by
  have hsc := sch_c n hn i hi
  refine t_run 1 rfl ?_
  refine t_call 1 k240_1 (by omega) (Nat.le_of_ble_eq_true rfl) rfl (Nat.le_of_ble_eq_true rfl) (Nat.le_of_ble_eq_true rfl) (recv_s (by first | assumption | decide)) rfl (c_lat1 hn) rfl ?_
  refine t_if_eq k240_4 (fun h4 => ?_) (fun h4 => ?_)
  · exact absurd h4 (by decide)
  · refine t_run 1 rfl ?_
    refine t_gS k240_8 (by first | assumption | decide) rfl ?_
    refine t_run 1 rfl ?_
    refine t_call 2 k240_12 (by omega) (Nat.le_of_ble_eq_true rfl) rfl (Nat.le_of_ble_eq_true rfl) (Nat.le_of_ble_eq_true rfl) recv_st rfl (c_b1at hn hi (by omega)) rfl ?_
    exact t_ir k240_15 hsc.2 (by rfl)
/-- the place of a sign in a text constant -/
def ixS (n c : Nat) : Nat → Nat → Int32
  | _, 0 => -1
  | i, k + 1 => if sch n i = nI c then nI i else ixS n c (i + 1) k
theorem i2b_c : ∀ c, c < 128 → (nI c).toInt8.toInt32 = nI c := by decide +kernel
theorem l_ixc {c : Nat} (hn : n < 26) : ∀ (r i : Nat), i + r = (sby n).length → Tm E d 249 7 [some (vr 91 n), some (vi (nI c)), some (vi 0), some (vi (nI (sby n).length)), some (vi (nI c)), some (vi (nI i))] [] (cC x) F G (Rs b) (some (vi (ixS n c i r))) (cC x, F, G, Rs b) := by
  intro r
  have hl := sby_len n hn
  induction r with
  | zero =>
    intro i hir
    refine t_run 2 rfl ?_
    refine t_ic_ge k249_10 (fun h10 => ?_) (fun h10 => ?_)
    · refine t_run 1 rfl ?_
      exact t_ir k249_32 rfl (by rfl)
    · exact absurd (lt_nI h10 rfl (by omega) (by omega)) (by omega)
  | succ r ih =>
    intro i hir
    refine t_run 2 rfl ?_
    refine t_ic_ge k249_10 (fun h10 => ?_) (fun h10 => ?_)
    · exact absurd (ge_nI h10 rfl (by omega) (by omega)) (by omega)
    · refine t_run 2 rfl ?_
      refine t_ba k249_16 hn (show i < (sby n).length by omega) (by omega) rfl ?_
      refine t_run 1 rfl ?_
      refine t_ic_ne k249_19 (fun h19 => ?_) (fun h19 => ?_)
      · refine t_run 2 rfl ?_
        rw [show nI i + 1 = nI (i + 1) from nI_1 i, show ixS n c i (r + 1) = ixS n c (i + 1) r by simp only [ixS]; rw [if_neg (show ¬ sch n i = nI c from h19)]]
        exact ih (i + 1) (by omega)
      · refine t_run 1 rfl ?_
        exact t_ir k249_24 rfl (by simp only [ixS]; rw [if_pos (show sch n i = nI c from h19)])
theorem c_ixc {c : Nat} (hn : n < 26) (hc : c < 128) : Tm E d 249 0 [some (vr 91 n), some (vi (nI c)), some (vi 0), some (vi (nI (sby n).length)), none, none] [] (cC x) F G (Rs b) (some (vi (ixS n c 0 (sby n).length))) (cC x, F, G, Rs b) := by
  have h8 := i2b_c c hc
  refine t_run 5 rfl ?_
  rw [h8]
  exact l_ixc hn (sby n).length 0 (by omega)
theorem c_canE {c : Nat} (hc : c < 128) : Tm E d 247 0 [some (vi (nI c))] [] (cC x) F G (Rs b) (some (vi (b2i true))) (cC x, F, G, Rs b) := by
  refine t_run 1 rfl ?_
  refine t_if_lt k247_1 (fun h1 => ?_) (fun h1 => ?_)
  · exact absurd h1 (nn_nI (by omega))
  · refine t_run 2 rfl ?_
    refine t_ic_gt k247_8 (fun h8 => ?_) (fun h8 => ?_)
    · exact absurd (gt_nI (b := 255) h8 rfl (by omega) (by omega)) (by omega)
    · refine t_run 2 rfl ?_
      exact t_ib k247_16 (by rfl)
theorem c_ix1 {c : Nat} (hn : n < 26) (hc : c < 128) (h0 : 0 < (sby n).length) (hd : 1 ≤ d) : Tm E d 248 0 [some (vr 91 n), some (vi (nI c)), some (vi 0), some (vi (nI (sby n).length))] [] (cC x) F G (Rs b) (some (vi (ixS n c 0 (sby n).length))) (cC x, F, G, Rs b) := by
  have hl := sby_len n hn
  have hm : (if nI (sby n).length < nI (sby n).length then nI (sby n).length else nI (sby n).length) = nI (sby n).length := by split <;> rfl
  refine t_run 1 rfl ?_
  refine t_call 1 k248_1 (by omega) (Nat.le_of_ble_eq_true rfl) rfl (Nat.le_of_ble_eq_true rfl) (Nat.le_of_ble_eq_true rfl) recv_st rfl (c_canE hc) rfl ?_
  refine t_if_ne k248_4 (fun h4 => ?_) (fun h4 => ?_)
  · refine t_run 2 rfl ?_
    refine t_max k248_11 (by omega) (Nat.le_of_ble_eq_true rfl) ?_
    refine t_run 3 rfl ?_
    refine t_al91 k248_17 hn ?_
    refine t_min k248_18 (by omega) (Nat.le_of_ble_eq_true rfl) ?_
    rw [hm]
    refine t_run 3 rfl ?_
    refine t_ic_lt k248_24 (fun h24 => ?_) (fun h24 => ?_)
    · refine t_run 4 rfl ?_
      refine t_call 4 k248_33 (by omega) (Nat.le_of_ble_eq_true rfl) rfl (Nat.le_of_ble_eq_true rfl) (Nat.le_of_ble_eq_true rfl) recv_st rfl (c_ixc hn hc) rfl ?_
      exact t_ir k248_36 rfl (by rfl)
    · exact absurd ((nI_ltI (a := 0) (by omega) (by omega)).mpr h0) h24
  · exact absurd h4 (by decide)
theorem c_ix2 {c : Nat} (hn : n < 26) (hc : c < 128) (h0 : 0 < (sby n).length) (hd : 2 ≤ d) : Tm E d 242 0 [some (vr 90 n), some (vi (nI c)), some (vi 0)] [] (cC x) F G (Rs b) (some (vi (ixS n c 0 (sby n).length))) (cC x, F, G, Rs b) := by
  refine t_run 1 rfl ?_
  refine t_call 1 k242_1 (by omega) (Nat.le_of_ble_eq_true rfl) rfl (Nat.le_of_ble_eq_true rfl) (Nat.le_of_ble_eq_true rfl) (recv_s (by first | assumption | decide)) rfl (c_lat1 hn) rfl ?_
  refine t_if_eq k242_4 (fun h4 => ?_) (fun h4 => ?_)
  · exact absurd h4 (by decide)
  · refine t_run 1 rfl ?_
    refine t_gS k242_8 (by first | assumption | decide) rfl ?_
    refine t_run 3 rfl ?_
    refine t_call 1 k242_14 (by omega) (Nat.le_of_ble_eq_true rfl) rfl (Nat.le_of_ble_eq_true rfl) (Nat.le_of_ble_eq_true rfl) (recv_s (by first | assumption | decide)) rfl (c_slen hn (by omega)) rfl ?_
    refine t_call 4 k242_17 (by omega) (Nat.le_of_ble_eq_true rfl) rfl (Nat.le_of_ble_eq_true rfl) (Nat.le_of_ble_eq_true rfl) recv_st rfl (c_ix1 hn hc h0 (by omega)) rfl ?_
    refine t_run 1 rfl ?_
    exact t_ir k242_36 rfl (by rfl)
theorem c_ix {c : Nat} (hn : n < 26) (hc : c < 128) (h0 : 0 < (sby n).length) (hd : 3 ≤ d) : Tm E d 241 0 [some (vr 90 n), some (vi (nI c))] [] (cC x) F G (Rs b) (some (vi (ixS n c 0 (sby n).length))) (cC x, F, G, Rs b) := by
  refine t_run 3 rfl ?_
  refine t_call 3 k241_3 (by omega) (Nat.le_of_ble_eq_true rfl) rfl (Nat.le_of_ble_eq_true rfl) (Nat.le_of_ble_eq_true rfl) (recv_s (by first | assumption | decide)) rfl (c_ix2 hn hc h0 (by omega)) rfl ?_
  exact t_ir k241_6 rfl (by rfl)
end S2
/-! tokens, apart from any heap -/
def cAt (t : TP) (i : Nat) : Nat := ix (t.2 i)
def isLc (c : Nat) : Bool := decide (97 ≤ c) && decide (c ≤ 122)
def isDc (c : Nat) : Bool := decide (48 ≤ c) && decide (c ≤ 57)
def isBc (c : Nat) : Bool := decide (c = 10) || decide (c = 32)
def isSc (c : Nat) : Bool := (decide (40 ≤ c) && decide (c ≤ 43)) || decide (c = 45) || (decide (59 ≤ c) && decide (c ≤ 61))
/-- how far signs of a sort go on -/
def scn (t : TP) (q : Nat → Bool) : Nat → Nat → Nat
  | 0, p => p
  | f + 1, p => if q (cAt t p) = true then scn t q f (p + 1) else p
def tB (t : TP) (p : Nat) : Nat := scn t isBc (t.1 - p) p
def tE (t : TP) (p : Nat) : Nat := if t.1 ≤ p then p else if isLc (cAt t p) = true then scn t isLc (t.1 - p) p else if isDc (cAt t p) = true then scn t isDc (t.1 - p) p else p + 1
def tK (t : TP) (p : Nat) : Nat := if t.1 ≤ p then 0 else if isLc (cAt t p) = true then (if tE t p - p ≤ 8 then 1 else 4) else if isDc (cAt t p) = true then (if tE t p - p ≤ 4 then 2 else 4) else if isSc (cAt t p) = true then 3 else 4
def wlt (t : TP) (p n : Nat) : List Nat := (List.range n).map (fun i => cAt t (p + i) - 96)
def tW (t : TP) (p : Nat) : List Nat := wlt t p (tE t p - p)
def vlt (t : TP) (p n : Nat) : Nat := (List.range n).foldl (fun a i => a * 10 + (cAt t (p + i) - 48)) 0
def tV (t : TP) (p : Nat) : Nat := vlt t p (tE t p - p)
/-- the next token's place -/
def tN (t : TP) (p : Nat) : Nat := tB t (tE t p)
theorem cAt_c {t : TP} (h : wfTp t) {i : Nat} (hi : i < t.1) : t.2 i = nI (cAt t i) ∧ cAt t i < 128 := by
  obtain ⟨c, e, hc⟩ := h.2 i hi
  have h2 : cAt t i = c := by
    unfold cAt
    rw [e, ix_nI (by omega)]
  rw [h2]
  exact ⟨e, by omega⟩
theorem scn_le {t : TP} {q : Nat → Bool} : ∀ (f p : Nat), p ≤ scn t q f p ∧ scn t q f p ≤ p + f
  | 0, p => ⟨Nat.le_refl _, Nat.le_refl _⟩
  | f + 1, p => by
    simp only [scn]
    split
    · have := scn_le (t := t) (q := q) f (p + 1)
      omega
    · omega
theorem tB_le {t : TP} {p : Nat} (h : p ≤ t.1) : p ≤ tB t p ∧ tB t p ≤ t.1 := by
  have := scn_le (t := t) (q := isBc) (t.1 - p) p
  unfold tB
  omega
theorem tE_le {t : TP} {p : Nat} (h : p ≤ t.1) : p ≤ tE t p ∧ tE t p ≤ t.1 := by
  unfold tE
  have h1 := scn_le (t := t) (q := isLc) (t.1 - p) p
  have h2 := scn_le (t := t) (q := isDc) (t.1 - p) p
  split
  · omega
  · split
    · omega
    · split <;> omega
theorem scn_pos {t : TP} {q : Nat → Bool} {f p : Nat} (hf : 0 < f) (h : q (cAt t p) = true) : p < scn t q f p := by
  obtain ⟨f, rfl⟩ : ∃ f2, f = f2 + 1 := ⟨f - 1, by omega⟩
  simp only [scn]
  rw [if_pos h]
  have := scn_le (t := t) (q := q) f (p + 1)
  omega
theorem tE_lt {t : TP} {p : Nat} (h : p < t.1) : p < tE t p := by
  unfold tE
  rw [if_neg (by omega)]
  split
  · rename_i e
    exact scn_pos (by omega) e
  · split
    · rename_i e
      exact scn_pos (by omega) e
    · omega
theorem tN_le {t : TP} {p : Nat} (h : p ≤ t.1) : tE t p ≤ tN t p ∧ tN t p ≤ t.1 := tB_le (tE_le h).2
theorem tN_lt {t : TP} {p : Nat} (h : p < t.1) : p < tN t p := Nat.lt_of_lt_of_le (tE_lt h) (tN_le (by omega)).1
theorem tK_0 {t : TP} {p : Nat} : tK t p = 0 ↔ t.1 ≤ p := by
  unfold tK
  split
  · simp [*]
  · rename_i h
    constructor
    · intro e
      split at e
      · split at e <;> cases e
      · split at e
        · split at e <;> cases e
        · split at e <;> cases e
    · intro e; exact absurd e h
theorem tK_lt {t : TP} {p : Nat} (h : tK t p ≠ 0) : p < t.1 := by
  apply Decidable.byContradiction
  intro e
  exact h (tK_0.mpr (by omega))
theorem wlt_s {t : TP} {p n : Nat} : wlt t p (n + 1) = wlt t p n ++ [cAt t (p + n) - 96] := by
  simp [wlt, List.range_succ]
theorem w32_s {l : List Nat} {c : Nat} : w32 (l ++ [c]) = w32 l * 32 + Int64.ofNat c := by simp [w32]
theorem w27_s {l : List Nat} {c : Nat} : w27 (l ++ [c]) = w27 l * 27 + Int64.ofNat c := by simp [w27]
theorem vlt_s {t : TP} {p n : Nat} : vlt t p (n + 1) = vlt t p n * 10 + (cAt t (p + n) - 48) := by
  simp [vlt, List.range_succ]
theorem wlt_len {t : TP} {p n : Nat} : (wlt t p n).length = n := by simp [wlt]
/-- what is so of a word -/
theorem tW_ok {t : TP} {p : Nat} (h : tK t p = 1) : wfWd (tW t p) := by
  have hp := tK_lt (t := t) (p := p) (by omega)
  have hl := tE_lt hp
  unfold tK at h
  rw [if_neg (by omega)] at h
  split at h
  · rename_i e
    split at h
    · rename_i e8
      refine ⟨?_, ?_, fun c hc => ?_⟩
      · unfold tW; rw [wlt_len]; omega
      · unfold tW; rw [wlt_len]; exact e8
      · unfold tW wlt at hc
        rw [List.mem_map] at hc
        obtain ⟨i, hi, rfl⟩ := hc
        rw [List.mem_range] at hi
        have key : ∀ (f p2 : Nat), ∀ j, p2 ≤ j → j < scn t isLc f p2 → isLc (cAt t j) = true := by
          intro f
          induction f with
          | zero => intro p2 j h1 h2; simp only [scn] at h2; omega
          | succ f ih =>
            intro p2 j h1 h2
            simp only [scn] at h2
            split at h2
            · rename_i e2
              by_cases ej : j = p2
              · rw [ej]; exact e2
              · exact ih (p2 + 1) j (by omega) h2
            · omega
        have e3 : tE t p = scn t isLc (t.1 - p) p := by
          unfold tE
          rw [if_neg (by omega), if_pos e]
        have := key (t.1 - p) p (p + i) (by omega) (by rw [← e3]; omega)
        simp only [isLc, Bool.and_eq_true, decide_eq_true_eq] at this
        omega
    · cases h
  · split at h
    · split at h <;> cases h
    · split at h <;> cases h
theorem isSc_ix : ∀ c, c < 128 → ((ixS 0 c 0 (sby 0).length < 0) = (isSc c = false)) := by
  have h : ∀ c, c < 128 → (decide (ixS 0 c 0 (sby 0).length < 0) = decide (isSc c = false)) := by decide +kernel
  intro c hc
  exact propext (decide_eq_decide.mp (h c hc))
