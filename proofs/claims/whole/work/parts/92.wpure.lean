/-! THE LAW WORKED WITHOUT CALLS: against what rdL tells -/
abbrev RC : Type := Nat → Int32
abbrev RS : Type := List (Bool × RC)
def smV (X : RC) : Int32 := if X 5 = 21 then X 4 - X 6 else X 4 + X 6
def smX (X : RC) : RC := upd (upd X 4 (smV X)) 7 0
def cmV (X : RC) : Int32 := if X 3 = 24 then b2i (decide (X 2 < smV X)) else if X 3 = 25 then b2i (decide (X 2 = smV X)) else smV X
def kpV (X : RC) : Int32 := if X 1 = 26 then b2i (decide (¬ X 0 = 0) && decide (¬ cmV X = 0)) else if X 1 = 27 then b2i (decide (¬ X 0 = 0) || decide (¬ cmV X = 0)) else cmV X
def tsX (X : RC) : RC := upd (upd (upd (upd (smX X) 0 (kpV X)) 3 0) 4 0) 5 20
def opX (z : RC) : RC := upd (upd (upd (upd (upd z 1 0) 3 0) 4 0) 5 20) 7 0
def cpX (c : Int32) (X : RC) : RC := upd (upd (upd (upd (smX X) 2 (smV X)) 3 c) 4 0) 5 20
def ftX (X : RC) (v : Int32) : RC := upd X 6 (if X 7 = 0 then v else X 6 * v)
def dlV : Int32 → RC → RS → RC × RS
  | v, X, [] => (ftX X v, [])
  | v, X, (k, Y) :: S => if k = true then dlV (if v = 0 then 1 else 0) Y S else (ftX X v, (k, Y) :: S)
def valC (V : Nat → Int32) (c : Int32) : Int32 := if 100 ≤ c then c - 100 else if c = 1 then V 1 else if c = 2 then V 2 else if c = 3 then V 3 else V 4
def WkC (V : Nat → Int32) (W : List Int32 → RC → RS → Int32 → Prop) : Prop := (∀ X, W [] X [] (kpV X)) ∧ (∀ (k : Bool) cs X S R, S.length < 5 → (∀ z, W cs (opX z) ((k, X) :: S) R) → W ((if k = true then 30 else 28) :: cs) X S R) ∧ (∀ c cs X S R, (c = 20 ∨ c = 21) → W cs (upd (smX X) 5 c) S R → W (c :: cs) X S R) ∧ (∀ cs X S R, W cs (upd X 7 22) S R → W (22 :: cs) X S R) ∧ (∀ c cs X S R, (c = 24 ∨ c = 25) → W cs (cpX c X) S R → W (c :: cs) X S R) ∧ (∀ c cs X S R, (c = 26 ∨ c = 27) → W cs (upd (tsX X) 1 c) S R → W (c :: cs) X S R) ∧ (∀ c cs X S R, (c = 1 ∨ c = 2 ∨ c = 3 ∨ c = 4 ∨ ∃ n, n ≤ 9999 ∧ c = nI (100 + n)) → W cs (dlV (valC V c) X S).1 (dlV (valC V c) X S).2 R → W (c :: cs) X S R) ∧ (∀ k cs X Y S R, W cs (dlV (kpV X) Y S).1 (dlV (kpV X) Y S).2 R → W (29 :: cs) X ((k, Y) :: S) R)
/-- the least relation so closed -/
def Wk (V : Nat → Int32) (cs : List Int32) (X : RC) (S : RS) (R : Int32) : Prop := ∀ W, WkC V W → W cs X S R
section TL
variable {V : Nat → Int32} {cs : List Int32} {X Y : RC} {S : RS} {R c : Int32} {k : Bool}
theorem Wk.nil : Wk V [] X [] (kpV X) := fun W hW => hW.1 X
theorem Wk.push (hl : S.length < 5) (h : ∀ z, Wk V cs (opX z) ((k, X) :: S) R) : Wk V ((if k = true then 30 else 28) :: cs) X S R := fun W hW => hW.2.1 k cs X S R hl (fun z => h z W hW)
theorem Wk.sm (hc : c = 20 ∨ c = 21) (h : Wk V cs (upd (smX X) 5 c) S R) : Wk V (c :: cs) X S R := fun W hW => hW.2.2.1 c cs X S R hc (h W hW)
theorem Wk.ti (h : Wk V cs (upd X 7 22) S R) : Wk V (22 :: cs) X S R := fun W hW => hW.2.2.2.1 cs X S R (h W hW)
theorem Wk.cp (hc : c = 24 ∨ c = 25) (h : Wk V cs (cpX c X) S R) : Wk V (c :: cs) X S R := fun W hW => hW.2.2.2.2.1 c cs X S R hc (h W hW)
theorem Wk.lg (hc : c = 26 ∨ c = 27) (h : Wk V cs (upd (tsX X) 1 c) S R) : Wk V (c :: cs) X S R := fun W hW => hW.2.2.2.2.2.1 c cs X S R hc (h W hW)
theorem Wk.va (hc : c = 1 ∨ c = 2 ∨ c = 3 ∨ c = 4 ∨ ∃ n, n ≤ 9999 ∧ c = nI (100 + n)) (h : Wk V cs (dlV (valC V c) X S).1 (dlV (valC V c) X S).2 R) : Wk V (c :: cs) X S R := fun W hW => hW.2.2.2.2.2.2.1 c cs X S R hc (h W hW)
theorem Wk.cl (h : Wk V cs (dlV (kpV X) Y S).1 (dlV (kpV X) Y S).2 R) : Wk V (29 :: cs) X ((k, Y) :: S) R := fun W hW => hW.2.2.2.2.2.2.2 k cs X Y S R (h W hW)
end TL
def okN2 (S : RS) : Prop := ∀ v X, dlV v X S = (ftX X v, S)
def valL (lvl : Nat) (X : RC) : Int32 := if lvl = 0 then kpV X else if lvl = 1 then cmV X else if lvl = 2 then smV X else X 6
def preL (lvl : Nat) (X : RC) : Prop := (lvl ≤ 3 → X 7 = 0) ∧ (lvl ≤ 2 → X 4 = 0 ∧ X 5 = 20) ∧ (lvl ≤ 1 → X 3 = 0) ∧ (lvl = 0 → X 1 = 0)
/-- what is read at a level, as it stands -/
theorem val_up {lvl : Nat} {X : RC} (hl : lvl ≤ 2) (h : preL lvl X) {X1 : RC} (hk : ∀ j, j < 2 * (lvl + 1) → X1 j = X j) : valL lvl X1 = valL (lvl + 1) X1 := by
  obtain ⟨_, a2, a3, a4⟩ := h
  match lvl, hl with
  | 0, _ =>
    have e := (hk 1 (by decide)).trans (a4 rfl)
    simp [valL, kpV, e]
  | 1, _ =>
    have e := (hk 3 (by decide)).trans (a3 (by decide))
    simp [valL, cmV, e]
  | 2, _ =>
    have e4 := (hk 4 (by decide)).trans (a2 (by decide)).1
    have e5 := (hk 5 (by decide)).trans (a2 (by decide)).2
    simp [valL, smV, e4, e5]
/-- an operator, and what comes of it -/
def opL (lvl : Nat) (c : Int32) (X : RC) : RC := if lvl = 0 then upd (tsX X) 1 c else if lvl = 1 then cpX c X else if lvl = 2 then upd (smX X) 5 c else upd X 7 22
theorem op_pre {lvl : Nat} {c : Int32} {X : RC} (hl : lvl ≤ 3) : preL (lvl + 1) (opL lvl c X) ∧ ∀ j, j < 2 * lvl → opL lvl c X j = X j := by
  match lvl, hl with
  | 0, _ => exact ⟨⟨fun _ => by simp [opL, tsX, smX, upd], fun _ => ⟨by simp [opL, tsX, smX, upd], by simp [opL, tsX, smX, upd]⟩, fun _ => by simp [opL, tsX, smX, upd], fun e => by omega⟩, fun j hj => by omega⟩
  | 1, _ => exact ⟨⟨fun _ => by simp [opL, cpX, smX, upd], fun _ => ⟨by simp [opL, cpX, smX, upd], by simp [opL, cpX, smX, upd]⟩, fun e => by omega, fun e => by omega⟩, fun j hj => by
      have h2 : j ≠ 2 ∧ j ≠ 3 ∧ j ≠ 4 ∧ j ≠ 5 ∧ j ≠ 7 := by omega
      simp [opL, cpX, smX, upd, h2]⟩
  | 2, _ => exact ⟨⟨fun _ => by simp [opL, smX, upd], fun e => by omega, fun e => by omega, fun e => by omega⟩, fun j hj => by
      have h2 : j ≠ 4 ∧ j ≠ 5 ∧ j ≠ 7 := by omega
      simp [opL, smX, upd, h2]⟩
  | 3, _ => exact ⟨⟨fun e => by omega, fun e => by omega, fun e => by omega, fun e => by omega⟩, fun j hj => by
      have h2 : j ≠ 7 := by omega
      simp [opL, upd, h2]⟩
def opC (lvl : Nat) (c : Int32) : Prop := (lvl = 0 ∧ (c = -6 ∨ c = -7)) ∨ (lvl = 1 ∧ (c = -8 ∨ c = -9)) ∨ (lvl = 2 ∧ (c = -10 ∨ c = -11)) ∨ (lvl = 3 ∧ c = -12)
theorem jc_C {t : TP} {lvl p : Nat} (hl : lvl ≤ 3) (h : ¬ jc lvl t p = 0) : opC lvl (jc lvl t p) := by
  match lvl, hl with
  | 0, _ => rcases jc0_n h with e | ⟨e, e2⟩ <;> simp [opC, jc, e, *]
  | 1, _ => rcases jc1_n h with e | ⟨e, e2⟩ <;> simp [opC, jc, e, *]
  | 2, _ => rcases jc2_n h with e | ⟨e, e2⟩ <;> simp [opC, jc, e, *]
  | 3, _ => have e := jc3_n h; simp [opC, jc, e]
theorem op_wk {V : Nat → Int32} {lvl : Nat} {c : Int32} {cs : List Int32} {X : RC} {S : RS} {R : Int32} (hc : opC lvl c) (h : Wk V cs (opL lvl (fj c) X) S R) : Wk V (fj c :: cs) X S R := by
  rcases hc with ⟨rfl, rfl | rfl⟩ | ⟨rfl, rfl | rfl⟩ | ⟨rfl, rfl | rfl⟩ | ⟨rfl, rfl⟩
  · exact Wk.lg (Or.inl rfl) h
  · exact Wk.lg (Or.inr rfl) h
  · exact Wk.cp (Or.inl rfl) h
  · exact Wk.cp (Or.inr rfl) h
  · exact Wk.sm (Or.inl rfl) h
  · exact Wk.sm (Or.inr rfl) h
  · exact Wk.ti h
/-- the operator's answer, below the product -/
theorem op_val {lvl : Nat} {c u v : Int32} {X X1 : RC} (hl : lvl ≤ 2) (hc : opC lvl c) (hu : valL lvl X = u) (h3 : lvl = 1 → X 3 = 0) (hk : ∀ j, j < 2 * (lvl + 1) → X1 j = opL lvl (fj c) X j) (hv : valL (lvl + 1) X1 = v) : valL lvl X1 = jnd c u v := by
  subst hu hv
  rcases hc with ⟨rfl, rfl | rfl⟩ | ⟨rfl, rfl | rfl⟩ | ⟨rfl, rfl | rfl⟩ | ⟨rfl, rfl⟩
  · have k0 := hk 0 (by decide)
    have k1 := hk 1 (by decide)
    simp [opL, tsX, smX, upd, fj] at k0 k1
    simp [valL, jnd, kpV, k0, k1]
  · have k0 := hk 0 (by decide)
    have k1 := hk 1 (by decide)
    simp [opL, tsX, smX, upd, fj] at k0 k1
    simp [valL, jnd, kpV, k0, k1]
  · have k0 := hk 2 (by decide)
    have k1 := hk 3 (by decide)
    simp [opL, cpX, smX, upd, fj] at k0 k1
    simp [valL, jnd, cmV, k0, k1, h3 rfl]
  · have k0 := hk 2 (by decide)
    have k1 := hk 3 (by decide)
    simp [opL, cpX, smX, upd, fj] at k0 k1
    simp [valL, jnd, cmV, k0, k1, h3 rfl]
  · have k0 := hk 4 (by decide)
    have k1 := hk 5 (by decide)
    simp [opL, smX, upd, fj] at k0 k1
    simp only [valL, jnd]
    rw [show smV X1 = smV X + X1 6 by simp [smV, k0, k1]]
    simp
  · have k0 := hk 4 (by decide)
    have k1 := hk 5 (by decide)
    simp [opL, smX, upd, fj] at k0 k1
    simp only [valL, jnd]
    rw [show smV X1 = smV X - X1 6 by simp [smV, k0, k1]]
    simp
  · omega
def vN (gg tt mm ww : Int32) : Nat → Int32 := fun i => if i = 1 then gg else if i = 2 then tt else if i = 3 then mm else ww
theorem vfl_D {t : TP} {p : Nat} {gg tt mm ww : Int32} {V : Nat → Int32} (hV : V 1 = gg ∧ V 2 = tt ∧ V 3 = mm ∧ V 4 = ww) (h : isPt t p = true) (h3 : (isWd t p 15 || isSg t p 40) = false) : valC V (vflat t p) = vD (vcode t p) gg tt mm ww ∧ (vflat t p = 1 ∨ vflat t p = 2 ∨ vflat t p = 3 ∨ vflat t p = 4 ∨ ∃ n, n ≤ 9999 ∧ vflat t p = nI (100 + n)) := by
  obtain ⟨v1, v2, v3, v4⟩ := hV
  by_cases h2 : tK t p = 2
  · have hv := tV_le h2
    have e1 : vflat t p = nI (100 + tV t p) := by simp only [vflat]; rw [if_pos h2]
    have e2 : vcode t p = nI (tV t p) := by simp only [vcode]; rw [if_pos h2]
    refine ⟨?_, Or.inr (Or.inr (Or.inr (Or.inr ⟨tV t p, hv, e1⟩)))⟩
    rw [e1, e2]
    simp only [valC, vD]
    rw [if_pos (show (100 : Int32) ≤ nI (100 + tV t p) from (nI_leI (a := 100) (by omega) (by omega)).mpr (by omega)), if_pos (show (0 : Int32) ≤ nI (tV t p) from (nI_leI (a := 0) (by omega) (by omega)).mpr (by omega)), show (100 : Int32) = nI 100 from rfl, pk_sub (by omega), Nat.add_sub_cancel_left]
  · have hf := (vfl_f h h3).2
    have hk : ¬ fctI t p = 0 := fun e => h2 (hf e)
    simp only [vflat, vcode]
    rw [if_neg h2, if_neg h2]
    simp only [fctI] at hk
    by_cases w1 : isWd t p 16 = true
    · simp [w1, valC, vD, fct, v1]
    · by_cases w2 : isWd t p 17 = true
      · simp [w1, w2, valC, vD, fct, v2]
      · by_cases w3 : isWd t p 18 = true
        · simp [w1, w2, w3, valC, vD, fct, v3]
        · by_cases w4 : isWd t p 19 = true
          · simp [w1, w2, w3, w4, valC, vD, fct, v4]
          · exact absurd (by simp [w1, w2, w3, w4]) hk
def WA4 (V : Nat → Int32) (cs : List Int32) (v : Int32) (dep : Nat) : Prop := ∀ X S rest R, S.length = dep → Wk V rest (dlV v X S).1 (dlV v X S).2 R → Wk V (cs ++ rest) X S R
def WL0 (V : Nat → Int32) (lvl : Nat) (cs : List Int32) (v : Int32) (dep : Nat) : Prop := ∀ X S rest R, S.length = dep → okN2 S → preL lvl X → (∀ X1, valL lvl X1 = v → (∀ j, j < 2 * lvl → X1 j = X j) → Wk V rest X1 S R) → Wk V (cs ++ rest) X S R
def WL1 (V : Nat → Int32) (lvl : Nat) (cs : List Int32) (u v : Int32) (dep : Nat) : Prop := ∀ X S rest R, S.length = dep → okN2 S → valL lvl X = u → (lvl = 1 → X 3 = 0) → (∀ X1, valL lvl X1 = v → (∀ j, j < 2 * lvl → X1 j = X j) → Wk V rest X1 S R) → Wk V (cs ++ rest) X S R
theorem wk_rd {t : TP} {gg tt mm ww : Int32} {V : Nat → Int32} (hV : V 1 = gg ∧ V 2 = tt ∧ V 3 = mm ∧ V 4 = ww) : ∀ (n m lvl dep : Nat) (r r1 : RA), rdL t n m lvl dep r = some (.inr r1) → lvl ≤ 4 → (m ≠ 0 → lvl < 4) → ∃ cs, r1.2.2.2 = r.2.2.2 ++ cs ∧ (m = 0 → lvl = 4 → WA4 V cs (r1.2.1 gg tt mm ww) dep) ∧ (m = 0 → lvl < 4 → WL0 V lvl cs (r1.2.1 gg tt mm ww) dep) ∧ (m ≠ 0 → lvl < 4 → WL1 V lvl cs (r.2.1 gg tt mm ww) (r1.2.1 gg tt mm ww) dep)
  | 0, _, _, _, _, _, h, _, _ => by cases h
  | n + 1, m, lvl, dep, r, r1, h, hl, hml => by
    unfold rdL at h
    split at h
    · rename_i hm
      subst hm
      split at h
      · rename_i hl4
        rcases obd_r h with ⟨e, _, h2⟩ | ⟨r2, h1, h2⟩
        · cases h2
        · obtain ⟨c1, e1, p1, p2, _⟩ := wk_rd hV n 0 (lvl + 1) dep r r2 h1 (by omega) (fun e => absurd rfl e)
          obtain ⟨c2, e2, _, _, q3⟩ := wk_rd hV n 1 lvl dep r2 r1 h2 hl (fun _ => hl4)
          refine ⟨c1 ++ c2, by rw [e2, e1, List.append_assoc], fun _ e => by omega, fun _ _ => ?_, fun e => absurd rfl e⟩
          intro X S rest R hS hok hp kk
          rw [List.append_assoc]
          have hq := q3 (by decide) hl4
          by_cases h3 : lvl = 3
          · refine p1 rfl (by omega) X S _ R hS ?_
            rw [hok]
            have h7 := hp.1 (by omega)
            refine hq _ S rest R hS hok ?_ (fun e => by omega) (fun X1 v1 k1 => kk X1 v1 (fun j hj => ?_))
            · subst h3
              simp [valL, ftX, upd, h7]
            · rw [k1 j hj]
              have : j ≠ 6 := by omega
              simp [ftX, upd, this]
          · refine p2 rfl (by omega) X S _ R hS hok ⟨fun e => hp.1 (by omega), fun e => hp.2.1 (by omega), fun e => hp.2.2.1 (by omega), fun e => by omega⟩ (fun X1 v1 k1 => ?_)
            refine hq X1 S rest R hS hok ?_ (fun e => ?_) (fun X2 v2 k2 => kk X2 v2 (fun j hj => (k2 j hj).trans (k1 j (by omega))))
            · rw [val_up (by omega) hp k1]; exact v1
            · rw [k1 3 (by omega)]; exact hp.2.2.1 (by omega)
      · rename_i hl4
        split at h
        · rename_i hpt
          split at h
          · cases h
          · rename_i hdep
            split at h
            · rename_i h40
              rcases obd_r h with ⟨e, _, h2⟩ | ⟨r2, h1, h2⟩
              · cases h2
              · obtain ⟨c1, e1, _, p2, _⟩ := wk_rd hV n 0 0 (dep + 1) _ r2 h1 (by decide) (fun e => absurd rfl e)
                split at h2
                · cases h2
                  refine ⟨28 :: c1 ++ [29], by rw [e1]; simp, fun _ _ => ?_, fun _ e => by omega, fun e => absurd rfl e⟩
                  intro X S rest R hS hr
                  rw [show 28 :: c1 ++ [29] ++ rest = (if false = true then 30 else 28) :: (c1 ++ (29 :: rest)) by simp]
                  refine Wk.push (by omega) (fun z => ?_)
                  refine p2 rfl (by decide) (opX z) _ _ R (by simp [hS]) (fun v X2 => rfl) ⟨fun _ => by simp [opX, upd], fun _ => ⟨by simp [opX, upd], by simp [opX, upd]⟩, fun _ => by simp [opX, upd], fun _ => by simp [opX, upd]⟩ (fun X1 v1 _ => ?_)
                  refine Wk.cl ?_
                  rw [show kpV X1 = r2.2.1 gg tt mm ww from v1]
                  exact hr
                · cases h2
            · rename_i h40
              split at h
              · rename_i h15
                rcases obd_r h with ⟨e, _, h2⟩ | ⟨r2, h1, h2⟩
                · cases h2
                · obtain ⟨c1, e1, p1, _, _⟩ := wk_rd hV n 0 4 (dep + 1) _ r2 h1 (by decide) (fun e => absurd rfl e)
                  cases h2
                  refine ⟨30 :: c1, by rw [e1]; simp, fun _ _ => ?_, fun _ e => by omega, fun e => absurd rfl e⟩
                  intro X S rest R hS hr
                  rw [show 30 :: c1 ++ rest = (if true = true then 30 else 28) :: (c1 ++ rest) by simp]
                  refine Wk.push (by omega) (fun z => ?_)
                  exact p1 rfl rfl (opX z) _ rest R (by simp [hS]) hr
              · rename_i h15
                cases h
                rw [Bool.not_eq_true] at h40 h15
                obtain ⟨g1, g2⟩ := vfl_D hV hpt (by rw [h40, h15]; rfl)
                refine ⟨[vflat t r.1], rfl, fun _ _ => ?_, fun _ e => by omega, fun e => absurd rfl e⟩
                intro X S rest R hS hr
                refine Wk.va g2 ?_
                rw [g1]
                exact hr
        · cases h
    · rename_i hm
      split at h
      · cases h
        exact ⟨[], by simp, fun e => absurd e hm, fun e => absurd e hm, fun _ _ X S rest R hS hok hu _ kk => kk X hu (fun _ _ => rfl)⟩
      · rename_i hj
        by_cases hl4 : lvl < 4
        · have hC := jc_C (by omega) hj
          rcases obd_r h with ⟨e, _, h2⟩ | ⟨r2, h1, h2⟩
          · cases h2
          · obtain ⟨c1, e1, p1, p2, _⟩ := wk_rd hV n 0 (lvl + 1) dep _ r2 h1 (by omega) (fun e => absurd rfl e)
            have step : ∀ X S rest R, S.length = dep → okN2 S → valL lvl X = r.2.1 gg tt mm ww → (lvl = 1 → X 3 = 0) → (∀ X1, valL lvl X1 = jnd (jc lvl t r.1) (r.2.1 gg tt mm ww) (r2.2.1 gg tt mm ww) → (∀ j, j < 2 * lvl → X1 j = X j) → Wk V rest X1 S R) → Wk V (fj (jc lvl t r.1) :: (c1 ++ rest)) X S R := by
              intro X S rest R hS hok hu h3 kk
              refine op_wk hC ?_
              obtain ⟨o1, o2⟩ := op_pre (lvl := lvl) (c := fj (jc lvl t r.1)) (X := X) (by omega)
              by_cases hl3 : lvl = 3
              · refine p1 rfl (by omega) _ S rest R hS ?_
                rw [hok]
                subst hl3
                have hc : jc 3 t r.1 = -12 := by
                  rcases hC with ⟨e, _⟩ | ⟨e, _⟩ | ⟨e, _⟩ | ⟨_, e⟩
                  · omega
                  · omega
                  · omega
                  · exact e
                refine kk _ ?_ (fun j hj => ?_)
                · rw [← hu, hc]
                  simp [valL, ftX, opL, upd, jnd]
                · have h2 : j ≠ 6 ∧ j ≠ 7 := by omega
                  simp [ftX, opL, upd, h2]
              · refine p2 rfl (by omega) _ S rest R hS hok o1 (fun X1 v1 k1 => ?_)
                exact kk X1 (op_val (by omega) hC hu h3 k1 v1) (fun j hj => (k1 j (by omega)).trans (o2 j hj))
            split at h2
            · rename_i hl1
              cases h2
              refine ⟨fj (jc lvl t r.1) :: c1, by rw [e1]; simp, fun e => absurd e hm, fun e => absurd e hm, fun _ _ => ?_⟩
              intro X S rest R hS hok hu h3 kk
              exact step X S rest R hS hok hu h3 kk
            · rename_i hl1
              obtain ⟨c2, e2, _, _, q3⟩ := wk_rd hV n 1 lvl dep _ r1 h2 hl (fun _ => hl4)
              refine ⟨fj (jc lvl t r.1) :: (c1 ++ c2), by rw [e2, e1]; simp, fun e => absurd e hm, fun e => absurd e hm, fun _ _ => ?_⟩
              intro X S rest R hS hok hu h3 kk
              rw [show fj (jc lvl t r.1) :: (c1 ++ c2) ++ rest = fj (jc lvl t r.1) :: (c1 ++ (c2 ++ rest)) by simp]
              refine step X S _ R hS hok hu h3 (fun X1 v1 k1 => ?_)
              exact q3 (by decide) hl4 X1 S rest R hS hok v1 (fun e => absurd e hl1) (fun X2 v2 k2 => kk X2 v2 (fun j hj => (k2 j hj).trans (k1 j hj)))
        · exact absurd (hml hm) hl4
theorem wk_all {t : TP} {n p : Nat} {r : RA} {gg tt mm ww : Int32} {V : Nat → Int32} (hV : V 1 = gg ∧ V 2 = tt ∧ V 3 = mm ∧ V 4 = ww) (h : rdL t n 0 0 0 (p, dfl, [], []) = some (.inr r)) (z : RC) : Wk V r.2.2.2 (opX z) [] (r.2.1 gg tt mm ww) := by
  obtain ⟨cs, e, _, p2, _⟩ := wk_rd hV n 0 0 0 _ r h (by decide) (fun e => absurd rfl e)
  have e : r.2.2.2 = cs := e
  rw [e, ← List.append_nil cs]
  refine p2 rfl (by decide) (opX z) [] [] _ rfl (fun v X => rfl) ⟨fun _ => by simp [opX, upd], fun _ => ⟨by simp [opX, upd], by simp [opX, upd]⟩, fun _ => by simp [opX, upd], fun _ => by simp [opX, upd]⟩ (fun X1 v1 _ => ?_)
  rw [← v1]
  exact Wk.nil
