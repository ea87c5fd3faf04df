/-! FEWEST OF THE CLASS -/
theorem bitz (y : Int32) (p : Nat) : (ibop 3 (ibop 7 y (nI p)) 1 = 0) = (bit y p = false) := by
  simp [bit, ibop]
theorem sh_pow : ∀ P, P ≤ 6 → ibop 6 1 (nI P) = nI (2 ^ P) := by
  intro P hP
  have h : ∀ P, P < 7 → ibop 6 1 (nI P) = nI (2 ^ P) := by decide
  exact h P (by omega)
def hrsA (A : LA) (n : Nat) (s : ST) : ST := lpN (fun _ s => hourA A s) 0 n s
theorem lpN_sh {σ : Type} {f : σ → σ} : ∀ (k i j : Nat) (s : σ), lpN (fun _ s => f s) i k s = lpN (fun _ s => f s) j k s
  | 0, _, _, _ => rfl
  | k + 1, i, j, s => lpN_sh k (i + 1) (j + 1) (f s)
def endsA (A : LA) (n : Nat) (s : ST) : Bool := decide (bset (sitA (hrsA A n s)) (lP A) = 0)
def moveA (set : Int32) (q p : Nat) (s : ST) : ST := if bit set p = true then wlkA s p q else s
def allB (f : Nat → Bool) : Nat → Nat → Bool
  | _, 0 => true
  | i, k + 1 => if f i = true then allB f (i + 1) k else false
def allW (A : LA) (s : ST) (set : Int32) (q : Nat) : Bool := allB (fun p => !bit set p || cwkA A s p q) 0 (lP A)
def savT (A : LA) (s : ST) (set : Int32) (n q : Nat) : Bool := allW A s set q && endsA A n (lpN (moveA set q) 0 (lP A) s)
def savN (f : Nat → Bool) : Nat → Nat → Int32
  | _, 0 => -2
  | i, k + 1 => if f i = true then nI i else savN f (i + 1) k
def savA (A : LA) (s : ST) (n : Nat) (set : Int32) : Int32 := if set = 0 then (if endsA A n s = true then -1 else -2) else savN (savT A s set n) 0 (lS A)
def fewS (f : Nat → Int32) (z : Nat) : Nat → Nat → Option Nat
  | _, 0 => none
  | i, k + 1 => if nbt (nI i) = nI z ∧ ¬ f i = -2 then some i else fewS f z (i + 1) k
def fewZ (f : Nat → Int32) (M : Nat) : Nat → Nat → Option Nat
  | _, 0 => none
  | z, k + 1 => if (fewS f z 0 M).isSome = true then fewS f z 0 M else fewZ f M (z + 1) k
def fewR (f : Nat → Int32) (v : Int32) : Option Nat → Int32
  | none => -2
  | some i => if v = 0 then nI i else f i
def fewF (o : SG) (n i : Nat) : Int32 := savA (gA o) (gS o) n (nI i)
def q_fewest (o : SG) (u v : Int32) : Int32 := if (isW2 u 1 24 && isW2 v 0 1) = true then fewR (fewF o (ix u)) v (fewZ (fewF o (ix u)) (2 ^ lP (gA o)) 0 (lP (gA o) + 1)) else -2
section P7
variable {E : EV} {d x : Nat} {F : FT} {G : GT} {b : Bool} {o : SG} {u v w : Int32}
theorem l_ends (hw : WF o) (hd : 50 ≤ d) {n : Nat} (hn : n ≤ 99) : ∀ (r i : Nat) (iv : Int32) (s : ST) (F : FT), iv = nI i → i + r = n → CInv F G b o → CS F 21 (lP (gA o)) s → Td E d 121 2 [some (vr 1 0), some (vi (nI n)), some (vi iv)] [] x F G b (some (vi (b2i (decide (bset (sitA (lpN (fun _ s => hourA (gA o) s) i r s)) (lP (gA o)) = 0))))) (fun F2 G2 => G2 = G ∧ FrD (dSt 21) F F2) := by
  intro r
  induction r with
  | zero =>
    intro i iv s F hiv hir h hT
    subst hiv
    have hi : i = n := by omega
    have hL := h.2.1
    have hA := hw.1
    have hS := h.2.2.2.1.1
    have hwS := hw.2.1.1
    have hP6 := hA.2.1
    have hS5 := hA.1
    refine d_run 2 rfl ?_
    refine d_ic_ge k121_4 (fun h4 => ?_) (fun h4 => ?_)
    · refine d_run 1 rfl ?_
      refine d_gR k121_26 (by first | assumption | exact Nat.le_of_ble_eq_true rfl | omega) ⟨rfl, rfl, rfl⟩ rfl ?_
      refine d_run 1 rfl ?_
      refine d_gR k121_30 (by first | assumption | exact Nat.le_of_ble_eq_true rfl | omega) ⟨rfl, rfl, rfl⟩ (Rs_land _) ?_
      refine d_callT 2 k121_33 (by omega) (Nat.le_of_ble_eq_true rfl) rfl (Nat.le_of_ble_eq_true rfl) (Nat.le_of_ble_eq_true rfl) (recv_ok rfl (by first | assumption | exact Nat.le_of_ble_eq_true rfl | omega | exact Nat.lt_of_lt_of_le (m := 27) (by omega) (Nat.le_of_ble_eq_true rfl))) rfl (a_sitters (n := 21) (by omega) (lx2 b) hL hA hT (by omega)) rfl ?_
      refine d_if_ne k121_36 (fun h36 => ?_) (fun h36 => ?_)
      · refine d_run 1 rfl ?_
        refine d_ib k121_44 (by simp [lpN, h36, b2i]) ?_
        exact ⟨rfl, FrD.rf⟩
      · refine d_run 2 rfl ?_
        refine d_ib k121_44 (by simp [lpN, h36, b2i]) ?_
        exact ⟨rfl, FrD.rf⟩
    · exact absurd (lt_nI h4 rfl (by omega) (by omega)) (by omega)
  | succ r ih =>
    intro i iv s F hiv hir h hT
    subst hiv
    have hi : i < n := by omega
    have hL := h.2.1
    have hA := hw.1
    have hS := h.2.2.2.1.1
    have hwS := hw.2.1.1
    have hP6 := hA.2.1
    have hS5 := hA.1
    refine d_run 2 rfl ?_
    refine d_ic_ge k121_4 (fun h4 => ?_) (fun h4 => ?_)
    · exact absurd (ge_nI h4 rfl (by omega) (by omega)) (by omega)
    · refine d_run 1 rfl ?_
      refine d_gR k121_8 (by first | assumption | exact Nat.le_of_ble_eq_true rfl | omega) ⟨rfl, rfl, rfl⟩ rfl ?_
      refine d_run 1 rfl ?_
      refine d_gR k121_12 (by first | assumption | exact Nat.le_of_ble_eq_true rfl | omega) ⟨rfl, rfl, rfl⟩ (Rs_land _) ?_
      refine d_call 2 k121_15 (by omega) (Nat.le_of_ble_eq_true rfl) rfl (Nat.le_of_ble_eq_true rfl) (Nat.le_of_ble_eq_true rfl) (recv_ok rfl (by first | assumption | exact Nat.le_of_ble_eq_true rfl | omega | exact Nat.lt_of_lt_of_le (m := 27) (by omega) (Nat.le_of_ble_eq_true rfl))) rfl (a_hour (n := 21) (by omega) (lx2 b) hL hA hT (by omega)) rfl ?_
      rintro F1 G1 ⟨rfl, k1, f1⟩
      refine d_run 3 rfl ?_
      exact td_mo (ih (i + 1) _ _ F1 (nI_1 i) (by omega) (h.fr (dSt_Q (by omega) f1) (fun _ _ => rfl)) k1) (fun F2 G2 e => ⟨e.1, f1.tr e.2⟩)
theorem a_ends (hw : WF o) (hd : 50 ≤ d) {n : Nat} (hn : n ≤ 99) {s : ST} (h : CInv F G b o) (hT : CS F 21 (lP (gA o)) s) : Td E d 121 0 [some (vr 1 0), some (vi (nI n)), none] [] x F G b (some (vi (b2i (endsA (gA o) n s)))) (fun F2 G2 => G2 = G ∧ FrD (dSt 21) F F2) := by
  refine d_run 2 rfl ?_
  exact l_ends hw hd hn n 0 _ s F rfl (by omega) h hT
theorem l_allW (hw : WF o) (hd : 50 ≤ d) (h : CInv F G b o) {q : Nat} : ∀ (r i : Nat) (iv : Int32) , iv = nI i → i + r = lP (gA o) → Td E d 120 2 [some (vr 1 0), some (vi u), some (vi (nI q)), some (vi iv)] [] x F G b (some (vi (b2i (allB (fun p => !bit u p || cwkA (gA o) (gS o) p q) i r)))) (fun F2 G2 => G2 = G ∧ F2 = F) := by
  intro r
  induction r with
  | zero =>
    intro i iv  hiv hir 
    subst hiv
    have hi : i = lP (gA o) := by omega
    have hL := h.2.1
    have hA := hw.1
    have hS := h.2.2.2.1.1
    have hwS := hw.2.1.1
    have hP6 := hA.2.1
    have hS5 := hA.1
    refine d_run 2 rfl ?_
    refine d_gR k120_4 (by first | assumption | exact Nat.le_of_ble_eq_true rfl | omega) ⟨rfl, rfl, rfl⟩ (Rs_land _) ?_
    refine d_gI k120_7 (by first | assumption | exact lx2 _ | exact Nat.le_of_ble_eq_true rfl | omega | exact Nat.lt_of_lt_of_le (m := 2) (by omega) (Nat.le_of_ble_eq_true rfl)) ⟨rfl, rfl, Or.inl rfl⟩ ?_
    refine d_ic_ge k120_10 (fun h10 => ?_) (fun h10 => ?_)
    · refine d_run 1 rfl ?_
      refine d_ib k120_49 (by rfl) ?_
      exact ⟨rfl, rfl⟩
    · exact absurd (lt_nI h10 hL.2.1 (by omega) (by omega)) (by omega)
  | succ r ih =>
    intro i iv  hiv hir 
    subst hiv
    have hi : i < lP (gA o) := by omega
    have hL := h.2.1
    have hA := hw.1
    have hS := h.2.2.2.1.1
    have hwS := hw.2.1.1
    have hP6 := hA.2.1
    have hS5 := hA.1
    refine d_run 2 rfl ?_
    refine d_gR k120_4 (by first | assumption | exact Nat.le_of_ble_eq_true rfl | omega) ⟨rfl, rfl, rfl⟩ (Rs_land _) ?_
    refine d_gI k120_7 (by first | assumption | exact lx2 _ | exact Nat.le_of_ble_eq_true rfl | omega | exact Nat.lt_of_lt_of_le (m := 2) (by omega) (Nat.le_of_ble_eq_true rfl)) ⟨rfl, rfl, Or.inl rfl⟩ ?_
    refine d_ic_ge k120_10 (fun h10 => ?_) (fun h10 => ?_)
    · exact absurd (ge_nI h10 hL.2.1 (by omega) (by omega)) (by omega)
    · refine d_run 5 rfl ?_
      refine d_if_eq k120_18 (fun h18 => ?_) (fun h18 => ?_)
      · rw [bitz] at h18
        refine d_run 2 rfl ?_
        have k1 := ih (i + 1) _ (nI_1 i) (by omega)
        simp only [allB]
        rw [if_pos (by simp [*])]
        exact k1
      · rw [bitz, Bool.not_eq_false] at h18
        refine d_run 1 rfl ?_
        refine d_gR k120_22 (by first | assumption | exact Nat.le_of_ble_eq_true rfl | omega) ⟨rfl, rfl, rfl⟩ rfl ?_
        refine d_gR k120_25 (by first | assumption | exact Nat.le_of_ble_eq_true rfl | omega | exact Nat.lt_of_lt_of_le (m := 5) (by omega) (Nat.le_of_ble_eq_true rfl)) ⟨rfl, rfl, rfl⟩ rfl ?_
        refine d_run 1 rfl ?_
        refine d_gR k120_29 (by first | assumption | exact Nat.le_of_ble_eq_true rfl | omega) ⟨rfl, rfl, rfl⟩ (Rs_land _) ?_
        refine d_run 2 rfl ?_
        refine d_callT 4 k120_34 (by omega) (Nat.le_of_ble_eq_true rfl) rfl (Nat.le_of_ble_eq_true rfl) (Nat.le_of_ble_eq_true rfl) (recv_ok rfl (by first | assumption | exact Nat.le_of_ble_eq_true rfl | omega | exact Nat.lt_of_lt_of_le (m := 27) (by omega) (Nat.le_of_ble_eq_true rfl))) rfl (a_canWalk (by omega) (lx2 b) hL hA hS hwS hi (by omega)) rfl ?_
        refine d_if_ne k120_37 (fun h37 => ?_) (fun h37 => ?_)
        · rw [b2i0, Bool.not_eq_false] at h37
          refine d_run 2 rfl ?_
          have k1 := ih (i + 1) _ (nI_1 i) (by omega)
          simp only [allB]
          rw [if_pos (by simp [*])]
          exact k1
        · rw [b2i0] at h37
          refine d_run 1 rfl ?_
          refine d_ib k120_41 (by simp [allB, h18, h37]; rfl) ?_
          exact ⟨rfl, rfl⟩
theorem a_allW (hw : WF o) (hd : 50 ≤ d) (h : CInv F G b o) {q : Nat} : Td E d 120 0 [some (vr 1 0), some (vi u), some (vi (nI q)), none] [] x F G b (some (vi (b2i (allW (gA o) (gS o) u q)))) (fun F2 G2 => G2 = G ∧ F2 = F) := by
  refine d_run 2 rfl ?_
  exact l_allW hw hd h (lP (gA o)) 0 _ rfl (by omega)
theorem l_move (hw : WF o) (hd : 50 ≤ d) {q : Nat} {R : Option PV} {QQ : FT → GT → Prop} : ∀ (r i : Nat) (iv : Int32) (s : ST) (F : FT), iv = nI i → i + r = lP (gA o) → CInv F G b o → CS F 21 (lP (gA o)) s → (∀ F2, CS F2 21 (lP (gA o)) (lpN (moveA u q) i r s) → FrD (dSt 21) F F2 → Td E d 119 110 [some (vr 1 0), some (vi u), some (vi v), some (vi (nI q)), none] [] x F2 G b R QQ) → Td E d 119 72 [some (vr 1 0), some (vi u), some (vi v), some (vi (nI q)), some (vi iv)] [] x F G b R (QQ) := by
  intro r
  induction r with
  | zero =>
    intro i iv s F hiv hir h hT kk
    subst hiv
    have hi : i = lP (gA o) := by omega
    have hL := h.2.1
    have hA := hw.1
    have hS := h.2.2.2.1.1
    have hwS := hw.2.1.1
    have hP6 := hA.2.1
    have hS5 := hA.1
    refine d_run 2 rfl ?_
    refine d_gR k119_75 (by first | assumption | exact Nat.le_of_ble_eq_true rfl | omega) ⟨rfl, rfl, rfl⟩ (Rs_land _) ?_
    refine d_gI k119_78 (by first | assumption | exact lx2 _ | exact Nat.le_of_ble_eq_true rfl | omega | exact Nat.lt_of_lt_of_le (m := 2) (by omega) (Nat.le_of_ble_eq_true rfl)) ⟨rfl, rfl, Or.inl rfl⟩ ?_
    refine d_ic_ge k119_81 (fun h81 => ?_) (fun h81 => ?_)
    · refine d_le (L1 := [some (vr 1 0), some (vi u), some (vi v), some (vi (nI q)), none]) (by simp [leL]) ?_
      exact kk F hT FrD.rf
    · exact absurd (lt_nI h81 hL.2.1 (by omega) (by omega)) (by omega)
  | succ r ih =>
    intro i iv s F hiv hir h hT kk
    subst hiv
    have hi : i < lP (gA o) := by omega
    have hL := h.2.1
    have hA := hw.1
    have hS := h.2.2.2.1.1
    have hwS := hw.2.1.1
    have hP6 := hA.2.1
    have hS5 := hA.1
    refine d_run 2 rfl ?_
    refine d_gR k119_75 (by first | assumption | exact Nat.le_of_ble_eq_true rfl | omega) ⟨rfl, rfl, rfl⟩ (Rs_land _) ?_
    refine d_gI k119_78 (by first | assumption | exact lx2 _ | exact Nat.le_of_ble_eq_true rfl | omega | exact Nat.lt_of_lt_of_le (m := 2) (by omega) (Nat.le_of_ble_eq_true rfl)) ⟨rfl, rfl, Or.inl rfl⟩ ?_
    refine d_ic_ge k119_81 (fun h81 => ?_) (fun h81 => ?_)
    · exact absurd (ge_nI h81 hL.2.1 (by omega) (by omega)) (by omega)
    · refine d_run 5 rfl ?_
      refine d_if_eq k119_90 (fun h90 => ?_) (fun h90 => ?_)
      · rw [bitz] at h90
        refine d_run 2 rfl ?_
        first
        | (refine ih (i + 1) _ (wlkA s i q) _ (nI_1 i) (by omega) (h.fr (dSt_Q (by omega) k2.2) (fun _ _ => rfl)) k2.1 ?_
           intro F2 c2 f2
           refine kk F2 ?_ (k2.2.tr f2)
           rw [show lpN (moveA u q) i (r + 1) s = lpN (moveA u q) (i + 1) r (wlkA s i q) by simp [lpN, moveA, h90]]
           exact c2)
        | (refine ih (i + 1) _ s _ (nI_1 i) (by omega) h hT ?_
           intro F2 c2 f2
           refine kk F2 ?_ f2
           rw [show lpN (moveA u q) i (r + 1) s = lpN (moveA u q) (i + 1) r s by simp [lpN, moveA, h90]]
           exact c2)
      · rw [bitz, Bool.not_eq_false] at h90
        have k2 := a_wlk (A := gA o) (p := i) (q := q) hT
        refine d_run 1 rfl ?_
        refine d_gR k119_94 (by first | assumption | exact Nat.le_of_ble_eq_true rfl | omega) ⟨rfl, rfl, rfl⟩ rfl ?_
        refine d_gR k119_97 (by first | assumption | exact Nat.le_of_ble_eq_true rfl | omega | exact Nat.lt_of_lt_of_le (m := 27) (by omega) (Nat.le_of_ble_eq_true rfl)) ⟨rfl, rfl, rfl⟩ rfl ?_
        refine d_run 2 rfl ?_
        refine d_is (N := 6) k119_103 (by first | assumption | exact Nat.le_of_ble_eq_true rfl | omega | exact Nat.lt_of_lt_of_le (m := 27) (by omega) (Nat.le_of_ble_eq_true rfl)) ⟨rfl, rfl⟩ (by first | assumption | omega) rfl ?_
        refine d_run 2 rfl ?_
        first
        | (refine ih (i + 1) _ (wlkA s i q) _ (nI_1 i) (by omega) (h.fr (dSt_Q (by omega) k2.2) (fun _ _ => rfl)) k2.1 ?_
           intro F2 c2 f2
           refine kk F2 ?_ (k2.2.tr f2)
           rw [show lpN (moveA u q) i (r + 1) s = lpN (moveA u q) (i + 1) r (wlkA s i q) by simp [lpN, moveA, h90]]
           exact c2)
        | (refine ih (i + 1) _ s _ (nI_1 i) (by omega) h hT ?_
           intro F2 c2 f2
           refine kk F2 ?_ f2
           rw [show lpN (moveA u q) i (r + 1) s = lpN (moveA u q) (i + 1) r s by simp [lpN, moveA, h90]]
           exact c2)
theorem l_saves (hw : WF o) (hd : 60 ≤ d) {n : Nat} (hn : n ≤ 99) : ∀ (r i : Nat) (iv : Int32) (F : FT), iv = nI i → i + r = lS (gA o) → CInv F G b o → Td E d 119 35 [some (vr 1 0), some (vi u), some (vi (nI n)), some (vi iv), none] [] x F G b (some (vi (savN (savT (gA o) (gS o) u n) i r))) (fun F2 G2 => G2 = G ∧ FrD (dSt 21) F F2) := by
  intro r
  induction r with
  | zero =>
    intro i iv F hiv hir h
    subst hiv
    have hi : i = lS (gA o) := by omega
    have hL := h.2.1
    have hA := hw.1
    have hS := h.2.2.2.1.1
    have hwS := hw.2.1.1
    have hP6 := hA.2.1
    have hS5 := hA.1
    refine d_run 2 rfl ?_
    refine d_gR k119_37 (by first | assumption | exact Nat.le_of_ble_eq_true rfl | omega) ⟨rfl, rfl, rfl⟩ (Rs_land _) ?_
    refine d_gI k119_40 (by first | assumption | exact lx2 _ | exact Nat.le_of_ble_eq_true rfl | omega | exact Nat.lt_of_lt_of_le (m := 2) (by omega) (Nat.le_of_ble_eq_true rfl)) ⟨rfl, rfl, Or.inl rfl⟩ ?_
    refine d_ic_ge k119_43 (fun h43 => ?_) (fun h43 => ?_)
    · refine d_run 1 rfl ?_
      refine d_ir k119_128 rfl (by rfl) ?_
      exact ⟨rfl, FrD.rf⟩
    · exact absurd (lt_nI h43 hL.1 (by omega) (by omega)) (by omega)
  | succ r ih =>
    intro i iv F hiv hir h
    subst hiv
    have hi : i < lS (gA o) := by omega
    have hL := h.2.1
    have hA := hw.1
    have hS := h.2.2.2.1.1
    have hwS := hw.2.1.1
    have hP6 := hA.2.1
    have hS5 := hA.1
    refine d_run 2 rfl ?_
    refine d_gR k119_37 (by first | assumption | exact Nat.le_of_ble_eq_true rfl | omega) ⟨rfl, rfl, rfl⟩ (Rs_land _) ?_
    refine d_gI k119_40 (by first | assumption | exact lx2 _ | exact Nat.le_of_ble_eq_true rfl | omega | exact Nat.lt_of_lt_of_le (m := 2) (by omega) (Nat.le_of_ble_eq_true rfl)) ⟨rfl, rfl, Or.inl rfl⟩ ?_
    refine d_ic_ge k119_43 (fun h43 => ?_) (fun h43 => ?_)
    · exact absurd (ge_nI h43 hL.1 (by omega) (by omega)) (by omega)
    · refine d_run 3 rfl ?_
      refine d_call 3 k119_49 (by omega) (Nat.le_of_ble_eq_true rfl) rfl (Nat.le_of_ble_eq_true rfl) (Nat.le_of_ble_eq_true rfl) (recv_ok rfl (by first | assumption | exact Nat.le_of_ble_eq_true rfl | omega)) rfl (a_allW hw (by omega) h) rfl ?_
      rintro F1 G1 ⟨rfl, rfl⟩
      refine d_if_eq k119_52 (fun h52 => ?_) (fun h52 => ?_)
      · rw [b2i0] at h52
        refine d_run 2 rfl ?_
        simp only [savN]
        rw [if_neg (by simp [savT, h52])]
        refine d_dr11110 ?_
        exact ih (i + 1) _ F1 (nI_1 i) (by omega) h
      · rw [b2i0, Bool.not_eq_false] at h52
        refine d_run 1 rfl ?_
        refine d_gR k119_56 (by first | assumption | exact Nat.le_of_ble_eq_true rfl | omega) ⟨rfl, rfl, rfl⟩ rfl ?_
        refine d_run 1 rfl ?_
        refine d_gR k119_60 (by first | assumption | exact Nat.le_of_ble_eq_true rfl | omega) ⟨rfl, rfl, rfl⟩ rfl ?_
        refine d_gR k119_63 (by first | assumption | exact Nat.le_of_ble_eq_true rfl | omega | exact Nat.lt_of_lt_of_le (m := 5) (by omega) (Nat.le_of_ble_eq_true rfl)) ⟨rfl, rfl, rfl⟩ rfl ?_
        refine d_call 2 k119_66 (by omega) (Nat.le_of_ble_eq_true rfl) rfl (Nat.le_of_ble_eq_true rfl) (Nat.le_of_ble_eq_true rfl) (recv_ok rfl (by first | assumption | exact Nat.le_of_ble_eq_true rfl | omega | exact Nat.lt_of_lt_of_le (m := 27) (by omega) (Nat.le_of_ble_eq_true rfl))) rfl (a_copyS (n := 21) (m := 0) (by omega) (by omega) (by omega) (by omega) hP6 hS) rfl ?_
        rintro F2 G2 ⟨rfl, k1, f1⟩
        have h2 := h.fr (dSt_Q (n := 21) (by omega) f1) (fun _ _ => rfl)
        refine d_run 2 rfl ?_
        refine l_move hw (by omega) (lP (gA o)) 0 _ (gS o) F2 rfl (by omega) h2 k1 ?_
        intro F3 c3 f3
        have h3 := h2.fr (dSt_Q (n := 21) (by omega) f3) (fun _ _ => rfl)
        refine d_run 2 rfl ?_
        refine d_call 2 k119_112 (by omega) (Nat.le_of_ble_eq_true rfl) rfl (Nat.le_of_ble_eq_true rfl) (Nat.le_of_ble_eq_true rfl) (recv_ok rfl (by first | assumption | exact Nat.le_of_ble_eq_true rfl | omega)) rfl (a_ends hw (by omega) hn h3 c3) rfl ?_
        rintro F4 G4 ⟨rfl, f4⟩
        have h4 := h3.fr (dSt_Q (n := 21) (by omega) f4) (fun _ _ => rfl)
        refine d_if_eq k119_115 (fun h115 => ?_) (fun h115 => ?_)
        · rw [b2i0] at h115
          simp only [savN]
          rw [if_neg (by simp only [savT, Bool.and_eq_true, not_and, Bool.not_eq_true]; intro _; exact h115)]
          refine d_run 2 rfl ?_
          exact td_mo (ih (i + 1) _ F4 (nI_1 i) (by omega) h4) (fun F5 G5 e => ⟨e.1, f1.tr (f3.tr (f4.tr e.2))⟩)
        · rw [b2i0, Bool.not_eq_false] at h115
          simp only [savN]
          rw [if_pos (by simp only [savT, Bool.and_eq_true]; exact ⟨h52, h115⟩)]
          refine d_run 1 rfl ?_
          refine d_ir k119_119 rfl rfl ?_
          exact ⟨rfl, f1.tr (f3.tr f4)⟩
theorem a_saves (hw : WF o) (hd : 60 ≤ d) {n : Nat} (hn : n ≤ 99) (h : CInv F G b o) : Td E d 119 0 [some (vr 1 0), some (vi u), some (vi (nI n)), none, none] [] x F G b (some (vi (savA (gA o) (gS o) n u))) (fun F2 G2 => G2 = G ∧ FrD (dSt 21) F F2) := by
  have hL := h.2.1
  have hA := hw.1
  have hS := h.2.2.2.1.1
  have hwS := hw.2.1.1
  have hP6 := hA.2.1
  have hS5 := hA.1
  refine d_run 1 rfl ?_
  refine d_if_ne k119_1 (fun h1 => ?_) (fun h1 => ?_)
  · rw [show savA (gA o) (gS o) n u = savN (savT (gA o) (gS o) u n) 0 (lS (gA o)) by simp [savA, h1]]
    refine d_run 2 rfl ?_
    exact l_saves hw hd hn (lS (gA o)) 0 _ F rfl (by omega) h
  · rw [show savA (gA o) (gS o) n u = (if endsA (gA o) n (gS o) = true then -1 else -2) by simp [savA, h1]]
    refine d_run 1 rfl ?_
    refine d_gR k119_5 (by first | assumption | exact Nat.le_of_ble_eq_true rfl | omega) ⟨rfl, rfl, rfl⟩ rfl ?_
    refine d_run 1 rfl ?_
    refine d_gR k119_9 (by first | assumption | exact Nat.le_of_ble_eq_true rfl | omega) ⟨rfl, rfl, rfl⟩ rfl ?_
    refine d_gR k119_12 (by first | assumption | exact Nat.le_of_ble_eq_true rfl | omega | exact Nat.lt_of_lt_of_le (m := 5) (by omega) (Nat.le_of_ble_eq_true rfl)) ⟨rfl, rfl, rfl⟩ rfl ?_
    refine d_call 2 k119_15 (by omega) (Nat.le_of_ble_eq_true rfl) rfl (Nat.le_of_ble_eq_true rfl) (Nat.le_of_ble_eq_true rfl) (recv_ok rfl (by first | assumption | exact Nat.le_of_ble_eq_true rfl | omega | exact Nat.lt_of_lt_of_le (m := 27) (by omega) (Nat.le_of_ble_eq_true rfl))) rfl (a_copyS (n := 21) (m := 0) (by omega) (by omega) (by omega) (by omega) hP6 hS) rfl ?_
    rintro F2 G2 ⟨rfl, k1, f1⟩
    have h2 := h.fr (dSt_Q (n := 21) (by omega) f1) (fun _ _ => rfl)
    refine d_run 2 rfl ?_
    refine d_call 2 k119_20 (by omega) (Nat.le_of_ble_eq_true rfl) rfl (Nat.le_of_ble_eq_true rfl) (Nat.le_of_ble_eq_true rfl) (recv_ok rfl (by first | assumption | exact Nat.le_of_ble_eq_true rfl | omega)) rfl (a_ends hw (by omega) hn h2 k1) rfl ?_
    rintro F4 G4 ⟨rfl, f4⟩
    refine d_if_eq k119_23 (fun h23 => ?_) (fun h23 => ?_)
    · rw [b2i0] at h23
      refine d_run 1 rfl ?_
      refine d_ir k119_32 rfl (by simp [h23]) ?_
      exact ⟨rfl, f1.tr f4⟩
    · rw [b2i0, Bool.not_eq_false] at h23
      refine d_run 2 rfl ?_
      refine d_ir k119_32 rfl (by simp [h23]) ?_
      exact ⟨rfl, f1.tr f4⟩
theorem l_few2 (hw : WF o) (hd : 70 ≤ d) {n z : Nat} (hn : n ≤ 99) (hz : z ≤ 6) {R : Option PV} : ∀ (r i : Nat) (iv : Int32) (F : FT), iv = nI i → i + r = 2 ^ lP (gA o) → CInv F G b o → (∀ a, fewS (fewF o n) z i r = some a → R = some (vi (fewR (fewF o n) v (some a)))) → (∀ F2, CInv F2 G b o → FrD (dSt 21) F F2 → fewS (fewF o n) z i r = none → Td E d 103 95 [some (vr 1 0), some (vi (nI n)), some (vi v), some (vi (nI z)), none, none] [] x F2 G b R (CPost b o F2 G)) → Td E d 103 38 [some (vr 1 0), some (vi (nI n)), some (vi v), some (vi (nI z)), some (vi iv), none] [] x F G b R (CPost b o F G) := by
  intro r
  induction r with
  | zero =>
    intro i iv F hiv hir h hR kk
    subst hiv
    have hi : i = 2 ^ lP (gA o) := by omega
    have hL := h.2.1
    have hA := hw.1
    have hS := h.2.2.2.1.1
    have hwS := hw.2.1.1
    have hP6 := hA.2.1
    have hS5 := hA.1
    have h64 := pow6 hP6
    refine d_run 3 rfl ?_
    refine d_gR k103_42 (by first | assumption | exact Nat.le_of_ble_eq_true rfl | omega) ⟨rfl, rfl, rfl⟩ (Rs_land _) ?_
    refine d_gI k103_45 (by first | assumption | exact lx2 _ | exact Nat.le_of_ble_eq_true rfl | omega | exact Nat.lt_of_lt_of_le (m := 2) (by omega) (Nat.le_of_ble_eq_true rfl)) ⟨rfl, rfl, Or.inl rfl⟩ ?_
    rw [hL.2.1]
    refine d_run 1 rfl ?_
    refine d_ic_ge k103_49 (fun h49 => ?_) (fun h49 => ?_)
    · refine d_le (L1 := [some (vr 1 0), some (vi (nI n)), some (vi v), some (vi (nI z)), none, none]) (by simp [leL]) ?_
      exact kk F h FrD.rf rfl
    · exact absurd (lt_nI h49 (sh_pow _ hP6) (by omega) (by omega)) (by omega)
  | succ r ih =>
    intro i iv F hiv hir h hR kk
    subst hiv
    have hi : i < 2 ^ lP (gA o) := by omega
    have hL := h.2.1
    have hA := hw.1
    have hS := h.2.2.2.1.1
    have hwS := hw.2.1.1
    have hP6 := hA.2.1
    have hS5 := hA.1
    have h64 := pow6 hP6
    refine d_run 3 rfl ?_
    refine d_gR k103_42 (by first | assumption | exact Nat.le_of_ble_eq_true rfl | omega) ⟨rfl, rfl, rfl⟩ (Rs_land _) ?_
    refine d_gI k103_45 (by first | assumption | exact lx2 _ | exact Nat.le_of_ble_eq_true rfl | omega | exact Nat.lt_of_lt_of_le (m := 2) (by omega) (Nat.le_of_ble_eq_true rfl)) ⟨rfl, rfl, Or.inl rfl⟩ ?_
    rw [hL.2.1]
    refine d_run 1 rfl ?_
    refine d_ic_ge k103_49 (fun h49 => ?_) (fun h49 => ?_)
    · exact absurd (ge_nI h49 (sh_pow _ hP6) (by omega) (by omega)) (by omega)
    · refine d_run 1 rfl ?_
      refine d_callT 1 k103_54 (by omega) (Nat.le_of_ble_eq_true rfl) rfl (Nat.le_of_ble_eq_true rfl) (Nat.le_of_ble_eq_true rfl) recv_st rfl (c_bits (by omega)) rfl ?_
      refine d_run 1 rfl ?_
      refine d_ic_ne k103_58 (fun h58 => ?_) (fun h58 => ?_)
      · first
        | (have hs : fewS (fewF o n) z i (r + 1) = fewS (fewF o n) z (i + 1) r := by simp only [fewS]; rw [if_neg (fun e => e.2 h74)]
           refine d_run 2 rfl ?_
           refine d_dr111110 ?_
           refine td_mo (ih (i + 1) _ F1 (nI_1 i) (by omega) h1 (fun a e => hR a (hs.trans e)) (fun F2 q1 q2 q3 => kk F2 q1 (f1.tr q2) (hs.trans q3))) (fun F2 G2 e => e.q2 (dSt_Q (by omega) f1)))
        | (have hs : fewS (fewF o n) z i (r + 1) = fewS (fewF o n) z (i + 1) r := by simp only [fewS]; rw [if_neg (fun e => h58 e.1)]
           refine d_run 2 rfl ?_
           exact ih (i + 1) _ F (nI_1 i) (by omega) h (fun a e => hR a (hs.trans e)) (fun F2 q1 q2 q3 => kk F2 q1 q2 (hs.trans q3)))
      · refine d_run 3 rfl ?_
        refine d_call 3 k103_65 (by omega) (Nat.le_of_ble_eq_true rfl) rfl (Nat.le_of_ble_eq_true rfl) (Nat.le_of_ble_eq_true rfl) (recv_ok rfl (by first | assumption | exact Nat.le_of_ble_eq_true rfl | omega)) rfl (a_saves hw (by omega) hn h) rfl ?_
        rintro F1 G1 ⟨rfl, f1⟩
        have h1 := h.fr (dSt_Q (n := 21) (by omega) f1) (fun _ _ => rfl)
        refine d_run 3 rfl ?_
        refine d_ic_eq k103_74 (fun h74 => ?_) (fun h74 => ?_)
        · first
          | (have hs : fewS (fewF o n) z i (r + 1) = fewS (fewF o n) z (i + 1) r := by simp only [fewS]; rw [if_neg (fun e => e.2 h74)]
             refine d_run 2 rfl ?_
             refine d_dr111110 ?_
             refine td_mo (ih (i + 1) _ F1 (nI_1 i) (by omega) h1 (fun a e => hR a (hs.trans e)) (fun F2 q1 q2 q3 => kk F2 q1 (f1.tr q2) (hs.trans q3))) (fun F2 G2 e => e.q2 (dSt_Q (by omega) f1)))
          | (have hs : fewS (fewF o n) z i (r + 1) = fewS (fewF o n) z (i + 1) r := by simp only [fewS]; rw [if_neg (fun e => h58 e.1)]
             refine d_run 2 rfl ?_
             exact ih (i + 1) _ F (nI_1 i) (by omega) h (fun a e => hR a (hs.trans e)) (fun F2 q1 q2 q3 => kk F2 q1 q2 (hs.trans q3)))
        · have hs : fewS (fewF o n) z i (r + 1) = some i := by simp only [fewS]; rw [if_pos ⟨h58, h74⟩]
          have hs := hR i hs
          subst hs
          refine d_run 1 rfl ?_
          refine d_if_ne k103_78 (fun h78 => ?_) (fun h78 => ?_)
          · refine d_run 1 rfl ?_
            refine d_ir k103_88 rfl (by simp [fewR, h78]; try rfl) ?_
            exact CPost.q h (dSt_Q (by omega) f1)
          · refine d_run 2 rfl ?_
            refine d_ir k103_88 rfl (by simp [fewR, h78]; try rfl) ?_
            exact CPost.q h (dSt_Q (by omega) f1)
theorem l_few1 (hw : WF o) (hd : 70 ≤ d) {n : Nat} (hn : n ≤ 99) : ∀ (r i : Nat) (iv : Int32) (F : FT), iv = nI i → i + r = lP (gA o) + 1 → CInv F G b o → Td E d 103 24 [some (vr 1 0), some (vi (nI n)), some (vi v), some (vi iv), none, none] [] x F G b (some (vi (fewR (fewF o n) v (fewZ (fewF o n) (2 ^ lP (gA o)) i r)))) (CPost b o F G) := by
  intro r
  induction r with
  | zero =>
    intro i iv F hiv hir h
    subst hiv
    have hi : i = lP (gA o) + 1 := by omega
    have hL := h.2.1
    have hA := hw.1
    have hS := h.2.2.2.1.1
    have hwS := hw.2.1.1
    have hP6 := hA.2.1
    have hS5 := hA.1
    refine d_run 2 rfl ?_
    refine d_gR k103_26 (by first | assumption | exact Nat.le_of_ble_eq_true rfl | omega) ⟨rfl, rfl, rfl⟩ (Rs_land _) ?_
    refine d_gI k103_29 (by first | assumption | exact lx2 _ | exact Nat.le_of_ble_eq_true rfl | omega | exact Nat.lt_of_lt_of_le (m := 2) (by omega) (Nat.le_of_ble_eq_true rfl)) ⟨rfl, rfl, Or.inl rfl⟩ ?_
    refine d_ic_gt k103_32 (fun h32 => ?_) (fun h32 => ?_)
    · refine d_run 1 rfl ?_
      refine d_ir k103_103 rfl (by rfl) ?_
      exact CPost.q h FrD.rf
    · exact absurd (le_nI h32 hL.2.1 (by omega) (by omega)) (by omega)
  | succ r ih =>
    intro i iv F hiv hir h
    subst hiv
    have hi : i < lP (gA o) + 1 := by omega
    have hL := h.2.1
    have hA := hw.1
    have hS := h.2.2.2.1.1
    have hwS := hw.2.1.1
    have hP6 := hA.2.1
    have hS5 := hA.1
    refine d_run 2 rfl ?_
    refine d_gR k103_26 (by first | assumption | exact Nat.le_of_ble_eq_true rfl | omega) ⟨rfl, rfl, rfl⟩ (Rs_land _) ?_
    refine d_gI k103_29 (by first | assumption | exact lx2 _ | exact Nat.le_of_ble_eq_true rfl | omega | exact Nat.lt_of_lt_of_le (m := 2) (by omega) (Nat.le_of_ble_eq_true rfl)) ⟨rfl, rfl, Or.inl rfl⟩ ?_
    refine d_ic_gt k103_32 (fun h32 => ?_) (fun h32 => ?_)
    · exact absurd (gt_nI h32 hL.2.1 (by omega) (by omega)) (by omega)
    · refine d_run 2 rfl ?_
      simp only [fewZ]
      by_cases hs : (fewS (fewF o n) i 0 (2 ^ lP (gA o))).isSome = true
      · rw [if_pos hs]
        refine l_few2 hw hd hn (by omega) (2 ^ lP (gA o)) 0 _ F rfl (by omega) h (fun a e => by rw [e]) ?_
        intro F2 q1 q2 q3
        rw [q3] at hs
        cases hs
      · rw [if_neg hs]
        have hs : fewS (fewF o n) i 0 (2 ^ lP (gA o)) = none := by simpa using hs
        refine l_few2 hw hd hn (by omega) (2 ^ lP (gA o)) 0 _ F rfl (by omega) h (fun a e => by rw [hs] at e; cases e) ?_
        intro F2 q1 q2 q3
        refine d_run 2 rfl ?_
        exact ih (i + 1) _ F2 (nI_1 i) (by omega) q1
theorem a_fewest (h : CInv F G b o) (hw : WF o) (hd : 100 ≤ d) : Td E d 103 0 [some (vr 1 0), some (vi u), some (vi v), none, none, none] [] x F G b (some (vi (q_fewest o u v))) (CPost b (o) F G) := by
  have hL := h.2.1
  have hA := hw.1
  have hS := h.2.2.2.1.1
  have hwS := hw.2.1.1
  have hP6 := hA.2.1
  have hS5 := hA.1
  cases hN1 : isW2 u 1 24 with
  | false =>
    rw [show q_fewest o u v = -2 by simp [q_fewest, hN1]]
    refine d_run 3 rfl ?_
    refine d_callT 3 k103_4 (by omega) (Nat.le_of_ble_eq_true rfl) rfl (Nat.le_of_ble_eq_true rfl) (Nat.le_of_ble_eq_true rfl) recv_st rfl c_within rfl ?_
    rw [hN1]
    refine d_if_eq k103_7 (fun h7 => ?_) (fun h7 => ?_)
    · refine d_run 1 rfl ?_
      refine d_ir k103_21 rfl (by rfl) ?_
      exact CPost.q h FrD.rf
    · exact absurd h7 (by decide)
  | true =>
    cases hN2 : isW2 v 0 1 with
    | false =>
      rw [show q_fewest o u v = -2 by simp [q_fewest, hN2]]
      refine d_run 3 rfl ?_
      refine d_callT 3 k103_4 (by omega) (Nat.le_of_ble_eq_true rfl) rfl (Nat.le_of_ble_eq_true rfl) (Nat.le_of_ble_eq_true rfl) recv_st rfl c_within rfl ?_
      rw [hN1]
      refine d_if_eq k103_7 (fun h7 => ?_) (fun h7 => ?_)
      · exact absurd h7 (by decide)
      · refine d_run 3 rfl ?_
        refine d_callT 3 k103_13 (by omega) (Nat.le_of_ble_eq_true rfl) rfl (Nat.le_of_ble_eq_true rfl) (Nat.le_of_ble_eq_true rfl) recv_st rfl c_within rfl ?_
        rw [hN2]
        refine d_if_ne k103_16 (fun h16 => ?_) (fun h16 => ?_)
        · exact absurd h16 (by decide)
        · refine d_run 1 rfl ?_
          refine d_ir k103_21 rfl (by rfl) ?_
          exact CPost.q h FrD.rf
    | true =>
      obtain ⟨n, hn, rfl⟩ := isW2_ex (H := 24) hN1 ⟨by decide, rfl, by decide⟩
      rw [show q_fewest o (nI n) v = fewR (fewF o n) v (fewZ (fewF o n) (2 ^ lP (gA o)) 0 (lP (gA o) + 1)) by simp only [q_fewest, hN1, hN2]; rw [ix_nI (show n < 100000 by omega)]; rfl]
      refine d_run 3 rfl ?_
      refine d_callT 3 k103_4 (by omega) (Nat.le_of_ble_eq_true rfl) rfl (Nat.le_of_ble_eq_true rfl) (Nat.le_of_ble_eq_true rfl) recv_st rfl c_within rfl ?_
      rw [hN1]
      refine d_if_eq k103_7 (fun h7 => ?_) (fun h7 => ?_)
      · exact absurd h7 (by decide)
      · refine d_run 3 rfl ?_
        refine d_callT 3 k103_13 (by omega) (Nat.le_of_ble_eq_true rfl) rfl (Nat.le_of_ble_eq_true rfl) (Nat.le_of_ble_eq_true rfl) recv_st rfl c_within rfl ?_
        rw [hN2]
        refine d_if_ne k103_16 (fun h16 => ?_) (fun h16 => ?_)
        · refine d_run 2 rfl ?_
          exact l_few1 hw (by omega) (by omega) (lP (gA o) + 1) 0 _ F rfl (by omega) h
        · exact absurd h16 (by decide)
end P7
