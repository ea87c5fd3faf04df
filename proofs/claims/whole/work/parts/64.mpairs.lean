/-! PAIRS OF THE REFERENCE -/
def lexl (f h : Nat → Int32) (p : Nat) : Prop := ∃ k, k < p ∧ f k < h k ∧ ∀ j, j < k → f j = h j
def lexe (f h : Nat → Int32) (p : Nat) : Prop := lexl f h p ∨ ∀ j, j < p → f j = h j
def lexa (f h : Nat → Int32) (a c : Nat) : Prop := lexl f h a ∨ ((∀ j, j < a → f j = h j) ∧ f a ≤ nI c)
theorem lexl.up {f h : Nat → Int32} {p : Nat} (e : lexl f h p) : lexl f h (p + 1) := by
  obtain ⟨k, h1, h2⟩ := e
  exact ⟨k, by omega, h2⟩
theorem lexl.c {f h g : Nat → Int32} {p : Nat} (e : lexl f h p) (c : ∀ j, j < p → h j = g j) : lexl f g p := by
  obtain ⟨k, h1, h2, h3⟩ := e
  exact ⟨k, h1, by rw [← c k h1]; exact h2, fun j hj => by rw [← c j (by omega)]; exact h3 j hj⟩
theorem lexe.dn {f h : Nat → Int32} {p : Nat} (e : lexe f h (p + 1)) : lexe f h p := by
  rcases e with ⟨k, h1, h2, h3⟩ | e
  · by_cases ek : k < p
    · exact Or.inl ⟨k, ek, h2, h3⟩
    · exact Or.inr (fun j hj => h3 j (by omega))
  · exact Or.inr (fun j hj => e j (by omega))
theorem lexe.a {f h g : Nat → Int32} {p c : Nat} (e : lexe f h (p + 1)) (hc : h p = nI c) (cg : ∀ j, j < p → h j = g j) : lexa f g p c := by
  rcases e with ⟨k, h1, h2, h3⟩ | e
  · by_cases ek : k < p
    · exact Or.inl ((show lexl f h p from ⟨k, ek, h2, h3⟩).c cg)
    · have : k = p := by omega
      subst this
      exact Or.inr ⟨fun j hj => by rw [← cg j hj]; exact h3 j hj, by rw [← hc]; exact Int32.le_of_lt h2⟩
  · exact Or.inr ⟨fun j hj => by rw [← cg j hj]; exact e j (by omega), by rw [← hc, e p (by omega)]; exact Int32.le_refl _⟩
theorem lexa.n {f h : Nat → Int32} {p c : Nat} (e : lexa f h p c) (hc : c ≤ 1000) : lexa f h p (c + 1) := by
  rcases e with e | ⟨e, e2⟩
  · exact Or.inl e
  · exact Or.inr ⟨e, Int32.le_trans e2 ((nI_leI (by omega) (by omega)).mpr (by omega))⟩
theorem lexa.l {f h g : Nat → Int32} {p c : Nat} (e : lexa f h p c) (hc : c ≤ 1000) (hg : g p = nI (c + 1)) (cg : ∀ j, j < p → h j = g j) : lexl f g (p + 1) := by
  rcases e with e | ⟨e, e2⟩
  · exact (e.c cg).up
  · exact ⟨p, by omega, by rw [hg]; exact Int32.lt_of_le_of_lt e2 ((nI_ltI (by omega) (by omega)).mpr (by omega)), fun j hj => by rw [← cg j hj]; exact e j hj⟩
theorem lexa.e {f h : Nat → Int32} {p c : Nat} (e : lexa f h p c) : lexe f h p := by
  rcases e with e | ⟨e, _⟩
  · exact Or.inl e
  · exact Or.inr e
theorem lpN_prN {σ : Type} {f : Nat → σ → σ} {I : Nat → σ → Prop} : ∀ (k i : Nat) (s : σ), (∀ j s, i ≤ j → j < i + k → I j s → I (j + 1) (f j s)) → I i s → I (i + k) (lpN f i k s)
  | 0, _, _, _, h => h
  | k + 1, i, s, hf, h => by
    have := lpN_prN (I := I) k (i + 1) (f i s) (fun j s a c => hf j s (by omega) (by omega)) (hf i s (by omega) (by omega) h)
    rw [show i + 1 + k = i + (k + 1) by omega] at this
    exact this
theorem row_back {row : Nat → Int32} {p q : Nat} (hp : row p = nI p) (hq : row q = nI q) : upd (upd (upd (upd row p (nI q)) q (nI p)) p (nI p)) q (nI q) = row := by
  funext j
  simp only [upd]
  by_cases e1 : j = q
  · rw [if_pos e1, e1, hq]
  · rw [if_neg e1]
    by_cases e2 : j = p
    · rw [if_pos e2, e2, hp]
    · rw [if_neg e2, if_neg e1, if_neg e2]
theorem prO_q {A : LA} {s : ST} {p q : Nat} {row : Nat → Int32} (h : prO A s p q row = true) : row q = nI q := by
  simp only [prO, Bool.and_eq_true, decide_eq_true_eq] at h
  exact h.1.1
theorem prR_row {A : LA} {s : ST} : ∀ (k p : Nat) (f : Int32) (t : PS), (prR A s k p f t).2.1 = t.2.1
  | 0, p, f, t => by
    simp only [prR]
    split <;> rfl
  | k + 1, p, f, t => by
    have ih1 := prR_row (A := A) (s := s) k (p + 1) f t
    rw [prR_s]
    split
    · rename_i h
      rw [ih1] at h
      refine lpN_pr (I := fun (t2 : PS) => t2.2.1 = t.2.1) _ _ _ (fun j t2 _ _ e => ?_) ih1
      simp only [prF]
      split
      · rename_i ho
        have hq := prO_q ho
        simp only
        rw [prR_row (A := A) (s := s) k (p + 1)]
        simp only
        rw [e] at hq ⊢
        exact row_back h hq
      · exact e
    · exact ih1
theorem prF_row {A : LA} {s : ST} {k p : Nat} {f : Int32} {q : Nat} {t : PS} (hp : t.2.1 p = nI p) : (prF A s k p f q t).2.1 = t.2.1 := by
  simp only [prF]
  split
  · rename_i ho
    simp only
    rw [prR_row]
    exact row_back hp (prO_q ho)
  · rfl
def lexP (t : PS) (p : Nat) : Prop := t.1 = -1 ∨ lexl t.2.2 t.2.1 p
theorem prR_lex {A : LA} {s : ST} : ∀ (k p : Nat) (f : Int32) (t : PS), p + k = lP A → lP A ≤ 6 → lexP t p → ((prR A s k p f t).1 = -1 ∨ lexe (prR A s k p f t).2.2 t.2.1 p)
  | 0, p, f, t, _, _, h => by
    simp only [prR]
    split
    · exact Or.inr (Or.inr (fun _ _ => rfl))
    · rcases h with h | h
      · exact Or.inl h
      · exact Or.inr (Or.inl h)
  | k + 1, p, f, t, hk, h6, h => by
    have ih1 := prR_lex (A := A) (s := s) k (p + 1) f t (by omega) h6 (h.imp id lexl.up)
    have er := prR_row (A := A) (s := s) k (p + 1) f t
    rw [prR_s]
    split
    · rename_i hp
      rw [er] at hp
      have hI := lpN_prN (f := prF A s k p f) (I := fun q t2 => t2.2.1 = t.2.1 ∧ (t2.1 = -1 ∨ ∃ c, c + 1 = q ∧ lexa t2.2.2 t.2.1 p c)) (lP A - (p + 1)) (p + 1) (prR A s k (p + 1) f t) (fun q t2 h1 h2 e => by
        obtain ⟨e1, e2⟩ := e
        refine ⟨(prF_row (by rw [e1]; exact hp)).trans e1, ?_⟩
        simp only [prF]
        split
        · rename_i ho
          have hq := prO_q ho
          have l1 : lexP (t2.1, upd (upd t2.2.1 p (nI q)) q (nI p), t2.2.2) (p + 1) := by
            rcases e2 with e2 | ⟨c, hc, e2⟩
            · exact Or.inl e2
            · refine Or.inr (e2.l (by omega) ?_ (fun j hj => ?_))
              · show upd (upd t2.2.1 p (nI q)) q (nI p) p = _
                rw [pk_un (by omega), pk_us, hc]
              · show _ = upd (upd t2.2.1 p (nI q)) q (nI p) j
                rw [pk_un (by omega), pk_un (by omega), e1]
          rcases prR_lex (A := A) (s := s) k (p + 1) (f + 1) (t2.1, upd (upd t2.2.1 p (nI q)) q (nI p), t2.2.2) (by omega) h6 l1 with e3 | e3
          · exact Or.inl e3
          · refine Or.inr ⟨q, rfl, e3.a ?_ (fun j hj => ?_)⟩
            · show upd (upd t2.2.1 p (nI q)) q (nI p) p = _
              rw [pk_un (by omega), pk_us]
            · show upd (upd t2.2.1 p (nI q)) q (nI p) j = _
              rw [pk_un (by omega), pk_un (by omega), e1]
        · rcases e2 with e2 | ⟨c, hc, e2⟩
          · exact Or.inl e2
          · exact Or.inr ⟨c + 1, by omega, e2.n (by omega)⟩) ⟨er, ih1.imp id (fun e => ⟨p, rfl, e.a hp (fun _ _ => rfl)⟩)⟩
      rcases hI.2 with e | ⟨c, _, e⟩
      · exact Or.inl e
      · exact Or.inr e.e
    · exact ih1.imp id lexe.dn
def MMa (F : FT) (A : LA) (us : Int32) (p : Nat) (t : PS) : Prop := F 40 0 57 = t.1 ∧ (∀ j, j < lP A → bit us j = (decide (j < p) || decide (¬ t.2.1 j = nI j))) ∧ (∀ j, j < lP A → bit us j = true → F 79 0 j = t.2.1 j) ∧ (t.1 = -1 ∨ ∀ j, j < lP A → F 80 0 j = t.2.2 j)
def dPr (k : Nat) : Bool := decide (k = 40) || decide (k = 79) || decide (k = 80)
def MMq (F F2 : FT) (A : LA) (us : Int32) (t : PS) : Prop := F2 40 0 57 = t.1 ∧ (t.1 = -1 ∨ ∀ j, j < lP A → F2 80 0 j = t.2.2 j) ∧ (∀ j, j < lP A → bit us j = true → F2 79 0 j = F 79 0 j) ∧ (∀ i, i ≠ 57 → F2 40 0 i = F 40 0 i) ∧ FrK dPr F F2
theorem dPr_ml {F F2 : FT} {A : LA} (h : FrK dPr F F2) (hL : ML F A) : ML F2 A := hL.fr (fun k a b => h k (by simp only [dPr, Bool.or_eq_false_iff, decide_eq_false_iff_not]; omega))
theorem dPr_k {F F2 : FT} (h : FrK dPr F F2) : FrK dMk F F2 := h.mo (fun k e => by
  simp only [dMk, Bool.or_eq_false_iff, Bool.and_eq_false_iff, decide_eq_false_iff_not] at e
  simp only [dPr, Bool.or_eq_false_iff, decide_eq_false_iff_not]
  omega)
def MatM (E : EV) (x : Nat) (G : GT) (b : Bool) (A : LA) (s : ST) (k p : Nat) : Prop := ∀ (d : Nat) (F : FT) (u us : Int32) (c : Nat) (t : PS), 20 + k ≤ d → ML F A → rowS (F 70 0) (lP A) s → c ≤ p → MMa F A us p t → lexP t p → Td E d 225 3 [some (vr 40 0), some (vi u), some (vi us), some (vi (nI c)), some (vi (nI p)), none] [] x F G b none (fun F2 G2 => G2 = G ∧ MMq F F2 A us (prR A s k p (nI c) t))
section M17
variable {E : EV} {d x : Nat} {F : FT} {G : GT} {b : Bool} {o : SG} {u v w : Int32} {A : LA} {s : ST}
theorem l_ahead (hL : ML F A) (hP6 : lP A ≤ 6) {f h : Nat → Int32} (hq9 : ∀ j, j < lP A → F 79 0 j = h j) (hq8 : ∀ j, j < lP A → F 80 0 j = f j) (hl : lexl f h (lP A)) : ∀ (r i : Nat) (iv : Int32) , iv = nI i → i + r = lP A → (∀ j, j < i → f j = h j) → Td E d 226 2 [some (vr 40 0), some (vi iv)] [] x F G b (some (vi (b2i false))) (fun F2 G2 => F2 = F ∧ G2 = G) := by
  intro r
  induction r with
  | zero =>
    intro i iv  hiv hir hq
    subst hiv
    have hi : i = lP A := by omega
    refine d_run 2 rfl ?_
    refine d_gR k226_4 (by first | assumption | exact Nat.le_of_ble_eq_true rfl | omega) ⟨rfl, rfl, rfl⟩ rfl ?_
    refine d_run 1 rfl ?_
    refine d_ia (N := 8) (j := 1) k226_8 (by decide) (by first | assumption | exact Nat.le_of_ble_eq_true rfl | omega) ⟨⟨rfl, rfl⟩, rfl, rfl⟩ (by decide) rfl ?_
    refine d_ic_ge k226_9 (fun h9 => ?_) (fun h9 => ?_)
    · refine d_run 1 rfl ?_
      refine d_ib k226_55 (by rfl) ?_
      exact ⟨rfl, rfl⟩
    · exact absurd (lt_nI h9 hL.2.1 (by omega) (by omega)) (by omega)
  | succ r ih =>
    intro i iv  hiv hir hq
    subst hiv
    have hi : i < lP A := by omega
    refine d_run 2 rfl ?_
    refine d_gR k226_4 (by first | assumption | exact Nat.le_of_ble_eq_true rfl | omega) ⟨rfl, rfl, rfl⟩ rfl ?_
    refine d_run 1 rfl ?_
    refine d_ia (N := 8) (j := 1) k226_8 (by decide) (by first | assumption | exact Nat.le_of_ble_eq_true rfl | omega) ⟨⟨rfl, rfl⟩, rfl, rfl⟩ (by decide) rfl ?_
    refine d_ic_ge k226_9 (fun h9 => ?_) (fun h9 => ?_)
    · exact absurd (ge_nI h9 hL.2.1 (by omega) (by omega)) (by omega)
    · refine d_run 1 rfl ?_
      refine d_gR k226_13 (by first | assumption | exact Nat.le_of_ble_eq_true rfl | omega) ⟨rfl, rfl, rfl⟩ rfl ?_
      refine d_run 1 rfl ?_
      refine d_ia (N := 6) k226_17 (by decide) (by first | assumption | exact Nat.le_of_ble_eq_true rfl | omega) ⟨⟨rfl, rfl⟩, rfl, rfl⟩ (show i < 6 by omega) rfl ?_
      rw [hq9 i hi]
      refine d_run 1 rfl ?_
      refine d_gR k226_19 (by first | assumption | exact Nat.le_of_ble_eq_true rfl | omega) ⟨rfl, rfl, rfl⟩ rfl ?_
      refine d_run 1 rfl ?_
      refine d_ia (N := 6) k226_23 (by decide) (by first | assumption | exact Nat.le_of_ble_eq_true rfl | omega) ⟨⟨rfl, rfl⟩, rfl, rfl⟩ (show i < 6 by omega) rfl ?_
      rw [hq8 i hi]
      refine d_ic_eq k226_24 (fun h24 => ?_) (fun h24 => ?_)
      · refine d_run 2 rfl ?_
        refine ih (i + 1) _ (nI_1 i) (by omega) (fun j hj => ?_)
        by_cases e : j = i
        · rw [e]; exact h24.symm
        · exact hq j (by omega)
      · refine d_run 1 rfl ?_
        refine d_gR k226_28 (by first | assumption | exact Nat.le_of_ble_eq_true rfl | omega) ⟨rfl, rfl, rfl⟩ rfl ?_
        refine d_run 1 rfl ?_
        refine d_ia (N := 6) k226_32 (by decide) (by first | assumption | exact Nat.le_of_ble_eq_true rfl | omega) ⟨⟨rfl, rfl⟩, rfl, rfl⟩ (show i < 6 by omega) rfl ?_
        rw [hq9 i hi]
        refine d_run 1 rfl ?_
        refine d_gR k226_34 (by first | assumption | exact Nat.le_of_ble_eq_true rfl | omega) ⟨rfl, rfl, rfl⟩ rfl ?_
        refine d_run 1 rfl ?_
        refine d_ia (N := 6) k226_38 (by decide) (by first | assumption | exact Nat.le_of_ble_eq_true rfl | omega) ⟨⟨rfl, rfl⟩, rfl, rfl⟩ (show i < 6 by omega) rfl ?_
        rw [hq8 i hi]
        refine d_ic_ge k226_39 (fun h39 => ?_) (fun h39 => ?_)
        · refine d_run 1 rfl ?_
          refine d_ib k226_47 (by rfl) ?_
          exact ⟨rfl, rfl⟩
        · exfalso
          obtain ⟨k, h1, h2, h3⟩ := hl
          by_cases e : k < i
          · rw [hq k e] at h2; exact absurd h2 (fun h3 => Int32.lt_irrefl h3)
          · by_cases e2 : k = i
            · subst e2; exact h39 (Int32.le_of_lt h2)
            · exact h24 (h3 i (by omega)).symm
theorem b_ahead (hL : ML F A) (hP6 : lP A ≤ 6) {f h : Nat → Int32} (hq9 : ∀ j, j < lP A → F 79 0 j = h j) (hq8 : ∀ j, j < lP A → F 80 0 j = f j) (hl : lexl f h (lP A)) : Td E d 226 0 [some (vr 40 0), none] [] x F G b (some (vi (b2i false))) (fun F2 G2 => F2 = F ∧ G2 = G) := by
  refine d_run 2 rfl ?_
  exact l_ahead hL hP6 hq9 hq8 hl (lP A) 0 _ rfl (by omega) (fun j hj => absurd hj (by omega))
theorem l_bestw {F0 : FT} {z : Int32} {QQ : FT → GT → Prop} : ∀ (r i : Nat) (iv : Int32) (F : FT), iv = nI i → i + r = 6 → (∀ j, j < i → F 80 0 j = F0 79 0 j) → F 79 = F0 79 → F 40 = F0 40 → FrK dPr F0 F → (∀ F2, (∀ j, j < 6 → F2 80 0 j = F0 79 0 j) → F2 79 = F0 79 → F2 40 = F0 40 → FrK dPr F0 F2 → QQ F2 G) → Td E d 225 72 [some (vr 40 0), some (vi u), some (vi v), some (vi w), some (vi z), some (vi iv)] [] x F G b none (QQ) := by
  intro r
  induction r with
  | zero =>
    intro i iv F hiv hir q1 q2 q4 q3 kk
    subst hiv
    have hi : i = 6 := by omega
    refine d_run 2 rfl ?_
    refine d_ic_ge k225_76 (fun h76 => ?_) (fun h76 => ?_)
    · refine d_ret k225_99 ?_
      rw [hi] at q1
      exact kk F q1 q2 q4 q3
    · exact absurd (lt_nI h76 (b := 6) rfl (by omega) (by omega)) (by omega)
  | succ r ih =>
    intro i iv F hiv hir q1 q2 q4 q3 kk
    subst hiv
    have hi : i < 6 := by omega
    refine d_run 2 rfl ?_
    refine d_ic_ge k225_76 (fun h76 => ?_) (fun h76 => ?_)
    · exact absurd (ge_nI h76 (b := 6) rfl (by omega) (by omega)) (by omega)
    · refine d_run 1 rfl ?_
      refine d_gR k225_80 (by first | assumption | exact Nat.le_of_ble_eq_true rfl | omega) ⟨rfl, rfl, rfl⟩ rfl ?_
      refine d_run 2 rfl ?_
      refine d_gR k225_86 (by first | assumption | exact Nat.le_of_ble_eq_true rfl | omega) ⟨rfl, rfl, rfl⟩ rfl ?_
      refine d_run 1 rfl ?_
      refine d_ia (N := 6) k225_91 (by decide) (by first | assumption | exact Nat.le_of_ble_eq_true rfl | omega) ⟨⟨rfl, rfl⟩, rfl, rfl⟩ (show i < 6 by omega) rfl ?_
      rw [q2]
      refine d_is (N := 6) k225_92 (by first | assumption | exact Nat.le_of_ble_eq_true rfl | omega) ⟨rfl, rfl⟩ (show i < 6 by omega) rfl ?_
      refine d_run 2 rfl ?_
      refine ih (i + 1) _ _ (nI_1 i) (by omega) (fun j hj => ?_) (by rw [uF_k (by decide)]; exact q2) (by rw [uF_k (by decide)]; exact q4) (q3.u rfl) kk
      rw [uF_r]
      by_cases e : j = i
      · subst e
        exact pk_us
      · rw [pk_un e]
        exact q1 j (by omega)
theorem bit_o1 {us : Int32} {p j : Nat} (hp : p < 6) (hj : j < 6) : bit (ibop 4 us (ibop 6 1 (nI p))) j = (bit us j || decide (j = p)) := by
  show bit (us ||| (1 <<< (nI p &&& 31))) j = _
  rw [bit_or _ _ _ hj, bit_sh1 _ _ hp hj]
theorem l_mmat1 (hA : wfL A) {F0 : FT} {us : Int32} {p kk c q : Nat} {t T : PS} (hp : p + (kk + 1) = lP A) (hq : q < lP A) (hpq : p < q) (hc : c ≤ p) (hd : 20 + (kk + 1) ≤ d) (IH : MatM E x G b A s kk (p + 1)) (hL : ML F A) (hS : rowS (F 70 0) (lP A) s) {row : Nat → Int32} (hu : ∀ j, j < lP A → bit us j = (decide (j < p) || decide (¬ row j = nI j))) (hw0 : ∀ j, j < lP A → bit us j = true → F0 79 0 j = row j) (hrp : row p = nI p) (hr : t.2.1 = row) (hC : MMq F0 F A us t) (hrq : row q = nI q) (lp1 : lexP (t.1, upd (upd t.2.1 p (nI q)) q (nI p), t.2.2) (p + 1)) (kx : ∀ F2, MMq F0 F2 A us ((prR A s kk (p + 1) (nI c + 1) (t.1, upd (upd t.2.1 p (nI q)) q (nI p), t.2.2)).1, (prR A s kk (p + 1) (nI c + 1) (t.1, upd (upd t.2.1 p (nI q)) q (nI p), t.2.2)).2.1, (prR A s kk (p + 1) (nI c + 1) (t.1, upd (upd t.2.1 p (nI q)) q (nI p), t.2.2)).2.2) → Td E d 225 130 [some (vr 40 0), some (vi u), some (vi us), some (vi (nI c)), some (vi (nI p)), some (vi (nI q + 1))] [] x F2 G b none (fun F2 G2 => G2 = G ∧ MMq F0 F2 A us T)) : Td E d 225 186 [some (vr 40 0), some (vi u), some (vi us), some (vi (nI c)), some (vi (nI p)), some (vi (nI q))] [] x F G b none (fun F2 G2 => G2 = G ∧ MMq F0 F2 A us T) := by
  have hP6 := hA.2.1
  obtain ⟨c1, c2, c3, c4, c5⟩ := hC
  have cc : nI c + 1 = nI (c + 1) := nI_1 c
  have hL2 : ML (uF (uF F 79 0 p (nI q)) 79 0 q (nI p)) A := dPr_ml ((FrK.rf.u rfl).u rfl) hL
  have hM2 : MMa (uF (uF F 79 0 p (nI q)) 79 0 q (nI p)) A (ibop 4 (ibop 4 us (ibop 6 1 (nI p))) (ibop 6 1 (nI q))) (p + 1) (t.1, upd (upd t.2.1 p (nI q)) q (nI p), t.2.2) := by
    refine ⟨?_, fun j hj => ?_, fun j hj e => ?_, ?_⟩
    · rw [uF_k (by decide), uF_k (by decide)]; exact c1
    · rw [bit_o1 (by omega) (by omega), bit_o1 (by omega) (by omega), hu j hj, hr]
      show _ = (decide (j < p + 1) || decide (¬ upd (upd row p (nI q)) q (nI p) j = nI j))
      by_cases e1 : j = q
      · subst e1
        rw [pk_us, decide_eq_true (show ¬ nI p = nI j from fun e => absurd (nI_inj e (by omega) (by omega)) (by omega))]
        simp
      · rw [pk_un e1]
        by_cases e2 : j = p
        · subst e2
          simp
        · rw [pk_un e2, decide_eq_false e1, decide_eq_false e2, Bool.or_false, Bool.or_false, show decide (j < p + 1) = decide (j < p) by simp; omega]
    · rw [bit_o1 (by omega) (by omega), bit_o1 (by omega) (by omega)] at e
      rw [uF_r, uF_r, hr]
      simp only [upd]
      by_cases e1 : j = q
      · rw [if_pos e1, if_pos e1]
      · rw [if_neg e1, if_neg e1]
        by_cases e2 : j = p
        · rw [if_pos e2, if_pos e2]
        · rw [if_neg e2, if_neg e2]
          rw [decide_eq_false e1, decide_eq_false e2, Bool.or_false, Bool.or_false] at e
          rw [c3 j hj e]
          exact hw0 j hj e
    · rw [uF_k (by decide), uF_k (by decide)]; exact c2
  refine d_run 1 rfl ?_
  refine d_gR k225_187 (by first | assumption | exact Nat.le_of_ble_eq_true rfl | omega) ⟨rfl, rfl, rfl⟩ rfl ?_
  refine d_run 2 rfl ?_
  refine d_is (N := 6) k225_194 (by first | assumption | exact Nat.le_of_ble_eq_true rfl | omega) ⟨rfl, rfl⟩ (show p < 6 by omega) rfl ?_
  refine d_run 1 rfl ?_
  refine d_gR k225_196 (by first | assumption | exact Nat.le_of_ble_eq_true rfl | omega) ⟨rfl, rfl, rfl⟩ rfl ?_
  refine d_run 2 rfl ?_
  refine d_is (N := 6) k225_203 (by first | assumption | exact Nat.le_of_ble_eq_true rfl | omega) ⟨rfl, rfl⟩ (show q < 6 by omega) rfl ?_
  refine d_run 16 rfl ?_
  rw [show ibop 0 (nI p) 1 = nI (p + 1) from nI_1 p, show ibop 0 (nI c) 1 = nI (c + 1) from nI_1 c]
  refine d_call 4 k225_223 (by omega) (Nat.le_of_ble_eq_true rfl) rfl (Nat.le_of_ble_eq_true rfl) (Nat.le_of_ble_eq_true rfl) (recv_ok rfl (by first | assumption | exact Nat.le_of_ble_eq_true rfl | omega)) rfl (d_run 2 rfl (IH (d - 1) _ _ _ (c + 1) _ (by omega) hL2 (by rw [uF_k (by decide), uF_k (by decide)]; exact hS) (by omega) hM2 lp1)) rfl ?_
  rintro F2 G2 ⟨rfl, m1, m2, m3, m4, m5⟩
  rw [← cc] at m1 m2
  refine d_run 2 rfl ?_
  refine kx F2 ⟨m1, m2, fun j hj e => ?_, fun i hi => ?_, c5.tr (((FrK.rf.u rfl).u rfl).tr m5)⟩
  · have n1 : j ≠ p := fun e1 => by
      subst e1
      rw [hu j hj, hrp] at e
      simp at e
    have n2 : j ≠ q := fun e1 => by
      subst e1
      rw [hu j hj, hrq] at e
      simp at e
      omega
    rw [m3 j hj (by rw [bit_o1 (by omega) (by omega), bit_o1 (by omega) (by omega), e]; rfl), uF_r, pk_un n2, uF_r, pk_un n1]
    exact c3 j hj e
  · rw [m4 i hi, uF_k (by decide), uF_k (by decide)]
    exact c4 i hi
theorem l_mmat (hA : wfL A) {F0 : FT} {us : Int32} {p kk c : Nat} (hp : p + (kk + 1) = lP A) (hc : c ≤ p) (hd : 20 + (kk + 1) ≤ d) (IH : MatM E x G b A s kk (p + 1)) (hL0 : ML F0 A) (hS0 : rowS (F0 70 0) (lP A) s) {row : Nat → Int32} (hu : ∀ j, j < lP A → bit us j = (decide (j < p) || decide (¬ row j = nI j))) (hw0 : ∀ j, j < lP A → bit us j = true → F0 79 0 j = row j) (hrp : row p = nI p) : ∀ (r i : Nat) (iv : Int32) (t : PS) (F : FT), iv = nI i → i + r = lP A → t.2.1 = row → MMq F0 F A us t → (t.1 = -1 ∨ ∃ q0, q0 + 1 = i ∧ lexa t.2.2 row p q0) → p < i → Td E d 225 130 [some (vr 40 0), some (vi u), some (vi us), some (vi (nI c)), some (vi (nI p)), some (vi iv)] [] x F G b none (fun F2 G2 => G2 = G ∧ MMq F0 F2 A us (lpN (prF A s kk p (nI c)) i r t)) := by
  intro r
  induction r with
  | zero =>
    intro i iv t F hiv hir hr hC hl hpi
    subst hiv
    have hi : i = lP A := by omega
    have hP6 := hA.2.1
    have hL := dPr_ml hC.2.2.2.2 hL0
    have hS : rowS (F 70 0) (lP A) s := by rw [hC.2.2.2.2 70 rfl]; exact hS0
    refine d_run 2 rfl ?_
    refine d_gR k225_133 (by first | assumption | exact Nat.le_of_ble_eq_true rfl | omega) ⟨rfl, rfl, rfl⟩ rfl ?_
    refine d_run 1 rfl ?_
    refine d_ia (N := 8) (j := 1) k225_137 (by decide) (by first | assumption | exact Nat.le_of_ble_eq_true rfl | omega) ⟨⟨rfl, rfl⟩, rfl, rfl⟩ (by decide) rfl ?_
    refine d_ic_ge k225_138 (fun h138 => ?_) (fun h138 => ?_)
    · refine d_ret k225_232 ?_
      exact ⟨rfl, hC⟩
    · exact absurd (lt_nI h138 hL.2.1 (by omega) (by omega)) (by omega)
  | succ r ih =>
    intro i iv t F hiv hir hr hC hl hpi
    subst hiv
    have hi : i < lP A := by omega
    have hP6 := hA.2.1
    have hL := dPr_ml hC.2.2.2.2 hL0
    have hS : rowS (F 70 0) (lP A) s := by rw [hC.2.2.2.2 70 rfl]; exact hS0
    refine d_run 2 rfl ?_
    refine d_gR k225_133 (by first | assumption | exact Nat.le_of_ble_eq_true rfl | omega) ⟨rfl, rfl, rfl⟩ rfl ?_
    refine d_run 1 rfl ?_
    refine d_ia (N := 8) (j := 1) k225_137 (by decide) (by first | assumption | exact Nat.le_of_ble_eq_true rfl | omega) ⟨⟨rfl, rfl⟩, rfl, rfl⟩ (by decide) rfl ?_
    refine d_ic_ge k225_138 (fun h138 => ?_) (fun h138 => ?_)
    · exact absurd (ge_nI h138 hL.2.1 (by omega) (by omega)) (by omega)
    · refine d_run 6 rfl ?_
      refine d_ic_eq k225_148 (fun h148 => ?_) (fun h148 => ?_)
      · rw [show (ibop 3 (ibop 7 us (nI i)) 1 = 1) = (bit us i = true) from bit1 _ _] at h148
        rw [hu i hi, decide_eq_false (show ¬ i < p by omega), Bool.false_or, decide_eq_true_eq] at h148
        have ho : prO A s p i t.2.1 = false := by simp only [prO]; rw [hr, decide_eq_false h148]; rfl
        refine d_run 2 rfl ?_
        simp only [lpN]
        rw [show prF A s kk p (nI c) i t = t by simp only [prF]; rw [ho]; rfl]
        exact ih (i + 1) _ t F (nI_1 i) (by omega) hr hC (hl.imp id (fun ⟨q0, e1, e2⟩ => ⟨q0 + 1, by omega, e2.n (by omega)⟩)) (by omega)
      · rw [show (ibop 3 (ibop 7 us (nI i)) 1 = 1) = (bit us i = true) from bit1 _ _] at h148
        rw [hu i hi, decide_eq_false (show ¬ i < p by omega), Bool.false_or, decide_eq_true_eq, Decidable.not_not] at h148
        refine d_run 1 rfl ?_
        refine d_gR k225_152 (by first | assumption | exact Nat.le_of_ble_eq_true rfl | omega) ⟨rfl, rfl, rfl⟩ rfl ?_
        refine d_run 3 rfl ?_
        refine d_ia (N := 50) k225_159 (by decide) (by first | assumption | exact Nat.le_of_ble_eq_true rfl | omega) ⟨⟨rfl, rfl⟩, rfl, rfl⟩ (by first | assumption | omega) (nI_add 2 _) ?_
        rw [hS.2.2.1 p (by omega)]
        refine d_run 1 rfl ?_
        refine d_gR k225_161 (by first | assumption | exact Nat.le_of_ble_eq_true rfl | omega) ⟨rfl, rfl, rfl⟩ rfl ?_
        refine d_run 3 rfl ?_
        refine d_ia (N := 50) k225_168 (by decide) (by first | assumption | exact Nat.le_of_ble_eq_true rfl | omega) ⟨⟨rfl, rfl⟩, rfl, rfl⟩ (by first | assumption | omega) (nI_add 2 _) ?_
        rw [hS.2.2.1 i hi]
        refine d_ic_ne k225_169 (fun h169 => ?_) (fun h169 => ?_)
        · have ho : prO A s p i t.2.1 = false := by simp only [prO]; rw [decide_eq_false (p := sAt s i = sAt s p) (fun e => h169 e.symm)]; simp
          refine d_run 2 rfl ?_
          simp only [lpN]
          rw [show prF A s kk p (nI c) i t = t by simp only [prF]; rw [ho]; rfl]
          exact ih (i + 1) _ t F (nI_1 i) (by omega) hr hC (hl.imp id (fun ⟨q0, e1, e2⟩ => ⟨q0 + 1, by omega, e2.n (by omega)⟩)) (by omega)
        · refine d_run 3 rfl ?_
          refine d_callT 3 k225_177 (by omega) (Nat.le_of_ble_eq_true rfl) rfl (Nat.le_of_ble_eq_true rfl) (Nat.le_of_ble_eq_true rfl) (recv_ok rfl (by first | assumption | exact Nat.le_of_ble_eq_true rfl | omega)) rfl (b_stg hL hA hS (by omega) hi (by omega)) rfl ?_
          refine d_if_ne k225_180 (fun h180 => ?_) (fun h180 => ?_)
          · rw [b2i0, Bool.not_eq_false] at h180
            have ho : prO A s p i t.2.1 = true := by simp only [prO]; rw [hr, h180, decide_eq_true h148, decide_eq_true (show sAt s i = sAt s p from h169.symm)]; rfl
            simp only [lpN]
            have lp1 : lexP (t.1, upd (upd t.2.1 p (nI i)) i (nI p), t.2.2) (p + 1) := by
              rcases hl with e2 | ⟨q0, e1, e2⟩
              · exact Or.inl e2
              · refine Or.inr (e2.l (by omega) ?_ (fun j hj => ?_))
                · show upd (upd t.2.1 p (nI i)) i (nI p) p = _
                  rw [pk_un (by omega), pk_us, e1]
                · show _ = upd (upd t.2.1 p (nI i)) i (nI p) j
                  rw [pk_un (by omega), pk_un (by omega), hr]
            refine l_mmat1 hA hp hi hpi hc hd IH hL hS hu hw0 hrp hr hC h148 lp1 (fun F2 a1 => ?_)
            have eF : prF A s kk p (nI c) i t = ((prR A s kk (p + 1) (nI c + 1) (t.1, upd (upd t.2.1 p (nI i)) i (nI p), t.2.2)).1, upd (upd (prR A s kk (p + 1) (nI c + 1) (t.1, upd (upd t.2.1 p (nI i)) i (nI p), t.2.2)).2.1 p (nI p)) i (nI i), (prR A s kk (p + 1) (nI c + 1) (t.1, upd (upd t.2.1 p (nI i)) i (nI p), t.2.2)).2.2) := by simp only [prF]; rw [if_pos ho]
            refine ih (i + 1) _ _ F2 (nI_1 i) (by omega) ((prF_row (by rw [hr]; exact hrp)).trans hr) (by rw [eF]; exact a1) ?_ (by omega)
            rw [eF]
            rcases prR_lex (A := A) (s := s) kk (p + 1) (nI c + 1) (t.1, upd (upd t.2.1 p (nI i)) i (nI p), t.2.2) (by omega) hP6 lp1 with e3 | e3
            · exact Or.inl e3
            · refine Or.inr ⟨i, rfl, e3.a ?_ (fun j hj => ?_)⟩
              · show upd (upd t.2.1 p (nI i)) i (nI p) p = _
                rw [pk_un (by omega), pk_us]
              · show upd (upd t.2.1 p (nI i)) i (nI p) j = _
                rw [pk_un (by omega), pk_un (by omega), hr]
          · rw [b2i0] at h180
            have ho : prO A s p i t.2.1 = false := by simp only [prO]; rw [h180, Bool.and_false]
            refine d_run 1 rfl ?_
            refine d_run 2 rfl ?_
            simp only [lpN]
            rw [show prF A s kk p (nI c) i t = t by simp only [prF]; rw [ho]; rfl]
            exact ih (i + 1) _ t F (nI_1 i) (by omega) hr hC (hl.imp id (fun ⟨q0, e1, e2⟩ => ⟨q0 + 1, by omega, e2.n (by omega)⟩)) (by omega)
theorem b_mat (hA : wfL A) : ∀ (k p : Nat), p + k = lP A → MatM E x G b A s k p := by
  intro k
  induction k with
  | zero =>
    intro p hpk d F u us c t hd hL hS hcp hM hl
    have hP6 := hA.2.1
    have e : p = lP A := by omega
    subst e
    obtain ⟨c1, c2, c3, c4⟩ := hM
    have c3 : ∀ j, j < lP A → F 79 0 j = t.2.1 j := fun j hj => c3 j hj (by rw [c2 j hj, decide_eq_true hj]; rfl)
    refine d_run 2 rfl ?_
    refine d_gR k225_6 (by first | assumption | exact Nat.le_of_ble_eq_true rfl | omega) ⟨rfl, rfl, rfl⟩ rfl ?_
    refine d_run 1 rfl ?_
    refine d_ia (N := 8) (j := 1) k225_10 (by decide) (by first | assumption | exact Nat.le_of_ble_eq_true rfl | omega) ⟨⟨rfl, rfl⟩, rfl, rfl⟩ (by decide) rfl ?_
    rw [hL.2.1]
    refine d_ic_ge k225_11 (fun h11 => ?_) (fun h11 => ?_)
    · refine d_run 2 rfl ?_
      refine d_gR k225_33 (by first | assumption | exact Nat.le_of_ble_eq_true rfl | omega) ⟨rfl, rfl, rfl⟩ rfl ?_
      refine d_run 1 rfl ?_
      refine d_ia (N := 8) (j := 1) k225_37 (by decide) (by first | assumption | exact Nat.le_of_ble_eq_true rfl | omega) ⟨⟨rfl, rfl⟩, rfl, rfl⟩ (by decide) rfl ?_
      rw [hL.2.1]
      refine d_ic_ne k225_38 (fun h38 => ?_) (fun h38 => ?_)
      · exact absurd rfl h38
      · refine d_run 2 rfl ?_
        refine d_gI k225_43 (by first | assumption | exact Nat.le_of_ble_eq_true rfl | omega) ⟨rfl, rfl, Or.inl rfl⟩ ?_
        rw [c1]
        refine d_ic_gt k225_46 (fun h46 => ?_) (fun h46 => ?_)
        · refine d_run 2 rfl ?_
          refine d_pI k225_66 (by first | assumption | exact Nat.le_of_ble_eq_true rfl | omega) ⟨rfl, rfl⟩ ?_
          refine d_run 2 rfl ?_
          rw [show prR A s 0 (lP A) (nI c) t = (nI c, t.2.1, t.2.1) by simp only [prR]; rw [if_pos h46]]
          refine l_bestw (F0 := uF F 40 0 57 (nI c)) 6 0 _ _ rfl (by omega) (fun j hj => absurd hj (by omega)) rfl rfl FrK.rf ?_
          intro F2 q1 q2 q4 q3
          refine ⟨rfl, ?_, Or.inr (fun j hj => ?_), fun j _ _ => ?_, fun i hi => ?_, (FrK.rf.u rfl).tr q3⟩
          · rw [q4, uF_r, pk_us]
          · rw [q1 j (by omega), uF_k (by decide)]; exact c3 j hj
          · rw [q2, uF_k (by decide)]
          · rw [q4, uF_r, pk_un hi]
        · refine d_run 2 rfl ?_
          refine d_gI k225_51 (by first | assumption | exact Nat.le_of_ble_eq_true rfl | omega) ⟨rfl, rfl, Or.inl rfl⟩ ?_
          rw [c1]
          refine d_ic_ne k225_54 (fun h54 => ?_) (fun h54 => ?_)
          · refine d_ret k225_99 ?_
            rw [show prR A s 0 (lP A) (nI c) t = t by simp only [prR]; rw [if_neg h46]]
            exact ⟨rfl, c1, c4, fun _ _ _ => rfl, fun _ _ => rfl, FrK.rf⟩
          · have hl2 : lexl t.2.2 t.2.1 (lP A) := by
              rcases hl with e | e
              · rw [e] at h54
                exact absurd (show nI c < 0 by rw [h54]; decide) (nn_nI (by omega))
              · exact e
            have c5 : ∀ j, j < lP A → F 80 0 j = t.2.2 j := by
              rcases c4 with e | e
              · rw [e] at h54
                exact absurd (show nI c < 0 by rw [h54]; decide) (nn_nI (by omega))
              · exact e
            refine d_run 1 rfl ?_
            refine d_call 1 k225_58 (by omega) (Nat.le_of_ble_eq_true rfl) rfl (Nat.le_of_ble_eq_true rfl) (Nat.le_of_ble_eq_true rfl) (recv_ok rfl (by first | assumption | exact Nat.le_of_ble_eq_true rfl | omega)) rfl (b_ahead hL hP6 c3 c5 hl2) rfl ?_
            rintro F1 G1 ⟨rfl, rfl⟩
            refine d_if_eq k225_61 (fun h61 => ?_) (fun h61 => ?_)
            · refine d_ret k225_99 ?_
              rw [show prR A s 0 (lP A) (nI c) t = t by simp only [prR]; rw [if_neg h46]]
              exact ⟨rfl, c1, c4, fun _ _ _ => rfl, fun _ _ => rfl, FrK.rf⟩
            · exact absurd rfl h61
    · exact absurd (Int32.le_refl _) h11
  | succ k ih =>
    intro p hpk d F u us c t hd hL hS hcp hM hl
    have hP6 := hA.2.1
    have IH := ih (p + 1) (by omega)
    obtain ⟨c1, c2, c3, c4⟩ := hM
    have hbp := c2 p (by omega)
    rw [decide_eq_false (Nat.lt_irrefl p), Bool.false_or] at hbp
    have er := prR_row (A := A) (s := s) k (p + 1) (nI c) t
    rw [prR_s, er]
    refine d_run 2 rfl ?_
    refine d_gR k225_6 (by first | assumption | exact Nat.le_of_ble_eq_true rfl | omega) ⟨rfl, rfl, rfl⟩ rfl ?_
    refine d_run 1 rfl ?_
    refine d_ia (N := 8) (j := 1) k225_10 (by decide) (by first | assumption | exact Nat.le_of_ble_eq_true rfl | omega) ⟨⟨rfl, rfl⟩, rfl, rfl⟩ (by decide) rfl ?_
    refine d_ic_ge k225_11 (fun h11 => ?_) (fun h11 => ?_)
    · exact absurd (ge_nI h11 hL.2.1 (by omega) (by omega)) (by omega)
    · refine d_run 6 rfl ?_
      refine d_ic_ne k225_21 (fun h21 => ?_) (fun h21 => ?_)
      · rw [show (ibop 3 (ibop 7 us (nI p)) 1 = 1) = (bit us p = true) from bit1 _ _] at h21
        rw [hbp, decide_eq_true_eq, Decidable.not_not] at h21
        refine d_run 2 rfl ?_
        refine d_gR k225_33 (by first | assumption | exact Nat.le_of_ble_eq_true rfl | omega) ⟨rfl, rfl, rfl⟩ rfl ?_
        refine d_run 1 rfl ?_
        refine d_ia (N := 8) (j := 1) k225_37 (by decide) (by first | assumption | exact Nat.le_of_ble_eq_true rfl | omega) ⟨⟨rfl, rfl⟩, rfl, rfl⟩ (by decide) rfl ?_
        refine d_ic_ne k225_38 (fun h38 => ?_) (fun h38 => ?_)
        · refine d_run 1 rfl ?_
          refine d_gR k225_101 (by first | assumption | exact Nat.le_of_ble_eq_true rfl | omega) ⟨rfl, rfl, rfl⟩ rfl ?_
          refine d_run 2 rfl ?_
          rw [if_pos h21]
          refine d_is (N := 6) k225_108 (by first | assumption | exact Nat.le_of_ble_eq_true rfl | omega) ⟨rfl, rfl⟩ (show p < 6 by omega) rfl ?_
          refine d_run 10 rfl ?_
          rw [show ibop 0 (nI p) 1 = nI (p + 1) from nI_1 p]
          have hM2 : MMa (uF F 79 0 p (nI p)) A (ibop 4 us (ibop 6 1 (nI p))) (p + 1) t := by
            refine ⟨?_, fun j hj => ?_, fun j hj e => ?_, ?_⟩
            · rw [uF_k (by decide)]; exact c1
            · rw [bit_o1 (by omega) (by omega), c2 j hj]
              by_cases e : j = p
              · subst e
                simp
              · rw [decide_eq_false e, Bool.or_false, show decide (j < p + 1) = decide (j < p) by simp; omega]
            · rw [bit_o1 (by omega) (by omega)] at e
              rw [uF_r]
              by_cases e1 : j = p
              · subst e1
                rw [pk_us, h21]
              · rw [pk_un e1]
                rw [decide_eq_false e1, Bool.or_false] at e
                exact c3 j hj e
            · rw [uF_k (by decide)]; exact c4
          refine d_call 4 k225_121 (by omega) (Nat.le_of_ble_eq_true rfl) rfl (Nat.le_of_ble_eq_true rfl) (Nat.le_of_ble_eq_true rfl) (recv_ok rfl (by first | assumption | exact Nat.le_of_ble_eq_true rfl | omega)) rfl (d_run 2 rfl (IH (d - 1) _ _ _ c t (by omega) (dPr_ml (FrK.rf.u rfl) hL) (by rw [uF_k (by decide)]; exact hS) (by omega) hM2 (hl.imp id lexl.up))) rfl ?_
          rintro F2 G2 ⟨rfl, m1, m2, m3, m4, m5⟩
          have hC2 : MMq F F2 A us (prR A s k (p + 1) (nI c) t) := by
            refine ⟨m1, m2, fun j hj e => ?_, fun i hi => ?_, (FrK.rf.u rfl).tr m5⟩
            · have n1 : j ≠ p := fun e1 => by
                subst e1
                rw [hbp, h21] at e
                simp at e
              rw [m3 j hj (by rw [bit_o1 (by omega) (by omega), e]; rfl), uF_r, pk_un n1]
            · rw [m4 i hi, uF_k (by decide)]
          refine d_run 4 rfl ?_
          rw [show ibop 0 (nI p) 1 = nI (p + 1) from nI_1 p]
          refine l_mmat hA (F0 := F) hpk hcp hd IH hL hS c2 c3 h21 (lP A - (p + 1)) (p + 1) _ _ F2 rfl (by omega) er hC2 ?_ (by omega)
          exact (prR_lex (A := A) (s := s) k (p + 1) (nI c) t (by omega) hP6 (hl.imp id lexl.up)).imp id (fun e => ⟨p, rfl, e.a h21 (fun _ _ => rfl)⟩)
        · exact absurd (nI_inj (h38.trans hL.2.1) (by omega) (by omega)) (by omega)
      · rw [show (ibop 3 (ibop 7 us (nI p)) 1 = 1) = (bit us p = true) from bit1 _ _] at h21
        rw [hbp, decide_eq_true_eq] at h21
        refine d_run 2 rfl ?_
        rw [if_neg h21, show nI p + 1 = nI (p + 1) from nI_1 p]
        refine IH d F u us c t (by omega) hL hS (by omega) ⟨c1, fun j hj => ?_, c3, c4⟩ (hl.imp id lexl.up)
        rw [c2 j hj]
        by_cases e : j = p
        · subst e
          rw [decide_eq_true h21]
          simp
        · rw [show decide (j < p + 1) = decide (j < p) by simp; omega]
theorem e_pairs0 (h : MInv F G o) (hw : WF o) (hd : 90 ≤ d) : Td E d 227 5 [some (vr 40 0), some (vi u)] [] x F G b (some (vi (q_pairs o u))) (MPost (o) F G) := by
  have hL := h.2.1
  have hA := hw.1
  have hS := h.2.2.2.1.1
  have hwS := hw.2.1.1
  have hP6 := hA.2.1
  have hS5 := hA.1
  have hmo := (prR_mo (A := gA o) (s := gS o) (lP (gA o)) 0 0 (-1, nI, fun _ => 0)).2
  have hn1 : ¬ (pairR o).1 = -1 := fun e => by
    have h0 : (0 : Int32) ≤ (pairR o).1 := hmo
    rw [e] at h0
    exact absurd h0 (by decide)
  have hM0 : MMa (uF F 40 0 57 (-1)) (gA o) 0 0 (-1, nI, fun _ => 0) := by
    refine ⟨by rw [uF_r, pk_us], fun j hj => ?_, fun j hj e => ?_, Or.inl rfl⟩
    · rw [bit_0 j (by omega)]
      simp
    · rw [bit_0 j (by omega)] at e
      cases e
  refine d_run 2 rfl ?_
  refine d_ic_eq k227_7 (fun h7 => ?_) (fun h7 => ?_)
  · refine d_run 2 rfl ?_
    refine d_pI k227_23 (by first | assumption | exact Nat.le_of_ble_eq_true rfl | omega) ⟨rfl, rfl⟩ ?_
    refine d_run 4 rfl ?_
    refine d_call 4 k227_30 (by omega) (Nat.le_of_ble_eq_true rfl) rfl (Nat.le_of_ble_eq_true rfl) (Nat.le_of_ble_eq_true rfl) (recv_ok rfl (by first | assumption | exact Nat.le_of_ble_eq_true rfl | omega)) rfl (d_run 2 rfl (b_mat hA (lP (gA o)) 0 (by omega) (d - 1) _ _ _ 0 (-1, nI, fun _ => 0) (by omega) (dPr_ml (FrK.rf.u rfl) hL) (by rw [uF_k (by decide)]; exact hS) (by omega) hM0 (Or.inl rfl))) rfl ?_
    rintro F2 G2 ⟨rfl, m1, m2, m3, m4, m5⟩
    have m1 : F2 40 0 57 = (pairR o).1 := m1
    have m2 : ∀ j, j < lP (gA o) → F2 80 0 j = (pairR o).2.2 j := m2.resolve_left hn1
    have hpo : MPost o F G2 F2 G2 := MPost.q h hw (dPr_k ((FrK.rf.u rfl).tr m5)) (by rw [m4 1 (by decide), uF_r, pk_un (by decide)]) (by rw [m4 49 (by decide), uF_r, pk_un (by decide)]) (by rw [m5 74 rfl, uF_k (by decide)]) (fun i _ => by rw [m5 70 rfl, uF_k (by decide)]) (fun _ _ => rfl)
    refine d_run 2 rfl ?_
    refine d_ic_ne k227_35 (fun h35 => ?_) (fun h35 => ?_)
    · have hN2 : isN u (lP (gA o)) = true := by
        first
        | exact hN
        | exact absurd h7 h35
      obtain ⟨p, hp, rfl⟩ := isN_ex hN2 (by omega)
      refine d_run 1 rfl ?_
      refine d_gR k227_46 (by first | assumption | exact Nat.le_of_ble_eq_true rfl | omega) ⟨rfl, rfl, rfl⟩ rfl ?_
      refine d_run 1 rfl ?_
      refine d_ia (N := 6) (j := p) k227_50 (by decide) (by first | assumption | exact Nat.le_of_ble_eq_true rfl | omega) ⟨⟨rfl, rfl⟩, rfl, rfl⟩ (show p < 6 by omega) rfl ?_
      rw [m2 p hp]
      refine d_ir k227_51 rfl (by first | (simp only [q_pairs]; rw [if_pos h35]) | (simp only [q_pairs]; rw [if_neg h35, if_pos hN2, ix_nI (by omega)])) ?_
      exact hpo
    · refine d_run 1 rfl ?_
      refine d_gI k227_39 (by first | assumption | exact Nat.le_of_ble_eq_true rfl | omega) ⟨rfl, rfl, Or.inl rfl⟩ ?_
      rw [m1]
      refine d_run 1 rfl ?_
      refine d_ir k227_51 rfl (by first | (simp only [q_pairs]; rw [if_pos h35]) | (simp only [q_pairs]; rw [if_neg h35, if_pos hN2, ix_nI (by omega)])) ?_
      exact hpo
  · refine d_run 2 rfl ?_
    refine d_callT 2 k227_12 (by omega) (Nat.le_of_ble_eq_true rfl) rfl (Nat.le_of_ble_eq_true rfl) (Nat.le_of_ble_eq_true rfl) (recv_ok rfl (by first | assumption | exact Nat.le_of_ble_eq_true rfl | omega)) rfl (e_isP hL) rfl ?_
    refine d_if_ne k227_15 (fun h15 => ?_) (fun h15 => ?_)
    · rw [b2i0, Bool.not_eq_false] at h15
      have hN := h15
      refine d_run 2 rfl ?_
      refine d_pI k227_23 (by first | assumption | exact Nat.le_of_ble_eq_true rfl | omega) ⟨rfl, rfl⟩ ?_
      refine d_run 4 rfl ?_
      refine d_call 4 k227_30 (by omega) (Nat.le_of_ble_eq_true rfl) rfl (Nat.le_of_ble_eq_true rfl) (Nat.le_of_ble_eq_true rfl) (recv_ok rfl (by first | assumption | exact Nat.le_of_ble_eq_true rfl | omega)) rfl (d_run 2 rfl (b_mat hA (lP (gA o)) 0 (by omega) (d - 1) _ _ _ 0 (-1, nI, fun _ => 0) (by omega) (dPr_ml (FrK.rf.u rfl) hL) (by rw [uF_k (by decide)]; exact hS) (by omega) hM0 (Or.inl rfl))) rfl ?_
      rintro F2 G2 ⟨rfl, m1, m2, m3, m4, m5⟩
      have m1 : F2 40 0 57 = (pairR o).1 := m1
      have m2 : ∀ j, j < lP (gA o) → F2 80 0 j = (pairR o).2.2 j := m2.resolve_left hn1
      have hpo : MPost o F G2 F2 G2 := MPost.q h hw (dPr_k ((FrK.rf.u rfl).tr m5)) (by rw [m4 1 (by decide), uF_r, pk_un (by decide)]) (by rw [m4 49 (by decide), uF_r, pk_un (by decide)]) (by rw [m5 74 rfl, uF_k (by decide)]) (fun i _ => by rw [m5 70 rfl, uF_k (by decide)]) (fun _ _ => rfl)
      refine d_run 2 rfl ?_
      refine d_ic_ne k227_35 (fun h35 => ?_) (fun h35 => ?_)
      · have hN2 : isN u (lP (gA o)) = true := by
          first
          | exact hN
          | exact absurd h7 h35
        obtain ⟨p, hp, rfl⟩ := isN_ex hN2 (by omega)
        refine d_run 1 rfl ?_
        refine d_gR k227_46 (by first | assumption | exact Nat.le_of_ble_eq_true rfl | omega) ⟨rfl, rfl, rfl⟩ rfl ?_
        refine d_run 1 rfl ?_
        refine d_ia (N := 6) (j := p) k227_50 (by decide) (by first | assumption | exact Nat.le_of_ble_eq_true rfl | omega) ⟨⟨rfl, rfl⟩, rfl, rfl⟩ (show p < 6 by omega) rfl ?_
        rw [m2 p hp]
        refine d_ir k227_51 rfl (by first | (simp only [q_pairs]; rw [if_pos h35]) | (simp only [q_pairs]; rw [if_neg h35, if_pos hN2, ix_nI (by omega)])) ?_
        exact hpo
      · refine d_run 1 rfl ?_
        refine d_gI k227_39 (by first | assumption | exact Nat.le_of_ble_eq_true rfl | omega) ⟨rfl, rfl, Or.inl rfl⟩ ?_
        rw [m1]
        refine d_run 1 rfl ?_
        refine d_ir k227_51 rfl (by first | (simp only [q_pairs]; rw [if_pos h35]) | (simp only [q_pairs]; rw [if_neg h35, if_pos hN2, ix_nI (by omega)])) ?_
        exact hpo
    · rw [b2i0] at h15
      have hN := h15
      refine d_run 1 rfl ?_
      refine d_ir k227_20 rfl (by simp only [q_pairs]; rw [if_neg h7, hN]; rfl) ?_
      exact MPost.q0 h
theorem e_pairs (h : MInv F G o) (hw : WF o) (hd : 90 ≤ d) : Td E d 227 0 [some (vr 40 0), some (vi u)] [] x F G b (some (vi (q_pairs o u))) (MPost (o) F G) := by
  refine d_run 2 rfl ?_
  refine d_pI k227_2 (by first | assumption | exact Nat.le_of_ble_eq_true rfl | omega) ⟨rfl, rfl⟩ ?_
  exact MPost.th h hw (fun h => e_pairs0 h hw hd)
end M17
