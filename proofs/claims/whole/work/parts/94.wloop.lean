/-! worked(): its loop -/
def RWk (E : EV) (d x : Nat) (b : Bool) (G : GT) (F0 : FT) (len : Nat) (cs : List Int32) (X : RC) (S : RS) (R : Int32) : Prop := ∀ (F : FT) (i : Nat) (a4 a5 : Option PV), MSv F X S → S.length ≤ 5 → i + cs.length = len → (∀ j (hj : j < cs.length), F0 52 0 (i + j) = cs[j]) → FrK d55 F0 F → Td E d 145 14 [some (vr 40 0), some (vi 0), some (vi (nI S.length)), some (vi (nI i)), a4, a5] [] x F G b (some (vi R)) (fun F2 G2 => G2 = G ∧ FrK d55 F0 F2)
theorem dlV_le : ∀ {v : Int32} {X : RC} {S : RS}, (dlV v X S).2.length ≤ S.length
  | _, _, [] => Nat.le_refl _
  | v, X, (k, Y) :: S => by
    simp only [dlV]
    split
    · exact Nat.le_succ_of_le dlV_le
    · exact Nat.le_refl _
section TN
variable {E : EV} {d x len : Nat} {F F0 : FT} {G : GT} {b : Bool} {u v : Int32} {X Y : RC} {S : RS} {cs : List Int32} {R c : Int32} {k : Bool}
theorem w_ft {a1 a3 a4 : Option PV} {r : Option PV} {Q : FT → GT → Prop} (hs : S.length ≤ 6) (h : MSv F X S) (kk : ∀ (F2 : FT) (a5 : Option PV), MSv F2 (ftX X v) S → FrK d55 F F2 → Td E d 145 329 [some (vr 40 0), a1, some (vi (nI S.length)), a3, a4, a5] [] x F2 G b r Q) : Td E d 145 300 [some (vr 40 0), a1, some (vi (nI S.length)), a3, a4, some (vi v)] [] x F G b r Q := by
  have e62 : F 62 0 S.length = X 7 := h.top 7 (by decide)
  have e61 : F 61 0 S.length = X 6 := h.top 6 (by decide)
  have hu := h.u (j := 6) (v := if X 7 = 0 then v else X 6 * v) (by decide)
  refine d_run 1 rfl ?_
  refine d_gR k145_301 (by first | assumption | exact Nat.le_of_ble_eq_true rfl | omega) ⟨rfl, rfl, rfl⟩ rfl ?_
  refine d_run 2 rfl ?_
  refine d_gR k145_306 (by first | assumption | exact Nat.le_of_ble_eq_true rfl | omega) ⟨rfl, rfl, rfl⟩ rfl ?_
  refine d_run 1 rfl ?_
  refine d_ia (N := 7) (j := S.length) k145_310 (by decide) (by first | assumption | exact Nat.le_of_ble_eq_true rfl | omega) ⟨⟨rfl, rfl⟩, rfl, rfl⟩ (show S.length < 7 by omega) rfl ?_
  rw [e62]
  refine d_if_ne k145_311 (fun h311 => ?_) (fun h311 => ?_)
  · rw [if_neg h311] at hu
    refine d_run 1 rfl ?_
    refine d_gR k145_320 (by first | assumption | exact Nat.le_of_ble_eq_true rfl | omega) ⟨rfl, rfl, rfl⟩ rfl ?_
    refine d_run 1 rfl ?_
    refine d_ia (N := 7) (j := S.length) k145_324 (by decide) (by first | assumption | exact Nat.le_of_ble_eq_true rfl | omega) ⟨⟨rfl, rfl⟩, rfl, rfl⟩ (show S.length < 7 by omega) rfl ?_
    rw [e61]
    refine d_run 2 rfl ?_
    refine d_is (N := 7) (j := S.length) k145_328 (by first | assumption | exact Nat.le_of_ble_eq_true rfl | omega) ⟨rfl, rfl⟩ (show S.length < 7 by omega) rfl ?_
    refine kk _ _ ?_ (FrK.rf.u rfl)
    unfold ftX
    first | (rw [if_pos h311]; exact hu) | (rw [if_neg h311]; exact hu)
  · rw [if_pos h311] at hu
    refine d_run 2 rfl ?_
    refine d_is (N := 7) (j := S.length) k145_328 (by first | assumption | exact Nat.le_of_ble_eq_true rfl | omega) ⟨rfl, rfl⟩ (show S.length < 7 by omega) rfl ?_
    refine kk _ _ ?_ (FrK.rf.u rfl)
    unfold ftX
    first | (rw [if_pos h311]; exact hu) | (rw [if_neg h311]; exact hu)
theorem w_dl {a3 : Option PV} {c4 : Int32} {r : Option PV} {Q : FT → GT → Prop} : ∀ (S : RS) (X : RC) (v : Int32), S.length ≤ 6 → MSv F X S → (∀ (F2 : FT) (a5 : Option PV), MSv F2 (dlV v X S).1 (dlV v X S).2 → FrK d55 F F2 → Td E d 145 329 [some (vr 40 0), some (vi 0), some (vi (nI (dlV v X S).2.length)), a3, some (vi c4), a5] [] x F2 G b r Q) → Td E d 145 268 [some (vr 40 0), some (vi 0), some (vi (nI S.length)), a3, some (vi c4), some (vi v)] [] x F G b r Q
  | [], X, v, hs, h, kk => by
    refine d_run 1 rfl ?_
    refine d_if_le k145_269 (fun h269 => ?_) (fun h269 => ?_)
    · exact w_ft (S := []) (by decide) h kk
    · exact absurd (z_le0 (a := 0) h269 (by decide)) (by decide)
  | (true, Y) :: S, X, v, hs, h, kk => by
    have hs : S.length + 1 ≤ 6 := hs
    have e63 : F 63 0 (S.length + 1) = 1 := h.2.1
    show Td E d 145 268 [some (vr 40 0), some (vi 0), some (vi (nI (S.length + 1))), a3, some (vi c4), some (vi v)] [] x F G b r Q
    refine d_run 1 rfl ?_
    refine d_if_le k145_269 (fun h269 => ?_) (fun h269 => ?_)
    · exact absurd (le0_z h269 (by omega)) (by omega)
    · refine d_run 1 rfl ?_
      refine d_gR k145_273 (by first | assumption | exact Nat.le_of_ble_eq_true rfl | omega) ⟨rfl, rfl, rfl⟩ rfl ?_
      refine d_run 1 rfl ?_
      refine d_ia (N := 7) (j := S.length + 1) k145_277 (by decide) (by first | assumption | exact Nat.le_of_ble_eq_true rfl | omega) ⟨⟨rfl, rfl⟩, rfl, rfl⟩ (show S.length + 1 < 7 by omega) rfl ?_
      rw [e63]
      refine d_run 1 rfl ?_
      refine d_ic_ne k145_279 (fun h279 => ?_) (fun h279 => ?_)
      · exact absurd rfl h279
      · refine d_run 1 rfl ?_
        refine d_if_ne k145_284 (fun h284 => ?_) (fun h284 => ?_)
        · have e := w_dl S Y 0 (by omega) h.2.2 (fun F2 a5 m f => kk F2 a5 (by simp only [dlV]; rw [if_pos trivial, if_neg h284]; exact m) f |> fun q => by simp only [dlV] at q; rw [if_pos trivial, if_neg h284] at q; exact q)
          refine d_run 4 rfl ?_
          rw [show nI (S.length + 1) + -1 = nI S.length from nI_p1 (by omega)]
          exact e
        · have e := w_dl S Y 1 (by omega) h.2.2 (fun F2 a5 m f => kk F2 a5 (by simp only [dlV]; rw [if_pos trivial, if_pos h284]; exact m) f |> fun q => by simp only [dlV] at q; rw [if_pos trivial, if_pos h284] at q; exact q)
          refine d_run 5 rfl ?_
          rw [show nI (S.length + 1) + -1 = nI S.length from nI_p1 (by omega)]
          exact e
  | (false, Y) :: S, X, v, hs, h, kk => by
    have hs : S.length + 1 ≤ 6 := hs
    have e63 : F 63 0 (S.length + 1) = 0 := h.2.1
    show Td E d 145 268 [some (vr 40 0), some (vi 0), some (vi (nI (S.length + 1))), a3, some (vi c4), some (vi v)] [] x F G b r Q
    refine d_run 1 rfl ?_
    refine d_if_le k145_269 (fun h269 => ?_) (fun h269 => ?_)
    · exact absurd (le0_z h269 (by omega)) (by omega)
    · refine d_run 1 rfl ?_
      refine d_gR k145_273 (by first | assumption | exact Nat.le_of_ble_eq_true rfl | omega) ⟨rfl, rfl, rfl⟩ rfl ?_
      refine d_run 1 rfl ?_
      refine d_ia (N := 7) (j := S.length + 1) k145_277 (by decide) (by first | assumption | exact Nat.le_of_ble_eq_true rfl | omega) ⟨⟨rfl, rfl⟩, rfl, rfl⟩ (show S.length + 1 < 7 by omega) rfl ?_
      rw [e63]
      refine d_run 1 rfl ?_
      refine d_ic_ne k145_279 (fun h279 => ?_) (fun h279 => ?_)
      · exact w_ft (S := (false, Y) :: S) hs h kk
      · exact absurd h279 (by decide)
theorem w_nil (h51 : F0 51 0 0 = nI len) (hlen : len ≤ 1000) (hd : 2 ≤ d)  : RWk E d x b G F0 len [] X [] (kpV X) := by
  intro F i a4 a5 hsv hs hi hc hf
  have g51 : F 51 0 0 = nI len := by rw [hf 51 rfl]; exact h51
  have hi : i = len := by simpa using hi
  refine d_run 2 rfl ?_
  refine d_gR k145_16 (by first | assumption | exact Nat.le_of_ble_eq_true rfl | omega) ⟨rfl, rfl, rfl⟩ rfl ?_
  refine d_run 1 rfl ?_
  refine d_ia (N := 2) (j := 0) k145_20 (by decide) (by first | assumption | exact Nat.le_of_ble_eq_true rfl | omega) ⟨⟨rfl, rfl⟩, rfl, rfl⟩ (by decide) rfl ?_
  rw [g51]
  refine d_ic_ge k145_21 (fun h21 => ?_) (fun h21 => ?_)
  · refine d_run 2 rfl ?_
    refine d_call 2 k145_337 (by omega) (Nat.le_of_ble_eq_true rfl) rfl (Nat.le_of_ble_eq_true rfl) (Nat.le_of_ble_eq_true rfl) (recv_ok rfl (by first | assumption | exact Nat.le_of_ble_eq_true rfl | omega)) rfl (b_tests (S := []) (by omega) (by decide) hsv) rfl ?_
    rintro F2 G2 ⟨eG, h2, f2⟩
    subst eG
    have e55 : F2 55 0 0 = kpV X := (h2 0 (by decide)).trans (by simp [tsX, smX, upd])
    refine d_run 1 rfl ?_
    refine d_gR k145_341 (by first | assumption | exact Nat.le_of_ble_eq_true rfl | omega) ⟨rfl, rfl, rfl⟩ rfl ?_
    refine d_run 1 rfl ?_
    refine d_ia (N := 7) (j := 0) k145_345 (by decide) (by first | assumption | exact Nat.le_of_ble_eq_true rfl | omega) ⟨⟨rfl, rfl⟩, rfl, rfl⟩ (by decide) rfl ?_
    rw [e55]
    refine d_ir k145_346 rfl (by rfl) ?_
    exact ⟨rfl, hf.tr f2⟩
  · exact absurd (lt_nI h21 rfl (by omega) (by omega)) (by omega)
theorem w_push_true (h51 : F0 51 0 0 = nI len) (hlen : len ≤ 1000) (hd : 2 ≤ d) (hl : S.length < 5) (hz : ∀ z, RWk E d x b G F0 len cs (opX z) ((true, X) :: S) R) : RWk E d x b G F0 len (30 :: cs) X S R := by
  intro F i a4 a5 hsv hs hi hc hf
  have g51 : F 51 0 0 = nI len := by rw [hf 51 rfl]; exact h51
  simp only [List.length_cons] at hi
  have g52 : F 52 0 i = 30 := by rw [hf 52 rfl]; exact hc 0 (by simp)
  have hc2 : ∀ j (hj : j < cs.length), F0 52 0 (i + 1 + j) = cs[j] := fun j hj => by
    have := hc (j + 1) (by simp; omega)
    rw [show i + 1 + j = i + (j + 1) by omega, this]
    simp
  refine d_run 2 rfl ?_
  refine d_gR k145_16 (by first | assumption | exact Nat.le_of_ble_eq_true rfl | omega) ⟨rfl, rfl, rfl⟩ rfl ?_
  refine d_run 1 rfl ?_
  refine d_ia (N := 2) (j := 0) k145_20 (by decide) (by first | assumption | exact Nat.le_of_ble_eq_true rfl | omega) ⟨⟨rfl, rfl⟩, rfl, rfl⟩ (by decide) rfl ?_
  rw [g51]
  refine d_ic_ge k145_21 (fun h21 => ?_) (fun h21 => ?_)
  · exact absurd (ge_nI h21 rfl (by omega) (by omega)) (by omega)
  · refine d_run 1 rfl ?_
    refine d_gR k145_25 (by first | assumption | exact Nat.le_of_ble_eq_true rfl | omega) ⟨rfl, rfl, rfl⟩ rfl ?_
    refine d_run 1 rfl ?_
    refine d_ia (N := 2000) (j := i) k145_29 (by decide) (by first | assumption | exact Nat.le_of_ble_eq_true rfl | omega) ⟨⟨rfl, rfl⟩, rfl, rfl⟩ (show i < 2000 by omega) rfl ?_
    rw [g52]
    refine d_run 3 rfl ?_
    refine d_ic_eq k145_36 (fun h36 => ?_) (fun h36 => ?_)
    · first | exact absurd h36 (by decide) | exact absurd (by decide) h36
    · refine d_run 2 rfl ?_
      refine d_ic_ne k145_43 (fun h43 => ?_) (fun h43 => ?_)
      · first | exact absurd h43 (by decide) | exact absurd (by decide) h43
      · refine d_run 2 rfl ?_
        refine d_gR k145_50 (by first | assumption | exact Nat.le_of_ble_eq_true rfl | omega) ⟨rfl, rfl, rfl⟩ rfl ?_
        refine d_run 3 rfl ?_
        refine d_ic_ne k145_58 (fun h58 => ?_) (fun h58 => ?_)
        · first | exact absurd h58 (by decide) | exact absurd (by decide) h58
        · refine d_run 2 rfl ?_
          refine d_is (N := 7) (j := S.length + 1) k145_66 (by first | assumption | exact Nat.le_of_ble_eq_true rfl | omega) ⟨rfl, rfl⟩ (show S.length + 1 < 7 by omega) (nI_1 _) ?_
          refine d_run 2 rfl ?_
          rw [show nI S.length + 1 = nI (((true, X) :: S) : RS).length from nI_1 _]
          refine d_call 2 k145_69 (by omega) (Nat.le_of_ble_eq_true rfl) rfl (Nat.le_of_ble_eq_true rfl) (Nat.le_of_ble_eq_true rfl) (recv_ok rfl (by first | assumption | exact Nat.le_of_ble_eq_true rfl | omega)) rfl (b_opens (S := (true, X) :: S) (by show S.length + 1 ≤ 6; omega) (hsv.pu (k := true) rfl)) rfl ?_
          rintro F2 G2 ⟨eG, h2, f2⟩
          subst eG
          refine d_run 3 rfl ?_
          rw [show nI i + 1 = nI (i + 1) from nI_1 _]
          exact hz _ F2 (i + 1) _ _ h2 (by show S.length + 1 ≤ 5; omega) (by omega) hc2 ((hf.u rfl).tr f2)
theorem w_push_false (h51 : F0 51 0 0 = nI len) (hlen : len ≤ 1000) (hd : 2 ≤ d) (hl : S.length < 5) (hz : ∀ z, RWk E d x b G F0 len cs (opX z) ((false, X) :: S) R) : RWk E d x b G F0 len (28 :: cs) X S R := by
  intro F i a4 a5 hsv hs hi hc hf
  have g51 : F 51 0 0 = nI len := by rw [hf 51 rfl]; exact h51
  simp only [List.length_cons] at hi
  have g52 : F 52 0 i = 28 := by rw [hf 52 rfl]; exact hc 0 (by simp)
  have hc2 : ∀ j (hj : j < cs.length), F0 52 0 (i + 1 + j) = cs[j] := fun j hj => by
    have := hc (j + 1) (by simp; omega)
    rw [show i + 1 + j = i + (j + 1) by omega, this]
    simp
  refine d_run 2 rfl ?_
  refine d_gR k145_16 (by first | assumption | exact Nat.le_of_ble_eq_true rfl | omega) ⟨rfl, rfl, rfl⟩ rfl ?_
  refine d_run 1 rfl ?_
  refine d_ia (N := 2) (j := 0) k145_20 (by decide) (by first | assumption | exact Nat.le_of_ble_eq_true rfl | omega) ⟨⟨rfl, rfl⟩, rfl, rfl⟩ (by decide) rfl ?_
  rw [g51]
  refine d_ic_ge k145_21 (fun h21 => ?_) (fun h21 => ?_)
  · exact absurd (ge_nI h21 rfl (by omega) (by omega)) (by omega)
  · refine d_run 1 rfl ?_
    refine d_gR k145_25 (by first | assumption | exact Nat.le_of_ble_eq_true rfl | omega) ⟨rfl, rfl, rfl⟩ rfl ?_
    refine d_run 1 rfl ?_
    refine d_ia (N := 2000) (j := i) k145_29 (by decide) (by first | assumption | exact Nat.le_of_ble_eq_true rfl | omega) ⟨⟨rfl, rfl⟩, rfl, rfl⟩ (show i < 2000 by omega) rfl ?_
    rw [g52]
    refine d_run 3 rfl ?_
    refine d_ic_eq k145_36 (fun h36 => ?_) (fun h36 => ?_)
    · refine d_run 2 rfl ?_
      refine d_gR k145_50 (by first | assumption | exact Nat.le_of_ble_eq_true rfl | omega) ⟨rfl, rfl, rfl⟩ rfl ?_
      refine d_run 3 rfl ?_
      refine d_ic_ne k145_58 (fun h58 => ?_) (fun h58 => ?_)
      · refine d_run 1 rfl ?_
        refine d_is (N := 7) (j := S.length + 1) k145_66 (by first | assumption | exact Nat.le_of_ble_eq_true rfl | omega) ⟨rfl, rfl⟩ (show S.length + 1 < 7 by omega) (nI_1 _) ?_
        refine d_run 2 rfl ?_
        rw [show nI S.length + 1 = nI (((false, X) :: S) : RS).length from nI_1 _]
        refine d_call 2 k145_69 (by omega) (Nat.le_of_ble_eq_true rfl) rfl (Nat.le_of_ble_eq_true rfl) (Nat.le_of_ble_eq_true rfl) (recv_ok rfl (by first | assumption | exact Nat.le_of_ble_eq_true rfl | omega)) rfl (b_opens (S := (false, X) :: S) (by show S.length + 1 ≤ 6; omega) (hsv.pu (k := false) rfl)) rfl ?_
        rintro F2 G2 ⟨eG, h2, f2⟩
        subst eG
        refine d_run 3 rfl ?_
        rw [show nI i + 1 = nI (i + 1) from nI_1 _]
        exact hz _ F2 (i + 1) _ _ h2 (by show S.length + 1 ≤ 5; omega) (by omega) hc2 ((hf.u rfl).tr f2)
      · first | exact absurd h58 (by decide) | exact absurd (by decide) h58
    · first | exact absurd h36 (by decide) | exact absurd (by decide) h36
theorem w_sm20 (h51 : F0 51 0 0 = nI len) (hlen : len ≤ 1000) (hd : 2 ≤ d) (hz : RWk E d x b G F0 len cs (upd (smX X) 5 20) S R) : RWk E d x b G F0 len (20 :: cs) X S R := by
  intro F i a4 a5 hsv hs hi hc hf
  have g51 : F 51 0 0 = nI len := by rw [hf 51 rfl]; exact h51
  simp only [List.length_cons] at hi
  have g52 : F 52 0 i = 20 := by rw [hf 52 rfl]; exact hc 0 (by simp)
  have hc2 : ∀ j (hj : j < cs.length), F0 52 0 (i + 1 + j) = cs[j] := fun j hj => by
    have := hc (j + 1) (by simp; omega)
    rw [show i + 1 + j = i + (j + 1) by omega, this]
    simp
  refine d_run 2 rfl ?_
  refine d_gR k145_16 (by first | assumption | exact Nat.le_of_ble_eq_true rfl | omega) ⟨rfl, rfl, rfl⟩ rfl ?_
  refine d_run 1 rfl ?_
  refine d_ia (N := 2) (j := 0) k145_20 (by decide) (by first | assumption | exact Nat.le_of_ble_eq_true rfl | omega) ⟨⟨rfl, rfl⟩, rfl, rfl⟩ (by decide) rfl ?_
  rw [g51]
  refine d_ic_ge k145_21 (fun h21 => ?_) (fun h21 => ?_)
  · exact absurd (ge_nI h21 rfl (by omega) (by omega)) (by omega)
  · refine d_run 1 rfl ?_
    refine d_gR k145_25 (by first | assumption | exact Nat.le_of_ble_eq_true rfl | omega) ⟨rfl, rfl, rfl⟩ rfl ?_
    refine d_run 1 rfl ?_
    refine d_ia (N := 2000) (j := i) k145_29 (by decide) (by first | assumption | exact Nat.le_of_ble_eq_true rfl | omega) ⟨⟨rfl, rfl⟩, rfl, rfl⟩ (show i < 2000 by omega) rfl ?_
    rw [g52]
    refine d_run 3 rfl ?_
    refine d_ic_eq k145_36 (fun h36 => ?_) (fun h36 => ?_)
    · first | exact absurd h36 (by decide) | exact absurd (by decide) h36
    · refine d_run 2 rfl ?_
      refine d_ic_ne k145_43 (fun h43 => ?_) (fun h43 => ?_)
      · refine d_run 2 rfl ?_
        refine d_ic_eq k145_79 (fun h79 => ?_) (fun h79 => ?_)
        · refine d_run 2 rfl ?_
          refine d_call 2 k145_91 (by omega) (Nat.le_of_ble_eq_true rfl) rfl (Nat.le_of_ble_eq_true rfl) (Nat.le_of_ble_eq_true rfl) (recv_ok rfl (by first | assumption | exact Nat.le_of_ble_eq_true rfl | omega)) rfl (b_sums (by omega) hsv) rfl ?_
          rintro F2 G2 ⟨eG, h2, f2⟩
          subst eG
          refine d_run 1 rfl ?_
          refine d_gR k145_95 (by first | assumption | exact Nat.le_of_ble_eq_true rfl | omega) ⟨rfl, rfl, rfl⟩ rfl ?_
          refine d_run 2 rfl ?_
          refine d_is (N := 7) (j := S.length) k145_101 (by first | assumption | exact Nat.le_of_ble_eq_true rfl | omega) ⟨rfl, rfl⟩ (show S.length < 7 by omega) rfl ?_
          refine d_run 3 rfl ?_
          rw [show nI i + 1 = nI (i + 1) from nI_1 _]
          exact hz _ (i + 1) _ _ (h2.u (j := 5) (by decide)) hs (by omega) hc2 ((hf.tr f2).u rfl)
        · first | exact absurd h79 (by decide) | exact absurd (by decide) h79
      · first | exact absurd h43 (by decide) | exact absurd (by decide) h43
theorem w_sm21 (h51 : F0 51 0 0 = nI len) (hlen : len ≤ 1000) (hd : 2 ≤ d) (hz : RWk E d x b G F0 len cs (upd (smX X) 5 21) S R) : RWk E d x b G F0 len (21 :: cs) X S R := by
  intro F i a4 a5 hsv hs hi hc hf
  have g51 : F 51 0 0 = nI len := by rw [hf 51 rfl]; exact h51
  simp only [List.length_cons] at hi
  have g52 : F 52 0 i = 21 := by rw [hf 52 rfl]; exact hc 0 (by simp)
  have hc2 : ∀ j (hj : j < cs.length), F0 52 0 (i + 1 + j) = cs[j] := fun j hj => by
    have := hc (j + 1) (by simp; omega)
    rw [show i + 1 + j = i + (j + 1) by omega, this]
    simp
  refine d_run 2 rfl ?_
  refine d_gR k145_16 (by first | assumption | exact Nat.le_of_ble_eq_true rfl | omega) ⟨rfl, rfl, rfl⟩ rfl ?_
  refine d_run 1 rfl ?_
  refine d_ia (N := 2) (j := 0) k145_20 (by decide) (by first | assumption | exact Nat.le_of_ble_eq_true rfl | omega) ⟨⟨rfl, rfl⟩, rfl, rfl⟩ (by decide) rfl ?_
  rw [g51]
  refine d_ic_ge k145_21 (fun h21 => ?_) (fun h21 => ?_)
  · exact absurd (ge_nI h21 rfl (by omega) (by omega)) (by omega)
  · refine d_run 1 rfl ?_
    refine d_gR k145_25 (by first | assumption | exact Nat.le_of_ble_eq_true rfl | omega) ⟨rfl, rfl, rfl⟩ rfl ?_
    refine d_run 1 rfl ?_
    refine d_ia (N := 2000) (j := i) k145_29 (by decide) (by first | assumption | exact Nat.le_of_ble_eq_true rfl | omega) ⟨⟨rfl, rfl⟩, rfl, rfl⟩ (show i < 2000 by omega) rfl ?_
    rw [g52]
    refine d_run 3 rfl ?_
    refine d_ic_eq k145_36 (fun h36 => ?_) (fun h36 => ?_)
    · first | exact absurd h36 (by decide) | exact absurd (by decide) h36
    · refine d_run 2 rfl ?_
      refine d_ic_ne k145_43 (fun h43 => ?_) (fun h43 => ?_)
      · refine d_run 2 rfl ?_
        refine d_ic_eq k145_79 (fun h79 => ?_) (fun h79 => ?_)
        · first | exact absurd h79 (by decide) | exact absurd (by decide) h79
        · refine d_run 2 rfl ?_
          refine d_ic_ne k145_86 (fun h86 => ?_) (fun h86 => ?_)
          · first | exact absurd h86 (by decide) | exact absurd (by decide) h86
          · refine d_run 2 rfl ?_
            refine d_call 2 k145_91 (by omega) (Nat.le_of_ble_eq_true rfl) rfl (Nat.le_of_ble_eq_true rfl) (Nat.le_of_ble_eq_true rfl) (recv_ok rfl (by first | assumption | exact Nat.le_of_ble_eq_true rfl | omega)) rfl (b_sums (by omega) hsv) rfl ?_
            rintro F2 G2 ⟨eG, h2, f2⟩
            subst eG
            refine d_run 1 rfl ?_
            refine d_gR k145_95 (by first | assumption | exact Nat.le_of_ble_eq_true rfl | omega) ⟨rfl, rfl, rfl⟩ rfl ?_
            refine d_run 2 rfl ?_
            refine d_is (N := 7) (j := S.length) k145_101 (by first | assumption | exact Nat.le_of_ble_eq_true rfl | omega) ⟨rfl, rfl⟩ (show S.length < 7 by omega) rfl ?_
            refine d_run 3 rfl ?_
            rw [show nI i + 1 = nI (i + 1) from nI_1 _]
            exact hz _ (i + 1) _ _ (h2.u (j := 5) (by decide)) hs (by omega) hc2 ((hf.tr f2).u rfl)
      · first | exact absurd h43 (by decide) | exact absurd (by decide) h43
theorem w_ti (h51 : F0 51 0 0 = nI len) (hlen : len ≤ 1000) (hd : 2 ≤ d) (hz : RWk E d x b G F0 len cs (upd X 7 22) S R) : RWk E d x b G F0 len (22 :: cs) X S R := by
  intro F i a4 a5 hsv hs hi hc hf
  have g51 : F 51 0 0 = nI len := by rw [hf 51 rfl]; exact h51
  simp only [List.length_cons] at hi
  have g52 : F 52 0 i = 22 := by rw [hf 52 rfl]; exact hc 0 (by simp)
  have hc2 : ∀ j (hj : j < cs.length), F0 52 0 (i + 1 + j) = cs[j] := fun j hj => by
    have := hc (j + 1) (by simp; omega)
    rw [show i + 1 + j = i + (j + 1) by omega, this]
    simp
  refine d_run 2 rfl ?_
  refine d_gR k145_16 (by first | assumption | exact Nat.le_of_ble_eq_true rfl | omega) ⟨rfl, rfl, rfl⟩ rfl ?_
  refine d_run 1 rfl ?_
  refine d_ia (N := 2) (j := 0) k145_20 (by decide) (by first | assumption | exact Nat.le_of_ble_eq_true rfl | omega) ⟨⟨rfl, rfl⟩, rfl, rfl⟩ (by decide) rfl ?_
  rw [g51]
  refine d_ic_ge k145_21 (fun h21 => ?_) (fun h21 => ?_)
  · exact absurd (ge_nI h21 rfl (by omega) (by omega)) (by omega)
  · refine d_run 1 rfl ?_
    refine d_gR k145_25 (by first | assumption | exact Nat.le_of_ble_eq_true rfl | omega) ⟨rfl, rfl, rfl⟩ rfl ?_
    refine d_run 1 rfl ?_
    refine d_ia (N := 2000) (j := i) k145_29 (by decide) (by first | assumption | exact Nat.le_of_ble_eq_true rfl | omega) ⟨⟨rfl, rfl⟩, rfl, rfl⟩ (show i < 2000 by omega) rfl ?_
    rw [g52]
    refine d_run 3 rfl ?_
    refine d_ic_eq k145_36 (fun h36 => ?_) (fun h36 => ?_)
    · first | exact absurd h36 (by decide) | exact absurd (by decide) h36
    · refine d_run 2 rfl ?_
      refine d_ic_ne k145_43 (fun h43 => ?_) (fun h43 => ?_)
      · refine d_run 2 rfl ?_
        refine d_ic_eq k145_79 (fun h79 => ?_) (fun h79 => ?_)
        · first | exact absurd h79 (by decide) | exact absurd (by decide) h79
        · refine d_run 2 rfl ?_
          refine d_ic_ne k145_86 (fun h86 => ?_) (fun h86 => ?_)
          · refine d_run 2 rfl ?_
            refine d_ic_ne k145_109 (fun h109 => ?_) (fun h109 => ?_)
            · first | exact absurd h109 (by decide) | exact absurd (by decide) h109
            · refine d_run 1 rfl ?_
              refine d_gR k145_113 (by first | assumption | exact Nat.le_of_ble_eq_true rfl | omega) ⟨rfl, rfl, rfl⟩ rfl ?_
              refine d_run 2 rfl ?_
              refine d_is (N := 7) (j := S.length) k145_119 (by first | assumption | exact Nat.le_of_ble_eq_true rfl | omega) ⟨rfl, rfl⟩ (show S.length < 7 by omega) rfl ?_
              refine d_run 3 rfl ?_
              rw [show nI i + 1 = nI (i + 1) from nI_1 _]
              exact hz _ (i + 1) _ _ (hsv.u (j := 7) (by decide)) hs (by omega) hc2 (hf.u rfl)
          · first | exact absurd h86 (by decide) | exact absurd (by decide) h86
      · first | exact absurd h43 (by decide) | exact absurd (by decide) h43
theorem w_cp24 (h51 : F0 51 0 0 = nI len) (hlen : len ≤ 1000) (hd : 2 ≤ d) (hz : RWk E d x b G F0 len cs (cpX 24 X) S R) : RWk E d x b G F0 len (24 :: cs) X S R := by
  intro F i a4 a5 hsv hs hi hc hf
  have g51 : F 51 0 0 = nI len := by rw [hf 51 rfl]; exact h51
  simp only [List.length_cons] at hi
  have g52 : F 52 0 i = 24 := by rw [hf 52 rfl]; exact hc 0 (by simp)
  have hc2 : ∀ j (hj : j < cs.length), F0 52 0 (i + 1 + j) = cs[j] := fun j hj => by
    have := hc (j + 1) (by simp; omega)
    rw [show i + 1 + j = i + (j + 1) by omega, this]
    simp
  refine d_run 2 rfl ?_
  refine d_gR k145_16 (by first | assumption | exact Nat.le_of_ble_eq_true rfl | omega) ⟨rfl, rfl, rfl⟩ rfl ?_
  refine d_run 1 rfl ?_
  refine d_ia (N := 2) (j := 0) k145_20 (by decide) (by first | assumption | exact Nat.le_of_ble_eq_true rfl | omega) ⟨⟨rfl, rfl⟩, rfl, rfl⟩ (by decide) rfl ?_
  rw [g51]
  refine d_ic_ge k145_21 (fun h21 => ?_) (fun h21 => ?_)
  · exact absurd (ge_nI h21 rfl (by omega) (by omega)) (by omega)
  · refine d_run 1 rfl ?_
    refine d_gR k145_25 (by first | assumption | exact Nat.le_of_ble_eq_true rfl | omega) ⟨rfl, rfl, rfl⟩ rfl ?_
    refine d_run 1 rfl ?_
    refine d_ia (N := 2000) (j := i) k145_29 (by decide) (by first | assumption | exact Nat.le_of_ble_eq_true rfl | omega) ⟨⟨rfl, rfl⟩, rfl, rfl⟩ (show i < 2000 by omega) rfl ?_
    rw [g52]
    refine d_run 3 rfl ?_
    refine d_ic_eq k145_36 (fun h36 => ?_) (fun h36 => ?_)
    · first | exact absurd h36 (by decide) | exact absurd (by decide) h36
    · refine d_run 2 rfl ?_
      refine d_ic_ne k145_43 (fun h43 => ?_) (fun h43 => ?_)
      · refine d_run 2 rfl ?_
        refine d_ic_eq k145_79 (fun h79 => ?_) (fun h79 => ?_)
        · first | exact absurd h79 (by decide) | exact absurd (by decide) h79
        · refine d_run 2 rfl ?_
          refine d_ic_ne k145_86 (fun h86 => ?_) (fun h86 => ?_)
          · refine d_run 2 rfl ?_
            refine d_ic_ne k145_109 (fun h109 => ?_) (fun h109 => ?_)
            · refine d_run 2 rfl ?_
              refine d_ic_eq k145_127 (fun h127 => ?_) (fun h127 => ?_)
              · refine d_run 2 rfl ?_
                refine d_call 2 k145_139 (by omega) (Nat.le_of_ble_eq_true rfl) rfl (Nat.le_of_ble_eq_true rfl) (Nat.le_of_ble_eq_true rfl) (recv_ok rfl (by first | assumption | exact Nat.le_of_ble_eq_true rfl | omega)) rfl (b_sums (by omega) hsv) rfl ?_
                rintro F2 G2 ⟨eG, h2, f2⟩
                subst eG
                have e59 : F2 59 0 S.length = smV X := (h2.top 4 (by decide)).trans (by simp [smX, upd])
                refine d_run 1 rfl ?_
                refine d_gR k145_143 (by first | assumption | exact Nat.le_of_ble_eq_true rfl | omega) ⟨rfl, rfl, rfl⟩ rfl ?_
                refine d_run 2 rfl ?_
                refine d_gR k145_148 (by first | assumption | exact Nat.le_of_ble_eq_true rfl | omega) ⟨rfl, rfl, rfl⟩ rfl ?_
                refine d_run 1 rfl ?_
                refine d_ia (N := 7) (j := S.length) k145_152 (by decide) (by first | assumption | exact Nat.le_of_ble_eq_true rfl | omega) ⟨⟨rfl, rfl⟩, rfl, rfl⟩ (show S.length < 7 by omega) rfl ?_
                rw [e59]
                refine d_is (N := 7) (j := S.length) k145_153 (by first | assumption | exact Nat.le_of_ble_eq_true rfl | omega) ⟨rfl, rfl⟩ (show S.length < 7 by omega) rfl ?_
                refine d_run 1 rfl ?_
                refine d_gR k145_155 (by first | assumption | exact Nat.le_of_ble_eq_true rfl | omega) ⟨rfl, rfl, rfl⟩ rfl ?_
                refine d_run 2 rfl ?_
                refine d_is (N := 7) (j := S.length) k145_161 (by first | assumption | exact Nat.le_of_ble_eq_true rfl | omega) ⟨rfl, rfl⟩ (show S.length < 7 by omega) rfl ?_
                refine d_run 1 rfl ?_
                refine d_gR k145_163 (by first | assumption | exact Nat.le_of_ble_eq_true rfl | omega) ⟨rfl, rfl, rfl⟩ rfl ?_
                refine d_run 2 rfl ?_
                refine d_is (N := 7) (j := S.length) k145_168 (by first | assumption | exact Nat.le_of_ble_eq_true rfl | omega) ⟨rfl, rfl⟩ (show S.length < 7 by omega) rfl ?_
                refine d_run 1 rfl ?_
                refine d_gR k145_170 (by first | assumption | exact Nat.le_of_ble_eq_true rfl | omega) ⟨rfl, rfl, rfl⟩ rfl ?_
                refine d_run 2 rfl ?_
                refine d_is (N := 7) (j := S.length) k145_176 (by first | assumption | exact Nat.le_of_ble_eq_true rfl | omega) ⟨rfl, rfl⟩ (show S.length < 7 by omega) rfl ?_
                refine d_run 3 rfl ?_
                rw [show nI i + 1 = nI (i + 1) from nI_1 _]
                exact hz _ (i + 1) _ _ ((((h2.u (j := 2) (by decide)).u (j := 3) (by decide)).u (j := 4) (by decide)).u (j := 5) (by decide)) hs (by omega) hc2 (((((hf.tr f2).u rfl).u rfl).u rfl).u rfl)
              · first | exact absurd h127 (by decide) | exact absurd (by decide) h127
            · first | exact absurd h109 (by decide) | exact absurd (by decide) h109
          · first | exact absurd h86 (by decide) | exact absurd (by decide) h86
      · first | exact absurd h43 (by decide) | exact absurd (by decide) h43
theorem w_cp25 (h51 : F0 51 0 0 = nI len) (hlen : len ≤ 1000) (hd : 2 ≤ d) (hz : RWk E d x b G F0 len cs (cpX 25 X) S R) : RWk E d x b G F0 len (25 :: cs) X S R := by
  intro F i a4 a5 hsv hs hi hc hf
  have g51 : F 51 0 0 = nI len := by rw [hf 51 rfl]; exact h51
  simp only [List.length_cons] at hi
  have g52 : F 52 0 i = 25 := by rw [hf 52 rfl]; exact hc 0 (by simp)
  have hc2 : ∀ j (hj : j < cs.length), F0 52 0 (i + 1 + j) = cs[j] := fun j hj => by
    have := hc (j + 1) (by simp; omega)
    rw [show i + 1 + j = i + (j + 1) by omega, this]
    simp
  refine d_run 2 rfl ?_
  refine d_gR k145_16 (by first | assumption | exact Nat.le_of_ble_eq_true rfl | omega) ⟨rfl, rfl, rfl⟩ rfl ?_
  refine d_run 1 rfl ?_
  refine d_ia (N := 2) (j := 0) k145_20 (by decide) (by first | assumption | exact Nat.le_of_ble_eq_true rfl | omega) ⟨⟨rfl, rfl⟩, rfl, rfl⟩ (by decide) rfl ?_
  rw [g51]
  refine d_ic_ge k145_21 (fun h21 => ?_) (fun h21 => ?_)
  · exact absurd (ge_nI h21 rfl (by omega) (by omega)) (by omega)
  · refine d_run 1 rfl ?_
    refine d_gR k145_25 (by first | assumption | exact Nat.le_of_ble_eq_true rfl | omega) ⟨rfl, rfl, rfl⟩ rfl ?_
    refine d_run 1 rfl ?_
    refine d_ia (N := 2000) (j := i) k145_29 (by decide) (by first | assumption | exact Nat.le_of_ble_eq_true rfl | omega) ⟨⟨rfl, rfl⟩, rfl, rfl⟩ (show i < 2000 by omega) rfl ?_
    rw [g52]
    refine d_run 3 rfl ?_
    refine d_ic_eq k145_36 (fun h36 => ?_) (fun h36 => ?_)
    · first | exact absurd h36 (by decide) | exact absurd (by decide) h36
    · refine d_run 2 rfl ?_
      refine d_ic_ne k145_43 (fun h43 => ?_) (fun h43 => ?_)
      · refine d_run 2 rfl ?_
        refine d_ic_eq k145_79 (fun h79 => ?_) (fun h79 => ?_)
        · first | exact absurd h79 (by decide) | exact absurd (by decide) h79
        · refine d_run 2 rfl ?_
          refine d_ic_ne k145_86 (fun h86 => ?_) (fun h86 => ?_)
          · refine d_run 2 rfl ?_
            refine d_ic_ne k145_109 (fun h109 => ?_) (fun h109 => ?_)
            · refine d_run 2 rfl ?_
              refine d_ic_eq k145_127 (fun h127 => ?_) (fun h127 => ?_)
              · first | exact absurd h127 (by decide) | exact absurd (by decide) h127
              · refine d_run 2 rfl ?_
                refine d_ic_ne k145_134 (fun h134 => ?_) (fun h134 => ?_)
                · first | exact absurd h134 (by decide) | exact absurd (by decide) h134
                · refine d_run 2 rfl ?_
                  refine d_call 2 k145_139 (by omega) (Nat.le_of_ble_eq_true rfl) rfl (Nat.le_of_ble_eq_true rfl) (Nat.le_of_ble_eq_true rfl) (recv_ok rfl (by first | assumption | exact Nat.le_of_ble_eq_true rfl | omega)) rfl (b_sums (by omega) hsv) rfl ?_
                  rintro F2 G2 ⟨eG, h2, f2⟩
                  subst eG
                  have e59 : F2 59 0 S.length = smV X := (h2.top 4 (by decide)).trans (by simp [smX, upd])
                  refine d_run 1 rfl ?_
                  refine d_gR k145_143 (by first | assumption | exact Nat.le_of_ble_eq_true rfl | omega) ⟨rfl, rfl, rfl⟩ rfl ?_
                  refine d_run 2 rfl ?_
                  refine d_gR k145_148 (by first | assumption | exact Nat.le_of_ble_eq_true rfl | omega) ⟨rfl, rfl, rfl⟩ rfl ?_
                  refine d_run 1 rfl ?_
                  refine d_ia (N := 7) (j := S.length) k145_152 (by decide) (by first | assumption | exact Nat.le_of_ble_eq_true rfl | omega) ⟨⟨rfl, rfl⟩, rfl, rfl⟩ (show S.length < 7 by omega) rfl ?_
                  rw [e59]
                  refine d_is (N := 7) (j := S.length) k145_153 (by first | assumption | exact Nat.le_of_ble_eq_true rfl | omega) ⟨rfl, rfl⟩ (show S.length < 7 by omega) rfl ?_
                  refine d_run 1 rfl ?_
                  refine d_gR k145_155 (by first | assumption | exact Nat.le_of_ble_eq_true rfl | omega) ⟨rfl, rfl, rfl⟩ rfl ?_
                  refine d_run 2 rfl ?_
                  refine d_is (N := 7) (j := S.length) k145_161 (by first | assumption | exact Nat.le_of_ble_eq_true rfl | omega) ⟨rfl, rfl⟩ (show S.length < 7 by omega) rfl ?_
                  refine d_run 1 rfl ?_
                  refine d_gR k145_163 (by first | assumption | exact Nat.le_of_ble_eq_true rfl | omega) ⟨rfl, rfl, rfl⟩ rfl ?_
                  refine d_run 2 rfl ?_
                  refine d_is (N := 7) (j := S.length) k145_168 (by first | assumption | exact Nat.le_of_ble_eq_true rfl | omega) ⟨rfl, rfl⟩ (show S.length < 7 by omega) rfl ?_
                  refine d_run 1 rfl ?_
                  refine d_gR k145_170 (by first | assumption | exact Nat.le_of_ble_eq_true rfl | omega) ⟨rfl, rfl, rfl⟩ rfl ?_
                  refine d_run 2 rfl ?_
                  refine d_is (N := 7) (j := S.length) k145_176 (by first | assumption | exact Nat.le_of_ble_eq_true rfl | omega) ⟨rfl, rfl⟩ (show S.length < 7 by omega) rfl ?_
                  refine d_run 3 rfl ?_
                  rw [show nI i + 1 = nI (i + 1) from nI_1 _]
                  exact hz _ (i + 1) _ _ ((((h2.u (j := 2) (by decide)).u (j := 3) (by decide)).u (j := 4) (by decide)).u (j := 5) (by decide)) hs (by omega) hc2 (((((hf.tr f2).u rfl).u rfl).u rfl).u rfl)
            · first | exact absurd h109 (by decide) | exact absurd (by decide) h109
          · first | exact absurd h86 (by decide) | exact absurd (by decide) h86
      · first | exact absurd h43 (by decide) | exact absurd (by decide) h43
theorem w_lg26 (h51 : F0 51 0 0 = nI len) (hlen : len ≤ 1000) (hd : 2 ≤ d) (hz : RWk E d x b G F0 len cs (upd (tsX X) 1 26) S R) : RWk E d x b G F0 len (26 :: cs) X S R := by
  intro F i a4 a5 hsv hs hi hc hf
  have g51 : F 51 0 0 = nI len := by rw [hf 51 rfl]; exact h51
  simp only [List.length_cons] at hi
  have g52 : F 52 0 i = 26 := by rw [hf 52 rfl]; exact hc 0 (by simp)
  have hc2 : ∀ j (hj : j < cs.length), F0 52 0 (i + 1 + j) = cs[j] := fun j hj => by
    have := hc (j + 1) (by simp; omega)
    rw [show i + 1 + j = i + (j + 1) by omega, this]
    simp
  refine d_run 2 rfl ?_
  refine d_gR k145_16 (by first | assumption | exact Nat.le_of_ble_eq_true rfl | omega) ⟨rfl, rfl, rfl⟩ rfl ?_
  refine d_run 1 rfl ?_
  refine d_ia (N := 2) (j := 0) k145_20 (by decide) (by first | assumption | exact Nat.le_of_ble_eq_true rfl | omega) ⟨⟨rfl, rfl⟩, rfl, rfl⟩ (by decide) rfl ?_
  rw [g51]
  refine d_ic_ge k145_21 (fun h21 => ?_) (fun h21 => ?_)
  · exact absurd (ge_nI h21 rfl (by omega) (by omega)) (by omega)
  · refine d_run 1 rfl ?_
    refine d_gR k145_25 (by first | assumption | exact Nat.le_of_ble_eq_true rfl | omega) ⟨rfl, rfl, rfl⟩ rfl ?_
    refine d_run 1 rfl ?_
    refine d_ia (N := 2000) (j := i) k145_29 (by decide) (by first | assumption | exact Nat.le_of_ble_eq_true rfl | omega) ⟨⟨rfl, rfl⟩, rfl, rfl⟩ (show i < 2000 by omega) rfl ?_
    rw [g52]
    refine d_run 3 rfl ?_
    refine d_ic_eq k145_36 (fun h36 => ?_) (fun h36 => ?_)
    · first | exact absurd h36 (by decide) | exact absurd (by decide) h36
    · refine d_run 2 rfl ?_
      refine d_ic_ne k145_43 (fun h43 => ?_) (fun h43 => ?_)
      · refine d_run 2 rfl ?_
        refine d_ic_eq k145_79 (fun h79 => ?_) (fun h79 => ?_)
        · first | exact absurd h79 (by decide) | exact absurd (by decide) h79
        · refine d_run 2 rfl ?_
          refine d_ic_ne k145_86 (fun h86 => ?_) (fun h86 => ?_)
          · refine d_run 2 rfl ?_
            refine d_ic_ne k145_109 (fun h109 => ?_) (fun h109 => ?_)
            · refine d_run 2 rfl ?_
              refine d_ic_eq k145_127 (fun h127 => ?_) (fun h127 => ?_)
              · first | exact absurd h127 (by decide) | exact absurd (by decide) h127
              · refine d_run 2 rfl ?_
                refine d_ic_ne k145_134 (fun h134 => ?_) (fun h134 => ?_)
                · refine d_run 2 rfl ?_
                  refine d_ic_eq k145_184 (fun h184 => ?_) (fun h184 => ?_)
                  · refine d_run 2 rfl ?_
                    refine d_call 2 k145_196 (by omega) (Nat.le_of_ble_eq_true rfl) rfl (Nat.le_of_ble_eq_true rfl) (Nat.le_of_ble_eq_true rfl) (recv_ok rfl (by first | assumption | exact Nat.le_of_ble_eq_true rfl | omega)) rfl (b_tests (by omega) (by omega) hsv) rfl ?_
                    rintro F2 G2 ⟨eG, h2, f2⟩
                    subst eG
                    refine d_run 1 rfl ?_
                    refine d_gR k145_200 (by first | assumption | exact Nat.le_of_ble_eq_true rfl | omega) ⟨rfl, rfl, rfl⟩ rfl ?_
                    refine d_run 2 rfl ?_
                    refine d_is (N := 7) (j := S.length) k145_206 (by first | assumption | exact Nat.le_of_ble_eq_true rfl | omega) ⟨rfl, rfl⟩ (show S.length < 7 by omega) rfl ?_
                    refine d_run 3 rfl ?_
                    rw [show nI i + 1 = nI (i + 1) from nI_1 _]
                    exact hz _ (i + 1) _ _ (h2.u (j := 1) (by decide)) hs (by omega) hc2 ((hf.tr f2).u rfl)
                  · first | exact absurd h184 (by decide) | exact absurd (by decide) h184
                · first | exact absurd h134 (by decide) | exact absurd (by decide) h134
            · first | exact absurd h109 (by decide) | exact absurd (by decide) h109
          · first | exact absurd h86 (by decide) | exact absurd (by decide) h86
      · first | exact absurd h43 (by decide) | exact absurd (by decide) h43
theorem w_lg27 (h51 : F0 51 0 0 = nI len) (hlen : len ≤ 1000) (hd : 2 ≤ d) (hz : RWk E d x b G F0 len cs (upd (tsX X) 1 27) S R) : RWk E d x b G F0 len (27 :: cs) X S R := by
  intro F i a4 a5 hsv hs hi hc hf
  have g51 : F 51 0 0 = nI len := by rw [hf 51 rfl]; exact h51
  simp only [List.length_cons] at hi
  have g52 : F 52 0 i = 27 := by rw [hf 52 rfl]; exact hc 0 (by simp)
  have hc2 : ∀ j (hj : j < cs.length), F0 52 0 (i + 1 + j) = cs[j] := fun j hj => by
    have := hc (j + 1) (by simp; omega)
    rw [show i + 1 + j = i + (j + 1) by omega, this]
    simp
  refine d_run 2 rfl ?_
  refine d_gR k145_16 (by first | assumption | exact Nat.le_of_ble_eq_true rfl | omega) ⟨rfl, rfl, rfl⟩ rfl ?_
  refine d_run 1 rfl ?_
  refine d_ia (N := 2) (j := 0) k145_20 (by decide) (by first | assumption | exact Nat.le_of_ble_eq_true rfl | omega) ⟨⟨rfl, rfl⟩, rfl, rfl⟩ (by decide) rfl ?_
  rw [g51]
  refine d_ic_ge k145_21 (fun h21 => ?_) (fun h21 => ?_)
  · exact absurd (ge_nI h21 rfl (by omega) (by omega)) (by omega)
  · refine d_run 1 rfl ?_
    refine d_gR k145_25 (by first | assumption | exact Nat.le_of_ble_eq_true rfl | omega) ⟨rfl, rfl, rfl⟩ rfl ?_
    refine d_run 1 rfl ?_
    refine d_ia (N := 2000) (j := i) k145_29 (by decide) (by first | assumption | exact Nat.le_of_ble_eq_true rfl | omega) ⟨⟨rfl, rfl⟩, rfl, rfl⟩ (show i < 2000 by omega) rfl ?_
    rw [g52]
    refine d_run 3 rfl ?_
    refine d_ic_eq k145_36 (fun h36 => ?_) (fun h36 => ?_)
    · first | exact absurd h36 (by decide) | exact absurd (by decide) h36
    · refine d_run 2 rfl ?_
      refine d_ic_ne k145_43 (fun h43 => ?_) (fun h43 => ?_)
      · refine d_run 2 rfl ?_
        refine d_ic_eq k145_79 (fun h79 => ?_) (fun h79 => ?_)
        · first | exact absurd h79 (by decide) | exact absurd (by decide) h79
        · refine d_run 2 rfl ?_
          refine d_ic_ne k145_86 (fun h86 => ?_) (fun h86 => ?_)
          · refine d_run 2 rfl ?_
            refine d_ic_ne k145_109 (fun h109 => ?_) (fun h109 => ?_)
            · refine d_run 2 rfl ?_
              refine d_ic_eq k145_127 (fun h127 => ?_) (fun h127 => ?_)
              · first | exact absurd h127 (by decide) | exact absurd (by decide) h127
              · refine d_run 2 rfl ?_
                refine d_ic_ne k145_134 (fun h134 => ?_) (fun h134 => ?_)
                · refine d_run 2 rfl ?_
                  refine d_ic_eq k145_184 (fun h184 => ?_) (fun h184 => ?_)
                  · first | exact absurd h184 (by decide) | exact absurd (by decide) h184
                  · refine d_run 2 rfl ?_
                    refine d_ic_ne k145_191 (fun h191 => ?_) (fun h191 => ?_)
                    · first | exact absurd h191 (by decide) | exact absurd (by decide) h191
                    · refine d_run 2 rfl ?_
                      refine d_call 2 k145_196 (by omega) (Nat.le_of_ble_eq_true rfl) rfl (Nat.le_of_ble_eq_true rfl) (Nat.le_of_ble_eq_true rfl) (recv_ok rfl (by first | assumption | exact Nat.le_of_ble_eq_true rfl | omega)) rfl (b_tests (by omega) (by omega) hsv) rfl ?_
                      rintro F2 G2 ⟨eG, h2, f2⟩
                      subst eG
                      refine d_run 1 rfl ?_
                      refine d_gR k145_200 (by first | assumption | exact Nat.le_of_ble_eq_true rfl | omega) ⟨rfl, rfl, rfl⟩ rfl ?_
                      refine d_run 2 rfl ?_
                      refine d_is (N := 7) (j := S.length) k145_206 (by first | assumption | exact Nat.le_of_ble_eq_true rfl | omega) ⟨rfl, rfl⟩ (show S.length < 7 by omega) rfl ?_
                      refine d_run 3 rfl ?_
                      rw [show nI i + 1 = nI (i + 1) from nI_1 _]
                      exact hz _ (i + 1) _ _ (h2.u (j := 1) (by decide)) hs (by omega) hc2 ((hf.tr f2).u rfl)
                · first | exact absurd h134 (by decide) | exact absurd (by decide) h134
            · first | exact absurd h109 (by decide) | exact absurd (by decide) h109
          · first | exact absurd h86 (by decide) | exact absurd (by decide) h86
      · first | exact absurd h43 (by decide) | exact absurd (by decide) h43
theorem w_va1 (h51 : F0 51 0 0 = nI len) (hlen : len ≤ 1000) (hd : 2 ≤ d) (hV : F0 64 0 1 = v) (hz : RWk E d x b G F0 len cs (dlV v X S).1 (dlV v X S).2 R) : RWk E d x b G F0 len (1 :: cs) X S R := by
  intro F i a4 a5 hsv hs hi hc hf
  have g51 : F 51 0 0 = nI len := by rw [hf 51 rfl]; exact h51
  simp only [List.length_cons] at hi
  have g52 : F 52 0 i = 1 := by rw [hf 52 rfl]; exact hc 0 (by simp)
  have hc2 : ∀ j (hj : j < cs.length), F0 52 0 (i + 1 + j) = cs[j] := fun j hj => by
    have := hc (j + 1) (by simp; omega)
    rw [show i + 1 + j = i + (j + 1) by omega, this]
    simp
  have g64 : F 64 0 1 = v := by rw [hf 64 rfl]; exact hV
  refine d_run 2 rfl ?_
  refine d_gR k145_16 (by first | assumption | exact Nat.le_of_ble_eq_true rfl | omega) ⟨rfl, rfl, rfl⟩ rfl ?_
  refine d_run 1 rfl ?_
  refine d_ia (N := 2) (j := 0) k145_20 (by decide) (by first | assumption | exact Nat.le_of_ble_eq_true rfl | omega) ⟨⟨rfl, rfl⟩, rfl, rfl⟩ (by decide) rfl ?_
  rw [g51]
  refine d_ic_ge k145_21 (fun h21 => ?_) (fun h21 => ?_)
  · exact absurd (ge_nI h21 rfl (by omega) (by omega)) (by omega)
  · refine d_run 1 rfl ?_
    refine d_gR k145_25 (by first | assumption | exact Nat.le_of_ble_eq_true rfl | omega) ⟨rfl, rfl, rfl⟩ rfl ?_
    refine d_run 1 rfl ?_
    refine d_ia (N := 2000) (j := i) k145_29 (by decide) (by first | assumption | exact Nat.le_of_ble_eq_true rfl | omega) ⟨⟨rfl, rfl⟩, rfl, rfl⟩ (show i < 2000 by omega) rfl ?_
    rw [g52]
    refine d_run 3 rfl ?_
    refine d_ic_eq k145_36 (fun h36 => ?_) (fun h36 => ?_)
    · first | exact absurd h36 (by decide) | exact absurd (by decide) h36
    · refine d_run 2 rfl ?_
      refine d_ic_ne k145_43 (fun h43 => ?_) (fun h43 => ?_)
      · refine d_run 2 rfl ?_
        refine d_ic_eq k145_79 (fun h79 => ?_) (fun h79 => ?_)
        · first | exact absurd h79 (by decide) | exact absurd (by decide) h79
        · refine d_run 2 rfl ?_
          refine d_ic_ne k145_86 (fun h86 => ?_) (fun h86 => ?_)
          · refine d_run 2 rfl ?_
            refine d_ic_ne k145_109 (fun h109 => ?_) (fun h109 => ?_)
            · refine d_run 2 rfl ?_
              refine d_ic_eq k145_127 (fun h127 => ?_) (fun h127 => ?_)
              · first | exact absurd h127 (by decide) | exact absurd (by decide) h127
              · refine d_run 2 rfl ?_
                refine d_ic_ne k145_134 (fun h134 => ?_) (fun h134 => ?_)
                · refine d_run 2 rfl ?_
                  refine d_ic_eq k145_184 (fun h184 => ?_) (fun h184 => ?_)
                  · first | exact absurd h184 (by decide) | exact absurd (by decide) h184
                  · refine d_run 2 rfl ?_
                    refine d_ic_ne k145_191 (fun h191 => ?_) (fun h191 => ?_)
                    · refine d_run 2 rfl ?_
                      refine d_ic_lt k145_214 (fun h214 => ?_) (fun h214 => ?_)
                      · refine d_run 2 rfl ?_
                        refine d_ic_ge k145_229 (fun h229 => ?_) (fun h229 => ?_)
                        · first | exact absurd h229 (by decide) | exact absurd (by decide) h229
                        · refine d_run 1 rfl ?_
                          refine d_gR k145_233 (by first | assumption | exact Nat.le_of_ble_eq_true rfl | omega) ⟨rfl, rfl, rfl⟩ rfl ?_
                          refine d_run 1 rfl ?_
                          refine d_ia (N := 20) (j := 1) k145_238 (by decide) (by first | assumption | exact Nat.le_of_ble_eq_true rfl | omega) ⟨⟨rfl, rfl⟩, rfl, rfl⟩ (by decide) rfl ?_
                          rw [g64]
                          refine d_run 4 rfl ?_
                          refine d_ic_ne k145_249 (fun h249 => ?_) (fun h249 => ?_)
                          · refine w_dl S X v (by omega) hsv (fun F3 a5 m f3 => ?_)
                            have hle := dlV_le (v := v) (X := X) (S := S)
                            refine d_run 2 rfl ?_
                            rw [show nI i + 1 = nI (i + 1) from nI_1 _]
                            exact hz F3 (i + 1) _ _ m (by omega) (by omega) hc2 (hf.tr f3)
                          · first | exact absurd h249 (by decide) | exact absurd (by decide) h249
                      · first | exact absurd h214 (by decide) | exact absurd (by decide) h214
                    · first | exact absurd h191 (by decide) | exact absurd (by decide) h191
                · first | exact absurd h134 (by decide) | exact absurd (by decide) h134
            · first | exact absurd h109 (by decide) | exact absurd (by decide) h109
          · first | exact absurd h86 (by decide) | exact absurd (by decide) h86
      · first | exact absurd h43 (by decide) | exact absurd (by decide) h43
theorem w_va2 (h51 : F0 51 0 0 = nI len) (hlen : len ≤ 1000) (hd : 2 ≤ d) (hV : F0 64 0 2 = v) (hz : RWk E d x b G F0 len cs (dlV v X S).1 (dlV v X S).2 R) : RWk E d x b G F0 len (2 :: cs) X S R := by
  intro F i a4 a5 hsv hs hi hc hf
  have g51 : F 51 0 0 = nI len := by rw [hf 51 rfl]; exact h51
  simp only [List.length_cons] at hi
  have g52 : F 52 0 i = 2 := by rw [hf 52 rfl]; exact hc 0 (by simp)
  have hc2 : ∀ j (hj : j < cs.length), F0 52 0 (i + 1 + j) = cs[j] := fun j hj => by
    have := hc (j + 1) (by simp; omega)
    rw [show i + 1 + j = i + (j + 1) by omega, this]
    simp
  have g64 : F 64 0 2 = v := by rw [hf 64 rfl]; exact hV
  refine d_run 2 rfl ?_
  refine d_gR k145_16 (by first | assumption | exact Nat.le_of_ble_eq_true rfl | omega) ⟨rfl, rfl, rfl⟩ rfl ?_
  refine d_run 1 rfl ?_
  refine d_ia (N := 2) (j := 0) k145_20 (by decide) (by first | assumption | exact Nat.le_of_ble_eq_true rfl | omega) ⟨⟨rfl, rfl⟩, rfl, rfl⟩ (by decide) rfl ?_
  rw [g51]
  refine d_ic_ge k145_21 (fun h21 => ?_) (fun h21 => ?_)
  · exact absurd (ge_nI h21 rfl (by omega) (by omega)) (by omega)
  · refine d_run 1 rfl ?_
    refine d_gR k145_25 (by first | assumption | exact Nat.le_of_ble_eq_true rfl | omega) ⟨rfl, rfl, rfl⟩ rfl ?_
    refine d_run 1 rfl ?_
    refine d_ia (N := 2000) (j := i) k145_29 (by decide) (by first | assumption | exact Nat.le_of_ble_eq_true rfl | omega) ⟨⟨rfl, rfl⟩, rfl, rfl⟩ (show i < 2000 by omega) rfl ?_
    rw [g52]
    refine d_run 3 rfl ?_
    refine d_ic_eq k145_36 (fun h36 => ?_) (fun h36 => ?_)
    · first | exact absurd h36 (by decide) | exact absurd (by decide) h36
    · refine d_run 2 rfl ?_
      refine d_ic_ne k145_43 (fun h43 => ?_) (fun h43 => ?_)
      · refine d_run 2 rfl ?_
        refine d_ic_eq k145_79 (fun h79 => ?_) (fun h79 => ?_)
        · first | exact absurd h79 (by decide) | exact absurd (by decide) h79
        · refine d_run 2 rfl ?_
          refine d_ic_ne k145_86 (fun h86 => ?_) (fun h86 => ?_)
          · refine d_run 2 rfl ?_
            refine d_ic_ne k145_109 (fun h109 => ?_) (fun h109 => ?_)
            · refine d_run 2 rfl ?_
              refine d_ic_eq k145_127 (fun h127 => ?_) (fun h127 => ?_)
              · first | exact absurd h127 (by decide) | exact absurd (by decide) h127
              · refine d_run 2 rfl ?_
                refine d_ic_ne k145_134 (fun h134 => ?_) (fun h134 => ?_)
                · refine d_run 2 rfl ?_
                  refine d_ic_eq k145_184 (fun h184 => ?_) (fun h184 => ?_)
                  · first | exact absurd h184 (by decide) | exact absurd (by decide) h184
                  · refine d_run 2 rfl ?_
                    refine d_ic_ne k145_191 (fun h191 => ?_) (fun h191 => ?_)
                    · refine d_run 2 rfl ?_
                      refine d_ic_lt k145_214 (fun h214 => ?_) (fun h214 => ?_)
                      · refine d_run 2 rfl ?_
                        refine d_ic_ge k145_229 (fun h229 => ?_) (fun h229 => ?_)
                        · first | exact absurd h229 (by decide) | exact absurd (by decide) h229
                        · refine d_run 1 rfl ?_
                          refine d_gR k145_233 (by first | assumption | exact Nat.le_of_ble_eq_true rfl | omega) ⟨rfl, rfl, rfl⟩ rfl ?_
                          refine d_run 1 rfl ?_
                          refine d_ia (N := 20) (j := 2) k145_238 (by decide) (by first | assumption | exact Nat.le_of_ble_eq_true rfl | omega) ⟨⟨rfl, rfl⟩, rfl, rfl⟩ (by decide) rfl ?_
                          rw [g64]
                          refine d_run 4 rfl ?_
                          refine d_ic_ne k145_249 (fun h249 => ?_) (fun h249 => ?_)
                          · refine w_dl S X v (by omega) hsv (fun F3 a5 m f3 => ?_)
                            have hle := dlV_le (v := v) (X := X) (S := S)
                            refine d_run 2 rfl ?_
                            rw [show nI i + 1 = nI (i + 1) from nI_1 _]
                            exact hz F3 (i + 1) _ _ m (by omega) (by omega) hc2 (hf.tr f3)
                          · first | exact absurd h249 (by decide) | exact absurd (by decide) h249
                      · first | exact absurd h214 (by decide) | exact absurd (by decide) h214
                    · first | exact absurd h191 (by decide) | exact absurd (by decide) h191
                · first | exact absurd h134 (by decide) | exact absurd (by decide) h134
            · first | exact absurd h109 (by decide) | exact absurd (by decide) h109
          · first | exact absurd h86 (by decide) | exact absurd (by decide) h86
      · first | exact absurd h43 (by decide) | exact absurd (by decide) h43
theorem w_va3 (h51 : F0 51 0 0 = nI len) (hlen : len ≤ 1000) (hd : 2 ≤ d) (hV : F0 64 0 3 = v) (hz : RWk E d x b G F0 len cs (dlV v X S).1 (dlV v X S).2 R) : RWk E d x b G F0 len (3 :: cs) X S R := by
  intro F i a4 a5 hsv hs hi hc hf
  have g51 : F 51 0 0 = nI len := by rw [hf 51 rfl]; exact h51
  simp only [List.length_cons] at hi
  have g52 : F 52 0 i = 3 := by rw [hf 52 rfl]; exact hc 0 (by simp)
  have hc2 : ∀ j (hj : j < cs.length), F0 52 0 (i + 1 + j) = cs[j] := fun j hj => by
    have := hc (j + 1) (by simp; omega)
    rw [show i + 1 + j = i + (j + 1) by omega, this]
    simp
  have g64 : F 64 0 3 = v := by rw [hf 64 rfl]; exact hV
  refine d_run 2 rfl ?_
  refine d_gR k145_16 (by first | assumption | exact Nat.le_of_ble_eq_true rfl | omega) ⟨rfl, rfl, rfl⟩ rfl ?_
  refine d_run 1 rfl ?_
  refine d_ia (N := 2) (j := 0) k145_20 (by decide) (by first | assumption | exact Nat.le_of_ble_eq_true rfl | omega) ⟨⟨rfl, rfl⟩, rfl, rfl⟩ (by decide) rfl ?_
  rw [g51]
  refine d_ic_ge k145_21 (fun h21 => ?_) (fun h21 => ?_)
  · exact absurd (ge_nI h21 rfl (by omega) (by omega)) (by omega)
  · refine d_run 1 rfl ?_
    refine d_gR k145_25 (by first | assumption | exact Nat.le_of_ble_eq_true rfl | omega) ⟨rfl, rfl, rfl⟩ rfl ?_
    refine d_run 1 rfl ?_
    refine d_ia (N := 2000) (j := i) k145_29 (by decide) (by first | assumption | exact Nat.le_of_ble_eq_true rfl | omega) ⟨⟨rfl, rfl⟩, rfl, rfl⟩ (show i < 2000 by omega) rfl ?_
    rw [g52]
    refine d_run 3 rfl ?_
    refine d_ic_eq k145_36 (fun h36 => ?_) (fun h36 => ?_)
    · first | exact absurd h36 (by decide) | exact absurd (by decide) h36
    · refine d_run 2 rfl ?_
      refine d_ic_ne k145_43 (fun h43 => ?_) (fun h43 => ?_)
      · refine d_run 2 rfl ?_
        refine d_ic_eq k145_79 (fun h79 => ?_) (fun h79 => ?_)
        · first | exact absurd h79 (by decide) | exact absurd (by decide) h79
        · refine d_run 2 rfl ?_
          refine d_ic_ne k145_86 (fun h86 => ?_) (fun h86 => ?_)
          · refine d_run 2 rfl ?_
            refine d_ic_ne k145_109 (fun h109 => ?_) (fun h109 => ?_)
            · refine d_run 2 rfl ?_
              refine d_ic_eq k145_127 (fun h127 => ?_) (fun h127 => ?_)
              · first | exact absurd h127 (by decide) | exact absurd (by decide) h127
              · refine d_run 2 rfl ?_
                refine d_ic_ne k145_134 (fun h134 => ?_) (fun h134 => ?_)
                · refine d_run 2 rfl ?_
                  refine d_ic_eq k145_184 (fun h184 => ?_) (fun h184 => ?_)
                  · first | exact absurd h184 (by decide) | exact absurd (by decide) h184
                  · refine d_run 2 rfl ?_
                    refine d_ic_ne k145_191 (fun h191 => ?_) (fun h191 => ?_)
                    · refine d_run 2 rfl ?_
                      refine d_ic_lt k145_214 (fun h214 => ?_) (fun h214 => ?_)
                      · refine d_run 2 rfl ?_
                        refine d_ic_ge k145_229 (fun h229 => ?_) (fun h229 => ?_)
                        · first | exact absurd h229 (by decide) | exact absurd (by decide) h229
                        · refine d_run 1 rfl ?_
                          refine d_gR k145_233 (by first | assumption | exact Nat.le_of_ble_eq_true rfl | omega) ⟨rfl, rfl, rfl⟩ rfl ?_
                          refine d_run 1 rfl ?_
                          refine d_ia (N := 20) (j := 3) k145_238 (by decide) (by first | assumption | exact Nat.le_of_ble_eq_true rfl | omega) ⟨⟨rfl, rfl⟩, rfl, rfl⟩ (by decide) rfl ?_
                          rw [g64]
                          refine d_run 4 rfl ?_
                          refine d_ic_ne k145_249 (fun h249 => ?_) (fun h249 => ?_)
                          · refine w_dl S X v (by omega) hsv (fun F3 a5 m f3 => ?_)
                            have hle := dlV_le (v := v) (X := X) (S := S)
                            refine d_run 2 rfl ?_
                            rw [show nI i + 1 = nI (i + 1) from nI_1 _]
                            exact hz F3 (i + 1) _ _ m (by omega) (by omega) hc2 (hf.tr f3)
                          · first | exact absurd h249 (by decide) | exact absurd (by decide) h249
                      · first | exact absurd h214 (by decide) | exact absurd (by decide) h214
                    · first | exact absurd h191 (by decide) | exact absurd (by decide) h191
                · first | exact absurd h134 (by decide) | exact absurd (by decide) h134
            · first | exact absurd h109 (by decide) | exact absurd (by decide) h109
          · first | exact absurd h86 (by decide) | exact absurd (by decide) h86
      · first | exact absurd h43 (by decide) | exact absurd (by decide) h43
theorem w_va4 (h51 : F0 51 0 0 = nI len) (hlen : len ≤ 1000) (hd : 2 ≤ d) (hV : F0 64 0 4 = v) (hz : RWk E d x b G F0 len cs (dlV v X S).1 (dlV v X S).2 R) : RWk E d x b G F0 len (4 :: cs) X S R := by
  intro F i a4 a5 hsv hs hi hc hf
  have g51 : F 51 0 0 = nI len := by rw [hf 51 rfl]; exact h51
  simp only [List.length_cons] at hi
  have g52 : F 52 0 i = 4 := by rw [hf 52 rfl]; exact hc 0 (by simp)
  have hc2 : ∀ j (hj : j < cs.length), F0 52 0 (i + 1 + j) = cs[j] := fun j hj => by
    have := hc (j + 1) (by simp; omega)
    rw [show i + 1 + j = i + (j + 1) by omega, this]
    simp
  have g64 : F 64 0 4 = v := by rw [hf 64 rfl]; exact hV
  refine d_run 2 rfl ?_
  refine d_gR k145_16 (by first | assumption | exact Nat.le_of_ble_eq_true rfl | omega) ⟨rfl, rfl, rfl⟩ rfl ?_
  refine d_run 1 rfl ?_
  refine d_ia (N := 2) (j := 0) k145_20 (by decide) (by first | assumption | exact Nat.le_of_ble_eq_true rfl | omega) ⟨⟨rfl, rfl⟩, rfl, rfl⟩ (by decide) rfl ?_
  rw [g51]
  refine d_ic_ge k145_21 (fun h21 => ?_) (fun h21 => ?_)
  · exact absurd (ge_nI h21 rfl (by omega) (by omega)) (by omega)
  · refine d_run 1 rfl ?_
    refine d_gR k145_25 (by first | assumption | exact Nat.le_of_ble_eq_true rfl | omega) ⟨rfl, rfl, rfl⟩ rfl ?_
    refine d_run 1 rfl ?_
    refine d_ia (N := 2000) (j := i) k145_29 (by decide) (by first | assumption | exact Nat.le_of_ble_eq_true rfl | omega) ⟨⟨rfl, rfl⟩, rfl, rfl⟩ (show i < 2000 by omega) rfl ?_
    rw [g52]
    refine d_run 3 rfl ?_
    refine d_ic_eq k145_36 (fun h36 => ?_) (fun h36 => ?_)
    · first | exact absurd h36 (by decide) | exact absurd (by decide) h36
    · refine d_run 2 rfl ?_
      refine d_ic_ne k145_43 (fun h43 => ?_) (fun h43 => ?_)
      · refine d_run 2 rfl ?_
        refine d_ic_eq k145_79 (fun h79 => ?_) (fun h79 => ?_)
        · first | exact absurd h79 (by decide) | exact absurd (by decide) h79
        · refine d_run 2 rfl ?_
          refine d_ic_ne k145_86 (fun h86 => ?_) (fun h86 => ?_)
          · refine d_run 2 rfl ?_
            refine d_ic_ne k145_109 (fun h109 => ?_) (fun h109 => ?_)
            · refine d_run 2 rfl ?_
              refine d_ic_eq k145_127 (fun h127 => ?_) (fun h127 => ?_)
              · first | exact absurd h127 (by decide) | exact absurd (by decide) h127
              · refine d_run 2 rfl ?_
                refine d_ic_ne k145_134 (fun h134 => ?_) (fun h134 => ?_)
                · refine d_run 2 rfl ?_
                  refine d_ic_eq k145_184 (fun h184 => ?_) (fun h184 => ?_)
                  · first | exact absurd h184 (by decide) | exact absurd (by decide) h184
                  · refine d_run 2 rfl ?_
                    refine d_ic_ne k145_191 (fun h191 => ?_) (fun h191 => ?_)
                    · refine d_run 2 rfl ?_
                      refine d_ic_lt k145_214 (fun h214 => ?_) (fun h214 => ?_)
                      · refine d_run 2 rfl ?_
                        refine d_ic_ge k145_229 (fun h229 => ?_) (fun h229 => ?_)
                        · first | exact absurd h229 (by decide) | exact absurd (by decide) h229
                        · refine d_run 1 rfl ?_
                          refine d_gR k145_233 (by first | assumption | exact Nat.le_of_ble_eq_true rfl | omega) ⟨rfl, rfl, rfl⟩ rfl ?_
                          refine d_run 1 rfl ?_
                          refine d_ia (N := 20) (j := 4) k145_238 (by decide) (by first | assumption | exact Nat.le_of_ble_eq_true rfl | omega) ⟨⟨rfl, rfl⟩, rfl, rfl⟩ (by decide) rfl ?_
                          rw [g64]
                          refine d_run 4 rfl ?_
                          refine d_ic_ne k145_249 (fun h249 => ?_) (fun h249 => ?_)
                          · refine w_dl S X v (by omega) hsv (fun F3 a5 m f3 => ?_)
                            have hle := dlV_le (v := v) (X := X) (S := S)
                            refine d_run 2 rfl ?_
                            rw [show nI i + 1 = nI (i + 1) from nI_1 _]
                            exact hz F3 (i + 1) _ _ m (by omega) (by omega) hc2 (hf.tr f3)
                          · first | exact absurd h249 (by decide) | exact absurd (by decide) h249
                      · first | exact absurd h214 (by decide) | exact absurd (by decide) h214
                    · first | exact absurd h191 (by decide) | exact absurd (by decide) h191
                · first | exact absurd h134 (by decide) | exact absurd (by decide) h134
            · first | exact absurd h109 (by decide) | exact absurd (by decide) h109
          · first | exact absurd h86 (by decide) | exact absurd (by decide) h86
      · first | exact absurd h43 (by decide) | exact absurd (by decide) h43
theorem w_van (h51 : F0 51 0 0 = nI len) (hlen : len ≤ 1000) (hd : 2 ≤ d) {n : Nat} (hn : n ≤ 9999) (hz : RWk E d x b G F0 len cs (dlV (nI n) X S).1 (dlV (nI n) X S).2 R) : RWk E d x b G F0 len (nI (100 + n) :: cs) X S R := by
  intro F i a4 a5 hsv hs hi hc hf
  have g51 : F 51 0 0 = nI len := by rw [hf 51 rfl]; exact h51
  simp only [List.length_cons] at hi
  have g52 : F 52 0 i = nI (100 + n) := by rw [hf 52 rfl]; exact hc 0 (by simp)
  have hc2 : ∀ j (hj : j < cs.length), F0 52 0 (i + 1 + j) = cs[j] := fun j hj => by
    have := hc (j + 1) (by simp; omega)
    rw [show i + 1 + j = i + (j + 1) by omega, this]
    simp
  refine d_run 2 rfl ?_
  refine d_gR k145_16 (by first | assumption | exact Nat.le_of_ble_eq_true rfl | omega) ⟨rfl, rfl, rfl⟩ rfl ?_
  refine d_run 1 rfl ?_
  refine d_ia (N := 2) (j := 0) k145_20 (by decide) (by first | assumption | exact Nat.le_of_ble_eq_true rfl | omega) ⟨⟨rfl, rfl⟩, rfl, rfl⟩ (by decide) rfl ?_
  rw [g51]
  refine d_ic_ge k145_21 (fun h21 => ?_) (fun h21 => ?_)
  · exact absurd (ge_nI h21 rfl (by omega) (by omega)) (by omega)
  · refine d_run 1 rfl ?_
    refine d_gR k145_25 (by first | assumption | exact Nat.le_of_ble_eq_true rfl | omega) ⟨rfl, rfl, rfl⟩ rfl ?_
    refine d_run 1 rfl ?_
    refine d_ia (N := 2000) (j := i) k145_29 (by decide) (by first | assumption | exact Nat.le_of_ble_eq_true rfl | omega) ⟨⟨rfl, rfl⟩, rfl, rfl⟩ (show i < 2000 by omega) rfl ?_
    rw [g52]
    refine d_run 3 rfl ?_
    refine d_ic_eq k145_36 (fun h36 => ?_) (fun h36 => ?_)
    · exact absurd (nI_inj (b := 28) h36 (by omega) (by omega)) (by omega)
    · refine d_run 2 rfl ?_
      refine d_ic_ne k145_43 (fun h43 => ?_) (fun h43 => ?_)
      · refine d_run 2 rfl ?_
        refine d_ic_eq k145_79 (fun h79 => ?_) (fun h79 => ?_)
        · exact absurd (nI_inj (b := 20) h79 (by omega) (by omega)) (by omega)
        · refine d_run 2 rfl ?_
          refine d_ic_ne k145_86 (fun h86 => ?_) (fun h86 => ?_)
          · refine d_run 2 rfl ?_
            refine d_ic_ne k145_109 (fun h109 => ?_) (fun h109 => ?_)
            · refine d_run 2 rfl ?_
              refine d_ic_eq k145_127 (fun h127 => ?_) (fun h127 => ?_)
              · exact absurd (nI_inj (b := 24) h127 (by omega) (by omega)) (by omega)
              · refine d_run 2 rfl ?_
                refine d_ic_ne k145_134 (fun h134 => ?_) (fun h134 => ?_)
                · refine d_run 2 rfl ?_
                  refine d_ic_eq k145_184 (fun h184 => ?_) (fun h184 => ?_)
                  · exact absurd (nI_inj (b := 26) h184 (by omega) (by omega)) (by omega)
                  · refine d_run 2 rfl ?_
                    refine d_ic_ne k145_191 (fun h191 => ?_) (fun h191 => ?_)
                    · refine d_run 2 rfl ?_
                      refine d_ic_lt k145_214 (fun h214 => ?_) (fun h214 => ?_)
                      · exact absurd ((nI_ltI (b := 100) (by omega) (by omega)).mp h214) (by omega)
                      · refine d_run 7 rfl ?_
                        refine d_ic_ne k145_249 (fun h249 => ?_) (fun h249 => ?_)
                        · rw [show ibop 1 (nI (100 + n)) 100 = nI n by rw [show (100 : Int32) = nI 100 from rfl]; show nI _ - nI _ = _; rw [pk_sub (by omega), Nat.add_sub_cancel_left]]
                          refine w_dl S X (nI n) (by omega) hsv (fun F3 a5 m f3 => ?_)
                          have hle := dlV_le (v := (nI n)) (X := X) (S := S)
                          refine d_run 2 rfl ?_
                          rw [show nI i + 1 = nI (i + 1) from nI_1 _]
                          exact hz F3 (i + 1) _ _ m (by omega) (by omega) hc2 (hf.tr f3)
                        · exact absurd (nI_inj (b := 29) h249 (by omega) (by omega)) (by omega)
                    · exact absurd (nI_inj (b := 27) h191 (by omega) (by omega)) (by omega)
                · exact absurd (nI_inj (b := 25) h134 (by omega) (by omega)) (by omega)
            · exact absurd (nI_inj (b := 22) h109 (by omega) (by omega)) (by omega)
          · exact absurd (nI_inj (b := 21) h86 (by omega) (by omega)) (by omega)
      · exact absurd (nI_inj (b := 30) h43 (by omega) (by omega)) (by omega)
theorem w_cl (h51 : F0 51 0 0 = nI len) (hlen : len ≤ 1000) (hd : 2 ≤ d) (hz : RWk E d x b G F0 len cs (dlV (kpV X) Y S).1 (dlV (kpV X) Y S).2 R) : RWk E d x b G F0 len (29 :: cs) X ((k, Y) :: S) R := by
  intro F i a4 a5 hsv hs hi hc hf
  have g51 : F 51 0 0 = nI len := by rw [hf 51 rfl]; exact h51
  simp only [List.length_cons] at hi
  have g52 : F 52 0 i = 29 := by rw [hf 52 rfl]; exact hc 0 (by simp)
  have hc2 : ∀ j (hj : j < cs.length), F0 52 0 (i + 1 + j) = cs[j] := fun j hj => by
    have := hc (j + 1) (by simp; omega)
    rw [show i + 1 + j = i + (j + 1) by omega, this]
    simp
  have hs : S.length + 1 ≤ 5 := hs
  show Td E d 145 14 [some (vr 40 0), some (vi 0), some (vi (nI (S.length + 1))), some (vi (nI i)), a4, a5] [] x F G b _ _
  refine d_run 2 rfl ?_
  refine d_gR k145_16 (by first | assumption | exact Nat.le_of_ble_eq_true rfl | omega) ⟨rfl, rfl, rfl⟩ rfl ?_
  refine d_run 1 rfl ?_
  refine d_ia (N := 2) (j := 0) k145_20 (by decide) (by first | assumption | exact Nat.le_of_ble_eq_true rfl | omega) ⟨⟨rfl, rfl⟩, rfl, rfl⟩ (by decide) rfl ?_
  rw [g51]
  refine d_ic_ge k145_21 (fun h21 => ?_) (fun h21 => ?_)
  · exact absurd (ge_nI h21 rfl (by omega) (by omega)) (by omega)
  · refine d_run 1 rfl ?_
    refine d_gR k145_25 (by first | assumption | exact Nat.le_of_ble_eq_true rfl | omega) ⟨rfl, rfl, rfl⟩ rfl ?_
    refine d_run 1 rfl ?_
    refine d_ia (N := 2000) (j := i) k145_29 (by decide) (by first | assumption | exact Nat.le_of_ble_eq_true rfl | omega) ⟨⟨rfl, rfl⟩, rfl, rfl⟩ (show i < 2000 by omega) rfl ?_
    rw [g52]
    refine d_run 3 rfl ?_
    refine d_ic_eq k145_36 (fun h36 => ?_) (fun h36 => ?_)
    · first | exact absurd h36 (by decide) | exact absurd (by decide) h36
    · refine d_run 2 rfl ?_
      refine d_ic_ne k145_43 (fun h43 => ?_) (fun h43 => ?_)
      · refine d_run 2 rfl ?_
        refine d_ic_eq k145_79 (fun h79 => ?_) (fun h79 => ?_)
        · first | exact absurd h79 (by decide) | exact absurd (by decide) h79
        · refine d_run 2 rfl ?_
          refine d_ic_ne k145_86 (fun h86 => ?_) (fun h86 => ?_)
          · refine d_run 2 rfl ?_
            refine d_ic_ne k145_109 (fun h109 => ?_) (fun h109 => ?_)
            · refine d_run 2 rfl ?_
              refine d_ic_eq k145_127 (fun h127 => ?_) (fun h127 => ?_)
              · first | exact absurd h127 (by decide) | exact absurd (by decide) h127
              · refine d_run 2 rfl ?_
                refine d_ic_ne k145_134 (fun h134 => ?_) (fun h134 => ?_)
                · refine d_run 2 rfl ?_
                  refine d_ic_eq k145_184 (fun h184 => ?_) (fun h184 => ?_)
                  · first | exact absurd h184 (by decide) | exact absurd (by decide) h184
                  · refine d_run 2 rfl ?_
                    refine d_ic_ne k145_191 (fun h191 => ?_) (fun h191 => ?_)
                    · refine d_run 2 rfl ?_
                      refine d_ic_lt k145_214 (fun h214 => ?_) (fun h214 => ?_)
                      · refine d_run 2 rfl ?_
                        refine d_ic_ge k145_229 (fun h229 => ?_) (fun h229 => ?_)
                        · refine d_run 4 rfl ?_
                          refine d_ic_ne k145_249 (fun h249 => ?_) (fun h249 => ?_)
                          · first | exact absurd h249 (by decide) | exact absurd (by decide) h249
                          · refine d_run 2 rfl ?_
                            rw [show nI (S.length + 1) = nI (((k, Y) :: S) : RS).length from rfl]
                            refine d_call 2 k145_254 (by omega) (Nat.le_of_ble_eq_true rfl) rfl (Nat.le_of_ble_eq_true rfl) (Nat.le_of_ble_eq_true rfl) (recv_ok rfl (by first | assumption | exact Nat.le_of_ble_eq_true rfl | omega)) rfl (b_tests (S := (k, Y) :: S) (by omega) (by show S.length + 1 ≤ 6; omega) hsv) rfl ?_
                            rintro F2 G2 ⟨eG, h2, f2⟩
                            subst eG
                            have e55 : F2 55 0 (S.length + 1) = kpV X := (h2.1 0 (by decide)).trans (by simp [tsX, smX, upd])
                            rw [show nI (((k, Y) :: S) : RS).length = nI (S.length + 1) from rfl]
                            refine d_run 1 rfl ?_
                            refine d_gR k145_258 (by first | assumption | exact Nat.le_of_ble_eq_true rfl | omega) ⟨rfl, rfl, rfl⟩ rfl ?_
                            refine d_run 1 rfl ?_
                            refine d_ia (N := 7) (j := S.length + 1) k145_262 (by decide) (by first | assumption | exact Nat.le_of_ble_eq_true rfl | omega) ⟨⟨rfl, rfl⟩, rfl, rfl⟩ (show S.length + 1 < 7 by omega) rfl ?_
                            rw [e55]
                            refine d_run 2 rfl ?_
                            rw [show nI (S.length + 1) + -1 = nI S.length from nI_p1 (by omega)]
                            refine w_dl S Y (kpV X) (by omega) h2.2.2 (fun F3 a5 m f3 => ?_)
                            have hle := dlV_le (v := (kpV X)) (X := Y) (S := S)
                            refine d_run 2 rfl ?_
                            rw [show nI i + 1 = nI (i + 1) from nI_1 _]
                            exact hz F3 (i + 1) _ _ m (by omega) (by omega) hc2 ((hf.tr f2).tr f3)
                        · first | exact absurd h229 (by decide) | exact absurd (by decide) h229
                      · first | exact absurd h214 (by decide) | exact absurd (by decide) h214
                    · first | exact absurd h191 (by decide) | exact absurd (by decide) h191
                · first | exact absurd h134 (by decide) | exact absurd (by decide) h134
            · first | exact absurd h109 (by decide) | exact absurd (by decide) h109
          · first | exact absurd h86 (by decide) | exact absurd (by decide) h86
      · first | exact absurd h43 (by decide) | exact absurd (by decide) h43
theorem w_all {V : Nat → Int32} (h51 : F0 51 0 0 = nI len) (hlen : len ≤ 1000) (hd : 2 ≤ d) (hV : F0 64 0 1 = V 1 ∧ F0 64 0 2 = V 2 ∧ F0 64 0 3 = V 3 ∧ F0 64 0 4 = V 4) : WkC V (RWk E d x b G F0 len) := by
  obtain ⟨v1, v2, v3, v4⟩ := hV
  refine ⟨fun X => w_nil h51 hlen hd, ?_, ?_, ?_, ?_, ?_, ?_, ?_⟩
  · intro k cs X S R hl hz
    cases k with
    | true => exact w_push_true h51 hlen hd hl hz
    | false => exact w_push_false h51 hlen hd hl hz
  · intro c cs X S R hc hz
    rcases hc with rfl | rfl
    · exact w_sm20 h51 hlen hd hz
    · exact w_sm21 h51 hlen hd hz
  · intro cs X S R hz
    exact w_ti h51 hlen hd hz
  · intro c cs X S R hc hz
    rcases hc with rfl | rfl
    · exact w_cp24 h51 hlen hd hz
    · exact w_cp25 h51 hlen hd hz
  · intro c cs X S R hc hz
    rcases hc with rfl | rfl
    · exact w_lg26 h51 hlen hd hz
    · exact w_lg27 h51 hlen hd hz
  · intro c cs X S R hc hz
    rcases hc with rfl | rfl | rfl | rfl | ⟨n, hn, rfl⟩
    · exact w_va1 h51 hlen hd v1 hz
    · exact w_va2 h51 hlen hd v2 hz
    · exact w_va3 h51 hlen hd v3 hz
    · exact w_va4 h51 hlen hd v4 hz
    · have e : valC V (nI (100 + n)) = nI n := by
        simp only [valC]
        rw [if_pos (show (100 : Int32) ≤ nI (100 + n) from (nI_leI (a := 100) (by omega) (by omega)).mpr (by omega)), show (100 : Int32) = nI 100 from rfl, pk_sub (by omega), Nat.add_sub_cancel_left]
      rw [e] at hz
      exact w_van h51 hlen hd hn hz
  · intro k cs X Y S R hz
    exact w_cl h51 hlen hd hz
theorem b_worked {t : TP} {n p : Nat} {r : RA} {F1 : FT} (hd : 2 ≤ d) (h50 : F1 50 0 0 = 0) (h51 : F1 51 0 0 = nI r.2.2.2.length) (hlen : r.2.2.2.length ≤ 1000) (h52 : ∀ i (hi : i < r.2.2.2.length), F1 52 0 i = r.2.2.2[i]) (hz : rdL t n 0 0 0 (p, dfl, [], []) = some (.inr r)) : Td E d 145 0 [some (vr 40 0), some (vi 0), none, none, none, none] [] x F1 G b (some (vi (r.2.1 (F1 64 0 1) (F1 64 0 2) (F1 64 0 3) (F1 64 0 4)))) (fun F2 G2 => G2 = G ∧ FrK d55 F1 F2) := by
  refine d_run 4 rfl ?_
  refine d_call 2 k145_4 (by omega) (Nat.le_of_ble_eq_true rfl) rfl (Nat.le_of_ble_eq_true rfl) (Nat.le_of_ble_eq_true rfl) (recv_ok rfl (by first | assumption | exact Nat.le_of_ble_eq_true rfl | omega)) rfl (b_opens (S := []) (X := fun j => F1 (55 + j) 0 0) (by decide) (fun j hj => rfl)) rfl ?_
  rintro F2 G2 ⟨eG, h2, f2⟩
  subst eG
  refine d_run 1 rfl ?_
  refine d_gR k145_8 (by first | assumption | exact Nat.le_of_ble_eq_true rfl | omega) ⟨rfl, rfl, rfl⟩ rfl ?_
  refine d_run 1 rfl ?_
  refine d_ia (N := 2) (j := 0) k145_12 (by decide) (by first | assumption | exact Nat.le_of_ble_eq_true rfl | omega) ⟨⟨rfl, rfl⟩, rfl, rfl⟩ (by decide) rfl ?_
  rw [f2 50 rfl, h50]
  refine d_run 1 rfl ?_
  exact (wk_all (V := fun j => F1 64 0 j) (gg := F1 64 0 1) (tt := F1 64 0 2) (mm := F1 64 0 3) (ww := F1 64 0 4) ⟨rfl, rfl, rfl, rfl⟩ hz _) _ (w_all (F0 := F1) h51 hlen hd ⟨rfl, rfl, rfl, rfl⟩) F2 0 _ _ h2 (by decide) (by simp) (fun j hj => by rw [Nat.zero_add]; exact h52 j hj) f2
end TN
