theorem d_dr1000 {E : EV} {d m pc x : Nat} {st : List PV} {F : FT} {G : GT} {b : Bool} {r : Option PV} {Q : FT → GT → Prop} {a0 a1 a2 a3 : Option PV} (kk : Td E d m pc [a0, none, none, none] st x F G b r Q) : Td E d m pc [a0, a1, a2, a3] st x F G b r Q := d_le (by simp [leL]) kk
/-! YEARS OF THE REFERENCE -/
theorem rnd_L2 (g : Nat) (hg : g < 2147483648) : lbop 0 (lbop 2 (lN g) 1103515245) 12345 - lbop 0 (lbop 2 (lN g) 1103515245) 12345 / 2147483648 * 2147483648 = lN (rnd g) := by
  show (lN g * 1103515245 + 12345) - (lN g * 1103515245 + 12345) / 2147483648 * 2147483648 = _
  rw [show (1103515245 : Int64) = lN 1103515245 from rfl, show (12345 : Int64) = lN 12345 from rfl, show (2147483648 : Int64) = lN 2147483648 from rfl, lN_mul, lN_add, pk_lRem (by omega) (by decide) (by decide), rnd_eq]
theorem i32_tel (t s r : Int32) : (t - s) + (r - t) = r - s := by
  have h : (t - s) + (r - t) = (r - s) + (t - t) := by
    simp only [Int32.sub_eq_add_neg]
    ac_rfl
  rw [h, Int32.sub_self, Int32.add_zero]
theorem MQp.rf {F : FT} {P : Nat} {s : ST} (h : rowS (F 70 0) P s) : MQp F P s s F := ⟨h, by rw [Int32.sub_self, Int32.add_zero], fun _ _ => rfl, FrK.rf⟩
theorem MQp.tr {F F2 F3 : FT} {P : Nat} {s t r : ST} (h : MQp F P s t F2) (h2 : MQp F2 P t r F3) : MQp F P s r F3 := by
  refine ⟨h2.1, ?_, fun i hi => (h2.2.2.1 i hi).trans (h.2.2.1 i hi), h.2.2.2.tr h2.2.2.2⟩
  rw [h2.2.1, h.2.1, Int32.add_assoc, i32_tel]
theorem lifF_wi : ∀ (k i : Nat) (s : ST), sWi (lpN lifF i k s) = sWi s
  | 0, _, _ => rfl
  | k + 1, i, s => by
    simp only [lpN]
    rw [lifF_wi k (i + 1)]
    unfold lifF
    split <;> rfl
section M12
variable {E : EV} {d x gg : Nat} {F : FT} {G : GT} {b : Bool} {o : SG} {u v w : Int32} {A : LA} {s : ST}
theorem b_draw {m : Nat} (hm : 0 < m) (hm2 : m ≤ 1000) (hG : G 40 0 58 = lN gg) (hg : gg < 2147483648) : Td E d 231 0 [some (vr 40 0), some (vi (nI m))] [] x F G b (some (vi (nI (rnd gg / 65536 % m)))) (fun F2 G2 => F2 = F ∧ G2 = uG G 40 0 58 (lN (rnd gg))) := by
  have hm0 : ¬ (nI m).toInt64 = 0 := by rw [nI_l (by omega), show (0 : Int64) = lN 0 from rfl, lN_eq (by omega) (by decide)]; omega
  refine d_run 2 rfl ?_
  refine d_gL k231_2 (by first | assumption | exact Nat.le_of_ble_eq_true rfl | omega) ⟨rfl, rfl, rfl⟩ ?_
  rw [hG]
  refine d_run 6 rfl ?_
  rw [rnd_L2 gg hg]
  refine d_pL k231_17 (by first | assumption | exact Nat.le_of_ble_eq_true rfl | omega) ⟨rfl, rfl⟩ ?_
  refine d_run 1 rfl ?_
  refine d_gL k231_21 (by first | assumption | exact Nat.le_of_ble_eq_true rfl | omega) ⟨rfl, rfl, rfl⟩ ?_
  rw [uG_s]
  refine d_run 4 rfl ?_
  refine d_p k231_30 (by decide) (if_neg hm0) ?_
  refine d_run 1 rfl ?_
  refine d_ir k231_32 rfl (by exact drw_L hm hm2) ?_
  exact ⟨rfl, rfl⟩
theorem l_lmend (hA : wfL A) (hd : 20 ≤ d) : ∀ (r i : Nat) (iv : Int32) (s : ST) (F : FT), iv = nI i → i + r = lP A → ML F A → rowS (F 70 0) (lP A) s → Td E d 232 71 [some (vr 40 0), some (vi u), some (vi 1), some (vi iv)] [] x F G b (some (vi u)) (fun F2 G2 => G2 = G ∧ MQp F (lP A) s (lpN lifF i r s) F2) := by
  intro r
  induction r with
  | zero =>
    intro i iv s F hiv hir hL hT
    subst hiv
    have hi : i = lP A := by omega
    have hP6 := hA.2.1
    refine d_run 2 rfl ?_
    refine d_gR k232_73 (by first | assumption | exact Nat.le_of_ble_eq_true rfl | omega) ⟨rfl, rfl, rfl⟩ rfl ?_
    refine d_run 1 rfl ?_
    refine d_ia (N := 8) (j := 1) k232_77 (by decide) (by first | assumption | exact Nat.le_of_ble_eq_true rfl | omega) ⟨⟨rfl, rfl⟩, rfl, rfl⟩ (by decide) rfl ?_
    refine d_ic_ge k232_78 (fun h78 => ?_) (fun h78 => ?_)
    · refine d_run 1 rfl ?_
      refine d_ir k232_105 rfl (by rfl) ?_
      exact ⟨rfl, MQp.rf hT⟩
    · exact absurd (lt_nI h78 hL.2.1 (by omega) (by omega)) (by omega)
  | succ r ih =>
    intro i iv s F hiv hir hL hT
    subst hiv
    have hi : i < lP A := by omega
    have hP6 := hA.2.1
    refine d_run 2 rfl ?_
    refine d_gR k232_73 (by first | assumption | exact Nat.le_of_ble_eq_true rfl | omega) ⟨rfl, rfl, rfl⟩ rfl ?_
    refine d_run 1 rfl ?_
    refine d_ia (N := 8) (j := 1) k232_77 (by decide) (by first | assumption | exact Nat.le_of_ble_eq_true rfl | omega) ⟨⟨rfl, rfl⟩, rfl, rfl⟩ (by decide) rfl ?_
    refine d_ic_ge k232_78 (fun h78 => ?_) (fun h78 => ?_)
    · exact absurd (ge_nI h78 hL.2.1 (by omega) (by omega)) (by omega)
    · refine d_run 1 rfl ?_
      refine d_if_eq k232_82 (fun h82 => ?_) (fun h82 => ?_)
      · exact absurd h82 (by decide)
      · refine d_run 2 rfl ?_
        refine d_callT 2 k232_87 (by omega) (Nat.le_of_ble_eq_true rfl) rfl (Nat.le_of_ble_eq_true rfl) (Nat.le_of_ble_eq_true rfl) (recv_ok rfl (by first | assumption | exact Nat.le_of_ble_eq_true rfl | omega)) rfl (b_snapped hT) rfl ?_
        refine d_if_eq k232_90 (fun h90 => ?_) (fun h90 => ?_)
        · rw [b2i0] at h90
          refine d_run 2 rfl ?_
          first
          | (rw [show lpN lifF i (r + 1) s = lpN lifF (i + 1) r (repA s i) by simp [lpN, lifF, h90]]
             exact td_mo (ih (i + 1) _ _ F1 (nI_1 i) (by omega) (hL.mh m1.2.2.2) m1.1) (fun F2 G2 e => ⟨e.1, m1.tr e.2⟩))
          | (rw [show lpN lifF i (r + 1) s = lpN lifF (i + 1) r s by simp [lpN, lifF, h90]]
             exact ih (i + 1) _ _ F (nI_1 i) (by omega) hL hT)
        · rw [b2i0, Bool.not_eq_false] at h90
          refine d_run 2 rfl ?_
          refine d_call 2 k232_95 (by omega) (Nat.le_of_ble_eq_true rfl) rfl (Nat.le_of_ble_eq_true rfl) (Nat.le_of_ble_eq_true rfl) (recv_ok rfl (by first | assumption | exact Nat.le_of_ble_eq_true rfl | omega)) rfl (b_mends hA hT hi) rfl ?_
          rintro F1 G1 ⟨rfl, m1⟩
          refine d_run 2 rfl ?_
          first
          | (rw [show lpN lifF i (r + 1) s = lpN lifF (i + 1) r (repA s i) by simp [lpN, lifF, h90]]
             exact td_mo (ih (i + 1) _ _ F1 (nI_1 i) (by omega) (hL.mh m1.2.2.2) m1.1) (fun F2 G2 e => ⟨e.1, m1.tr e.2⟩))
          | (rw [show lpN lifF i (r + 1) s = lpN lifF (i + 1) r s by simp [lpN, lifF, h90]]
             exact ih (i + 1) _ _ F (nI_1 i) (by omega) hL hT)
theorem b_lives2 (hA : wfL A) (hd : 40 ≤ d) {j : ST × Nat} (hL : ML F A) (hT : rowS (F 70 0) (lP A) j.1) (hwT : wfS A j.1) (hG : G 40 0 58 = lN j.2) (hg : j.2 < 2147483648) : Td E d 232 49 [some (vr 40 0), none, none, none] [] x F G b (some (vi (sWi (lifM A j).1 - sWi j.1))) (fun F2 G2 => MQp F (lP A) j.1 (lifM A j).1 F2 ∧ G2 40 0 58 = lN (lifM A j).2 ∧ ∀ k, k ≠ 40 → G2 k = G k) := by
  have hP6 := hA.2.1
  refine d_run 1 rfl ?_
  refine d_call 1 k232_50 (by omega) (Nat.le_of_ble_eq_true rfl) rfl (Nat.le_of_ble_eq_true rfl) (Nat.le_of_ble_eq_true rfl) (recv_ok rfl (by first | assumption | exact Nat.le_of_ble_eq_true rfl | omega)) rfl (b_passes hL hA hT hwT (by omega)) rfl ?_
  rintro F1 G1 ⟨rfl, m1⟩
  refine d_run 3 rfl ?_
  refine d_call 2 k232_57 (by omega) (Nat.le_of_ble_eq_true rfl) rfl (Nat.le_of_ble_eq_true rfl) (Nat.le_of_ble_eq_true rfl) (recv_ok rfl (by first | assumption | exact Nat.le_of_ble_eq_true rfl | omega)) rfl (b_draw (m := 9) (gg := j.2) (by omega) (by omega) hG hg) rfl ?_
  rintro F2 G2 ⟨rfl, rfl⟩
  refine d_if_ne k232_60 (fun h60 => ?_) (fun h60 => ?_)
  · have h60 : ¬ rnd j.2 / 65536 % 9 = 0 := fun e => h60 (by rw [e]; rfl)
    have eM : lifM A j = (hourA A j.1, rnd j.2) := by simp only [lifM, if_neg h60]
    rw [eM]
    have hL2 := hL.mh m1.2.2.2
    refine d_run 6 rfl ?_
    refine d_gR k232_73 (by first | assumption | exact Nat.le_of_ble_eq_true rfl | omega) ⟨rfl, rfl, rfl⟩ rfl ?_
    refine d_run 1 rfl ?_
    refine d_ia (N := 8) (j := 1) k232_77 (by decide) (by first | assumption | exact Nat.le_of_ble_eq_true rfl | omega) ⟨⟨rfl, rfl⟩, rfl, rfl⟩ (by decide) rfl ?_
    rw [hL2.2.1]
    refine d_ic_ge k232_78 (fun h78 => ?_) (fun h78 => ?_)
    · refine d_run 1 rfl ?_
      refine d_ir k232_105 rfl (by rfl) ?_
      exact ⟨m1, uG_s, fun k hk => uG_k hk⟩
    · refine d_run 1 rfl ?_
      refine d_if_eq k232_82 (fun h82 => ?_) (fun h82 => ?_)
      · refine d_run 1 rfl ?_
        refine d_ir k232_105 rfl (by rfl) ?_
        exact ⟨m1, uG_s, fun k hk => uG_k hk⟩
      · exact absurd rfl h82
  · have h60 : rnd j.2 / 65536 % 9 = 0 := nI_inj (b := 0) h60 (by omega) (by omega)
    have eM : lifM A j = (lpN lifF 0 (lP A) (hourA A j.1), rnd j.2) := by simp only [lifM, if_pos h60]
    rw [eM]
    refine d_run 5 rfl ?_
    rw [show sWi (lpN lifF 0 (lP A) (hourA A j.1)) - sWi j.1 = hrN A j.1 by rw [lifF_wi]; rfl]
    refine td_mo (l_lmend (u := hrN A j.1) hA (by omega) (lP A) 0 _ (hourA A j.1) F2 rfl (by omega) (hL.mh m1.2.2.2) m1.1) ?_
    rintro F3 G3 ⟨rfl, m3⟩
    exact ⟨m1.tr m3, uG_s, fun k hk => uG_k hk⟩
theorem b_lives (hA : wfL A) (hd : 40 ≤ d) {j : ST × Nat} (hL : ML F A) (hT : rowS (F 70 0) (lP A) j.1) (hwT : wfS A j.1) (hG : G 40 0 58 = lN j.2) (hg : j.2 < 2147483648) (i : Nat) : Td E d 232 0 [some (vr 40 0), none, none, none] [] x F G b (some (vi (sWi (lifH A i j).1 - sWi j.1))) (fun F2 G2 => MQp F (lP A) j.1 (lifH A i j).1 F2 ∧ G2 40 0 58 = lN (lifH A i j).2 ∧ ∀ k, k ≠ 40 → G2 k = G k) := by
  have hP6 := hA.2.1
  have hS5 := hA.1
  refine d_run 1 rfl ?_
  refine d_gR k232_1 (by first | assumption | exact Nat.le_of_ble_eq_true rfl | omega) ⟨rfl, rfl, rfl⟩ rfl ?_
  refine d_run 1 rfl ?_
  refine d_ia (N := 8) (j := 1) k232_5 (by decide) (by first | assumption | exact Nat.le_of_ble_eq_true rfl | omega) ⟨⟨rfl, rfl⟩, rfl, rfl⟩ (by decide) rfl ?_
  rw [hL.2.1]
  refine d_if_le k232_6 (fun h6 => ?_) (fun h6 => ?_)
  · have h6 := ge_nI (b := lP A) (a := 0) h6 rfl (by omega) (by omega)
    rw [show lifH A i j = lifM A j by simp only [lifH, lifW, if_neg (show ¬ 0 < lP A by omega)]]
    exact b_lives2 hA hd hL hT hwT hG hg
  · have h6 : 0 < lP A := by
      apply Decidable.byContradiction
      intro e
      have e : lP A = 0 := by omega
      exact h6 (by rw [e]; decide)
    have hs0 := hA.2.2.1 h6
    have hpm : rnd j.2 / 65536 % lP A < lP A := Nat.mod_lt _ h6
    have hqm : rnd (rnd j.2) / 65536 % lS A < lS A := Nat.mod_lt _ hs0
    rw [show lifH A i j = lifM A (if cwkA A j.1 (rnd j.2 / 65536 % lP A) (rnd (rnd j.2) / 65536 % lS A) = true then wlkA j.1 (rnd j.2 / 65536 % lP A) (rnd (rnd j.2) / 65536 % lS A) else j.1, rnd (rnd j.2)) by simp only [lifH, lifW, if_pos h6]]
    refine d_run 2 rfl ?_
    refine d_gR k232_11 (by first | assumption | exact Nat.le_of_ble_eq_true rfl | omega) ⟨rfl, rfl, rfl⟩ rfl ?_
    refine d_run 1 rfl ?_
    refine d_ia (N := 8) (j := 1) k232_15 (by decide) (by first | assumption | exact Nat.le_of_ble_eq_true rfl | omega) ⟨⟨rfl, rfl⟩, rfl, rfl⟩ (by decide) rfl ?_
    rw [hL.2.1]
    refine d_call 2 k232_16 (by omega) (Nat.le_of_ble_eq_true rfl) rfl (Nat.le_of_ble_eq_true rfl) (Nat.le_of_ble_eq_true rfl) (recv_ok rfl (by first | assumption | exact Nat.le_of_ble_eq_true rfl | omega)) rfl (b_draw (gg := j.2) h6 (by omega) hG hg) rfl ?_
    rintro F2 G2 ⟨rfl, rfl⟩
    refine d_run 3 rfl ?_
    refine d_gR k232_22 (by first | assumption | exact Nat.le_of_ble_eq_true rfl | omega) ⟨rfl, rfl, rfl⟩ rfl ?_
    refine d_run 1 rfl ?_
    refine d_ia (N := 8) (j := 0) k232_26 (by decide) (by first | assumption | exact Nat.le_of_ble_eq_true rfl | omega) ⟨⟨rfl, rfl⟩, rfl, rfl⟩ (by decide) rfl ?_
    rw [hL.1]
    refine d_call 2 k232_27 (by omega) (Nat.le_of_ble_eq_true rfl) rfl (Nat.le_of_ble_eq_true rfl) (Nat.le_of_ble_eq_true rfl) (recv_ok rfl (by first | assumption | exact Nat.le_of_ble_eq_true rfl | omega)) rfl (b_draw (gg := rnd j.2) hs0 (by omega) uG_s (rnd_lt _)) rfl ?_
    rintro F3 G3 ⟨rfl, rfl⟩
    refine d_run 4 rfl ?_
    refine d_callT 3 k232_34 (by omega) (Nat.le_of_ble_eq_true rfl) rfl (Nat.le_of_ble_eq_true rfl) (Nat.le_of_ble_eq_true rfl) (recv_ok rfl (by first | assumption | exact Nat.le_of_ble_eq_true rfl | omega)) rfl (b_canWalk hL hA hT hwT hpm (by omega)) rfl ?_
    refine d_if_eq k232_37 (fun h37 => ?_) (fun h37 => ?_)
    · rw [b2i0] at h37
      rw [if_neg (by rw [h37]; decide)]
      have kk := b_lives2 (E := E) (x := x) (b := b) (G := uG (uG G 40 0 58 (lN (rnd j.2))) 40 0 58 (lN (rnd (rnd j.2)))) (j := (j.1, rnd (rnd j.2))) hA hd hL hT hwT uG_s (rnd_lt _)
      refine d_dr1000 ?_
      refine td_mo kk ?_
      rintro F5 G5 ⟨q1, q2, q3⟩
      exact ⟨q1, q2, fun k hk => by rw [q3 k hk, uG_k hk, uG_k hk]⟩
    · rw [b2i0, Bool.not_eq_false] at h37
      rw [if_pos h37]
      have m4 := b_wlk (q := rnd (rnd j.2) / 65536 % lS A) hA hT hpm
      have kk := b_lives2 (E := E) (x := x) (b := b) (G := uG (uG G 40 0 58 (lN (rnd j.2))) 40 0 58 (lN (rnd (rnd j.2)))) (j := (wlkA j.1 (rnd j.2 / 65536 % lP A) (rnd (rnd j.2) / 65536 % lS A), rnd (rnd j.2))) hA hd (hL.mh m4.2.2.2) m4.1 (wfS_wlk hwT hqm) uG_s (rnd_lt _)
      refine d_run 1 rfl ?_
      refine d_gR k232_41 (by first | assumption | exact Nat.le_of_ble_eq_true rfl | omega) ⟨rfl, rfl, rfl⟩ rfl ?_
      refine d_run 4 rfl ?_
      refine d_is (N := 50) (j := 2 + rnd j.2 / 65536 % lP A) k232_48 (by first | assumption | exact Nat.le_of_ble_eq_true rfl | omega) ⟨rfl, rfl⟩ (show 2 + rnd j.2 / 65536 % lP A < 50 by omega) (nI_add 2 _) ?_
      refine d_dr1000 ?_
      refine td_mo kk ?_
      rintro F5 G5 ⟨q1, q2, q3⟩
      exact ⟨m4.tr q1, q2, fun k hk => by rw [q3 k hk, uG_k hk, uG_k hk]⟩
theorem l_myears {F0 : FT} {G0 : GT} (h : MInv F0 G0 o) (hw : WF o) (hd : 80 ≤ d) {N : Nat} (hN : N ≤ 99) : ∀ (r i : Nat) (iv : Int32) (j : ST × Nat) (F : FT) (G : GT) (acc : Int32), iv = nI i → i + r = N → MT F0 F (lP (gA o)) j.1 → wfS (gA o) j.1 → acc = sWi j.1 - sWi (gS o) → F 40 0 50 = sSp j.1 - sSp (gS o) → G 40 0 58 = lN j.2 → j.2 < 2147483648 → (∀ k, k ≠ 40 → G k = G0 k) → Td E d 233 67 [some (vr 40 0), some (vi u), some (vi (nI N)), some (vi w), some (vi acc), some (vi iv)] [] x F G b (some (vi (if w = 0 then sWi (lpN (lifH (gA o)) i r j).1 - sWi (gS o) else if w = 1 then sSp (lpN (lifH (gA o)) i r j).1 - sSp (gS o) else bset (sitA (lpN (lifH (gA o)) i r j).1) (lP (gA o))))) (MPost o F0 G0) := by
  intro r
  induction r with
  | zero =>
    intro i iv j F G acc hiv hir hT hwT ha h50 hG hg hGG
    subst hiv
    have hi : i = N := by omega
    have hL := hT.ml h.2.1
    have hA := hw.1
    have hP6 := hA.2.1
    have hS5 := hA.1
    refine d_run 2 rfl ?_
    refine d_ic_ge k233_70 (fun h70 => ?_) (fun h70 => ?_)
    · refine d_run 1 rfl ?_
      refine d_callT 1 k233_89 (by omega) (Nat.le_of_ble_eq_true rfl) rfl (Nat.le_of_ble_eq_true rfl) (Nat.le_of_ble_eq_true rfl) (recv_ok rfl (by first | assumption | exact Nat.le_of_ble_eq_true rfl | omega)) rfl (b_sitting hL hA hT.1 (by omega)) rfl ?_
      refine d_run 2 rfl ?_
      refine d_gR k233_95 (by first | assumption | exact Nat.le_of_ble_eq_true rfl | omega) ⟨rfl, rfl, rfl⟩ rfl ?_
      refine d_run 2 rfl ?_
      refine d_gR k233_100 (by first | assumption | exact Nat.le_of_ble_eq_true rfl | omega) ⟨rfl, rfl, rfl⟩ rfl ?_
      refine d_run 1 rfl ?_
      refine d_call 4 k233_104 (by omega) (Nat.le_of_ble_eq_true rfl) rfl (Nat.le_of_ble_eq_true rfl) (Nat.le_of_ble_eq_true rfl) recv_st rfl (b_cp71_70 (a := 0) (c := 0) (by omega) (by omega)) rfl ?_
      rintro F2 G2 ⟨rfl, q1, q2, q3⟩
      refine d_run 1 rfl ?_
      refine d_if_ne k233_108 (fun h108 => ?_) (fun h108 => ?_)
      · rw [if_neg h108]
        refine d_run 2 rfl ?_
        refine d_ic_ne k233_118 (fun h118 => ?_) (fun h118 => ?_)
        · rw [if_neg h118]
          refine d_run 1 rfl ?_
          refine d_ir k233_130 rfl (by first | exact ha | rfl) ?_
          exact hT.fin h hw q1 q3 hGG
        · rw [if_pos h118]
          refine d_run 1 rfl ?_
          refine d_gI k233_122 (by first | assumption | exact Nat.le_of_ble_eq_true rfl | omega) ⟨rfl, rfl, Or.inl rfl⟩ ?_
          rw [q3 40 rfl, h50]
          refine d_run 1 rfl ?_
          refine d_ir k233_130 rfl (by first | exact ha | rfl) ?_
          exact hT.fin h hw q1 q3 hGG
      · rw [if_pos h108]
        refine d_run 2 rfl ?_
        refine d_ir k233_130 rfl (by first | exact ha | rfl) ?_
        exact hT.fin h hw q1 q3 hGG
    · exact absurd (lt_nI h70 rfl (by omega) (by omega)) (by omega)
  | succ r ih =>
    intro i iv j F G acc hiv hir hT hwT ha h50 hG hg hGG
    subst hiv
    have hi : i < N := by omega
    have hL := hT.ml h.2.1
    have hA := hw.1
    have hP6 := hA.2.1
    have hS5 := hA.1
    refine d_run 2 rfl ?_
    refine d_ic_ge k233_70 (fun h70 => ?_) (fun h70 => ?_)
    · exact absurd (ge_nI h70 rfl (by omega) (by omega)) (by omega)
    · refine d_run 2 rfl ?_
      refine d_call 1 k233_76 (by omega) (Nat.le_of_ble_eq_true rfl) rfl (Nat.le_of_ble_eq_true rfl) (Nat.le_of_ble_eq_true rfl) (recv_ok rfl (by first | assumption | exact Nat.le_of_ble_eq_true rfl | omega)) rfl (b_lives hA (by omega) hL hT.1 hwT hG hg i) rfl ?_
      rintro F1 G1 ⟨m1, q3, q4⟩
      refine d_run 4 rfl ?_
      exact ih (i + 1) _ (lifH (gA o) i j) F1 G1 _ (nI_1 i) (by omega) (hT.st m1) (lifH_wf hA hwT) (by rw [ha]; exact i32_tel _ _ _) (by rw [m1.2.1, h50]; exact i32_tel _ _ _) q3 lifH_lt (fun k hk => (q4 k hk).trans (hGG k hk))
theorem e_years0 (h : MInv F G o) (hw : WF o) (hd : 90 ≤ d) : Td E d 233 5 [some (vr 40 0), some (vi u), some (vi v), some (vi w), none, none] [] x F G b (some (vi (q_years o u v w))) (MPost (o) F G) := by
  have hL := h.2.1
  have hA := hw.1
  have hS := h.2.2.2.1.1
  have hwS := hw.2.1.1
  have hP6 := hA.2.1
  have hS5 := hA.1
  cases hN1 : isW2 u 0 9999 with
  | false =>
    rw [show q_years o u v w = -1 by simp [q_years, hN1]]
    refine d_run 3 rfl ?_
    refine d_callT 3 k233_10 (by omega) (Nat.le_of_ble_eq_true rfl) rfl (Nat.le_of_ble_eq_true rfl) (Nat.le_of_ble_eq_true rfl) recv_st rfl e_within rfl ?_
    rw [hN1]
    refine d_if_eq k233_13 (fun h13 => ?_) (fun h13 => ?_)
    · refine d_run 1 rfl ?_
      refine d_ir k233_36 rfl (by rfl) ?_
      exact MPost.q0 h
    · exact absurd h13 (by decide)
  | true =>
    cases hN2 : isW2 v 1 99 with
    | false =>
      rw [show q_years o u v w = -1 by simp [q_years, hN2]]
      refine d_run 3 rfl ?_
      refine d_callT 3 k233_10 (by omega) (Nat.le_of_ble_eq_true rfl) rfl (Nat.le_of_ble_eq_true rfl) (Nat.le_of_ble_eq_true rfl) recv_st rfl e_within rfl ?_
      rw [hN1]
      refine d_if_eq k233_13 (fun h13 => ?_) (fun h13 => ?_)
      · exact absurd h13 (by decide)
      · refine d_run 3 rfl ?_
        refine d_callT 3 k233_20 (by omega) (Nat.le_of_ble_eq_true rfl) rfl (Nat.le_of_ble_eq_true rfl) (Nat.le_of_ble_eq_true rfl) recv_st rfl e_within rfl ?_
        rw [hN2]
        refine d_if_eq k233_23 (fun h23 => ?_) (fun h23 => ?_)
        · refine d_run 1 rfl ?_
          refine d_ir k233_36 rfl (by rfl) ?_
          exact MPost.q0 h
        · exact absurd h23 (by decide)
    | true =>
      cases hN3 : isW2 w 0 2 with
      | false =>
        rw [show q_years o u v w = -1 by simp [q_years, hN3]]
        refine d_run 3 rfl ?_
        refine d_callT 3 k233_10 (by omega) (Nat.le_of_ble_eq_true rfl) rfl (Nat.le_of_ble_eq_true rfl) (Nat.le_of_ble_eq_true rfl) recv_st rfl e_within rfl ?_
        rw [hN1]
        refine d_if_eq k233_13 (fun h13 => ?_) (fun h13 => ?_)
        · exact absurd h13 (by decide)
        · refine d_run 3 rfl ?_
          refine d_callT 3 k233_20 (by omega) (Nat.le_of_ble_eq_true rfl) rfl (Nat.le_of_ble_eq_true rfl) (Nat.le_of_ble_eq_true rfl) recv_st rfl e_within rfl ?_
          rw [hN2]
          refine d_if_eq k233_23 (fun h23 => ?_) (fun h23 => ?_)
          · exact absurd h23 (by decide)
          · refine d_run 3 rfl ?_
            refine d_callT 3 k233_29 (by omega) (Nat.le_of_ble_eq_true rfl) rfl (Nat.le_of_ble_eq_true rfl) (Nat.le_of_ble_eq_true rfl) recv_st rfl e_within rfl ?_
            rw [hN3]
            refine d_if_ne k233_32 (fun h32 => ?_) (fun h32 => ?_)
            · exact absurd rfl h32
            · refine d_run 1 rfl ?_
              refine d_ir k233_36 rfl (by rfl) ?_
              exact MPost.q0 h
      | true =>
        rw [show q_years o u v w = (if w = 0 then sWi (lpN (lifH (gA o)) 0 (ix v) (gS o, ix u)).1 - sWi (gS o) else if w = 1 then sSp (lpN (lifH (gA o)) 0 (ix v) (gS o, ix u)).1 - sSp (gS o) else bset (sitA (lpN (lifH (gA o)) 0 (ix v) (gS o, ix u)).1) (lP (gA o))) by simp [q_years, hN1, hN2, hN3]]
        obtain ⟨p, hp, rfl⟩ := isW2_ex (H := 9999) hN1 ⟨by decide, rfl, by decide⟩
        obtain ⟨n, hn, rfl⟩ := isW2_ex (H := 99) hN2 ⟨by decide, rfl, by decide⟩
        rw [ix_nI (show p < 100000 by omega), ix_nI (show n < 100000 by omega)]
        refine d_run 3 rfl ?_
        refine d_callT 3 k233_10 (by omega) (Nat.le_of_ble_eq_true rfl) rfl (Nat.le_of_ble_eq_true rfl) (Nat.le_of_ble_eq_true rfl) recv_st rfl e_within rfl ?_
        rw [hN1]
        refine d_if_eq k233_13 (fun h13 => ?_) (fun h13 => ?_)
        · exact absurd h13 (by decide)
        · refine d_run 3 rfl ?_
          refine d_callT 3 k233_20 (by omega) (Nat.le_of_ble_eq_true rfl) rfl (Nat.le_of_ble_eq_true rfl) (Nat.le_of_ble_eq_true rfl) recv_st rfl e_within rfl ?_
          rw [hN2]
          refine d_if_eq k233_23 (fun h23 => ?_) (fun h23 => ?_)
          · exact absurd h23 (by decide)
          · refine d_run 3 rfl ?_
            refine d_callT 3 k233_29 (by omega) (Nat.le_of_ble_eq_true rfl) rfl (Nat.le_of_ble_eq_true rfl) (Nat.le_of_ble_eq_true rfl) recv_st rfl e_within rfl ?_
            rw [hN3]
            refine d_if_ne k233_32 (fun h32 => ?_) (fun h32 => ?_)
            · refine d_run 3 rfl ?_
              refine d_pL k233_40 (by first | assumption | exact Nat.le_of_ble_eq_true rfl | omega) ⟨rfl, rfl⟩ ?_
              rw [nI_l (show p < 2 ^ 31 by omega)]
              refine d_run 1 rfl ?_
              refine d_gR k233_44 (by first | assumption | exact Nat.le_of_ble_eq_true rfl | omega) ⟨rfl, rfl, rfl⟩ rfl ?_
              refine d_run 2 rfl ?_
              refine d_gR k233_49 (by first | assumption | exact Nat.le_of_ble_eq_true rfl | omega) ⟨rfl, rfl, rfl⟩ rfl ?_
              refine d_run 1 rfl ?_
              refine d_call 4 k233_53 (by omega) (Nat.le_of_ble_eq_true rfl) rfl (Nat.le_of_ble_eq_true rfl) (Nat.le_of_ble_eq_true rfl) recv_st rfl (b_cp70_71 (a := 0) (c := 0) (by omega) (by omega)) rfl ?_
              rintro F1 G1 ⟨rfl, q1, q2, q3⟩
              have hT := MT.beg hS q1 q3
              refine d_run 2 rfl ?_
              refine d_pI k233_58 (by first | assumption | exact Nat.le_of_ble_eq_true rfl | omega) ⟨rfl, rfl⟩ ?_
              refine d_run 4 rfl ?_
              exact l_myears h hw (by omega) hn n 0 _ (gS o, p) _ _ _ rfl (by omega) (hT.u50 (v := 0)) hwS (Int32.sub_self _).symm (by rw [uF_r, pk_us]; exact (Int32.sub_self _).symm) uG_s (show p < 2147483648 by omega) (fun k hk => uG_k hk)
            · exact absurd h32 (by decide)
theorem e_years (h : MInv F G o) (hw : WF o) (hd : 90 ≤ d) : Td E d 233 0 [some (vr 40 0), some (vi u), some (vi v), some (vi w), none, none] [] x F G b (some (vi (q_years o u v w))) (MPost (o) F G) := by
  refine d_run 2 rfl ?_
  refine d_pI k233_2 (by first | assumption | exact Nat.le_of_ble_eq_true rfl | omega) ⟨rfl, rfl⟩ ?_
  exact MPost.th h hw (fun h => e_years0 h hw hd)
end M12
