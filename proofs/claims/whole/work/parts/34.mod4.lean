theorem t_dr1110 {E : EV} {d m pc : Nat} {st : List PV} {C : CT} {F : FT} {G : GT} {R : RT} {r : Option PV} {t : HS} {a0 a1 a2 a3 : Option PV} (kk : Tm E d m pc [a0, a1, a2, none] st C F G R r t) : Tm E d m pc [a0, a1, a2, a3] st C F G R r t := t_le (by simp [leL]) kk
theorem t_dr1100 {E : EV} {d m pc : Nat} {st : List PV} {C : CT} {F : FT} {G : GT} {R : RT} {r : Option PV} {t : HS} {a0 a1 a2 a3 : Option PV} (kk : Tm E d m pc [a0, a1, none, none] st C F G R r t) : Tm E d m pc [a0, a1, a2, a3] st C F G R r t := t_le (by simp [leL]) kk
def dcm (sn : Int32) : Nat → Nat → (Nat → Int32) → (Nat → Int32)
  | _, 0, lf => lf
  | p, k + 1, lf => dcm sn (p + 1) k (if sit lf sn p = true then lf else upd lf p (lf p - 1))
section M4
variable {E : EV} {d x P a c : Nat} {F : FT} {G : GT} {b : Bool} {LW : Int32 → Int32 → Int32 → Int32 → Int32} {w0 : Int32}
theorem p_inner (hP : F 42 0 1 = nI P) (hP6 : P ≤ 6) (hW : WKok F LW) (hd : 6 ≤ d) (ha : a < P) : ∀ (r c : Nat) (s : SV) (A : FT), a < c → c ≤ P → P < c + r → ∃ A2, ∀ (res : Option PV) (t : HS), Tm E d 191 52 [some (vr 40 0), some (vi ((inr LW (F 46 0) (F 49 0) (mAt F) P (F 42 0 2) (F 42 0 3) a c (P - c) s).2.2.2.1 - w0)), some (vi (nI a)), none] [] (cC x) (mF F (inr LW (F 46 0) (F 49 0) (mAt F) P (F 42 0 2) (F 42 0 3) a c (P - c) s) A2) G (Rs b) res t → Tm E d 191 18 [some (vr 40 0), some (vi (s.2.2.2.1 - w0)), some (vi (nI a)), some (vi (nI c))] [] (cC x) (mF F s A) G (Rs b) res t := by
  intro r
  induction r with
  | zero => intros; omega
  | succ r ih =>
    intro c s A hac hc hr
    by_cases hcp : c = P
    · subst hcp
      rw [Nat.sub_self]
      refine ⟨A, fun res t kk => ?_⟩
      refine t_run 2 rfl ?_
      refine t_gR k191_20 (by first | assumption | exact Nat.le_of_ble_eq_true rfl | omega) ⟨rfl, rfl, rfl⟩ rfl ?_
      refine t_run 1 rfl ?_
      refine t_ia (N := 8) (j := 1) k191_24 (by decide) (by first | assumption | exact Nat.le_of_ble_eq_true rfl | omega) ⟨⟨rfl, rfl⟩, rfl, rfl⟩ (by decide) rfl ?_
      refine t_ic_ge k191_25 (fun h25 => ?_) (fun h25 => ?_)
      · refine t_dr1110 ?_
        exact kk
      · exact absurd (lt_nI h25 hP (by omega) (by omega)) (by omega)
    · obtain ⟨A3, k3⟩ := m_windsIf (E := E) (d := d - 1) (x := x) (G := G) (b := b) (s := s) (A := A) (p := a) (q := c) hP hP6 (by omega) (by omega) hW (by omega)
      obtain ⟨A4, k4⟩ := m_windsIf (E := E) (d := d - 1) (x := x) (G := G) (b := b) (s := wl LW (F 46 0) (F 49 0) (mAt F) P (F 42 0 2) (F 42 0 3) a c s) (A := A3) (p := c) (q := a) hP hP6 (by omega) (by omega) hW (by omega)
      obtain ⟨A5, k5⟩ := ih (c + 1) (wl LW (F 46 0) (F 49 0) (mAt F) P (F 42 0 2) (F 42 0 3) c a (wl LW (F 46 0) (F 49 0) (mAt F) P (F 42 0 2) (F 42 0 3) a c s)) A4 (by omega) (by omega) (by omega)
      refine ⟨A5, fun res t kk => ?_⟩
      rw [show P - c = (P - (c + 1)) + 1 by omega] at kk
      refine t_run 2 rfl ?_
      refine t_gR k191_20 (by first | assumption | exact Nat.le_of_ble_eq_true rfl | omega) ⟨rfl, rfl, rfl⟩ rfl ?_
      refine t_run 1 rfl ?_
      refine t_ia (N := 8) (j := 1) k191_24 (by decide) (by first | assumption | exact Nat.le_of_ble_eq_true rfl | omega) ⟨⟨rfl, rfl⟩, rfl, rfl⟩ (by decide) rfl ?_
      refine t_ic_ge k191_25 (fun h25 => ?_) (fun h25 => ?_)
      · exact absurd (ge_nI h25 hP (by omega) (by omega)) (by omega)
      · refine t_run 4 rfl ?_
        refine t_call 3 k191_32 (by omega) (Nat.le_of_ble_eq_true rfl) rfl (Nat.le_of_ble_eq_true rfl) (Nat.le_of_ble_eq_true rfl) (recv_ok rfl (by first | assumption | exact Nat.le_of_ble_eq_true rfl | omega)) rfl k3 rfl ?_
        refine t_run 6 rfl ?_
        refine t_call 3 k191_41 (by omega) (Nat.le_of_ble_eq_true rfl) rfl (Nat.le_of_ble_eq_true rfl) (Nat.le_of_ble_eq_true rfl) (recv_ok rfl (by first | assumption | exact Nat.le_of_ble_eq_true rfl | omega)) rfl k4 rfl ?_
        refine t_run 4 rfl ?_
        have k6 := k5 _ _ kk
        rw [← nI_1, wl_wi, wl_wi, ← i32_asc, ← i32_asc] at k6
        exact k6
theorem p_outer (hP : F 42 0 1 = nI P) (hP6 : P ≤ 6) (hW : WKok F LW) (hd : 6 ≤ d) : ∀ (r a : Nat) (s : SV) (A : FT), a ≤ P → P < a + r → ∃ A2, ∀ (res : Option PV) (t : HS), Tm E d 191 58 [some (vr 40 0), some (vi ((otr LW (F 46 0) (F 49 0) (mAt F) P (F 42 0 2) (F 42 0 3) a (P - a) s).2.2.2.1 - w0)), none, none] [] (cC x) (mF F (otr LW (F 46 0) (F 49 0) (mAt F) P (F 42 0 2) (F 42 0 3) a (P - a) s) A2) G (Rs b) res t → Tm E d 191 4 [some (vr 40 0), some (vi (s.2.2.2.1 - w0)), some (vi (nI a)), none] [] (cC x) (mF F s A) G (Rs b) res t := by
  intro r
  induction r with
  | zero => intros; omega
  | succ r ih =>
    intro a s A ha hr
    by_cases hap : a = P
    · subst hap
      rw [Nat.sub_self]
      refine ⟨A, fun res t kk => ?_⟩
      refine t_run 2 rfl ?_
      refine t_gR k191_6 (by first | assumption | exact Nat.le_of_ble_eq_true rfl | omega) ⟨rfl, rfl, rfl⟩ rfl ?_
      refine t_run 1 rfl ?_
      refine t_ia (N := 8) (j := 1) k191_10 (by decide) (by first | assumption | exact Nat.le_of_ble_eq_true rfl | omega) ⟨⟨rfl, rfl⟩, rfl, rfl⟩ (by decide) rfl ?_
      refine t_ic_ge k191_11 (fun h11 => ?_) (fun h11 => ?_)
      · refine t_dr1100 ?_
        exact kk
      · exact absurd (lt_nI h11 hP (by omega) (by omega)) (by omega)
    · have hap : a < P := by omega
      obtain ⟨A3, k3⟩ := p_inner (E := E) (x := x) (G := G) (b := b) (w0 := w0) hP hP6 hW hd hap (P + 1) (a + 1) s A (by omega) (by omega) (by omega)
      obtain ⟨A5, k5⟩ := ih (a + 1) (inr LW (F 46 0) (F 49 0) (mAt F) P (F 42 0 2) (F 42 0 3) a (a + 1) (P - (a + 1)) s) A3 (by omega) (by omega)
      refine ⟨A5, fun res t kk => ?_⟩
      rw [show P - a = (P - (a + 1)) + 1 by omega] at kk
      refine t_run 2 rfl ?_
      refine t_gR k191_6 (by first | assumption | exact Nat.le_of_ble_eq_true rfl | omega) ⟨rfl, rfl, rfl⟩ rfl ?_
      refine t_run 1 rfl ?_
      refine t_ia (N := 8) (j := 1) k191_10 (by decide) (by first | assumption | exact Nat.le_of_ble_eq_true rfl | omega) ⟨⟨rfl, rfl⟩, rfl, rfl⟩ (by decide) rfl ?_
      refine t_ic_ge k191_11 (fun h11 => ?_) (fun h11 => ?_)
      · exact absurd (ge_nI h11 hP (by omega) (by omega)) (by omega)
      · refine t_run 4 rfl ?_
        have k6 := k3 res t ?_
        · rw [← nI_1] at k6
          exact k6
        · refine t_run 2 rfl ?_
          have k7 := k5 _ _ kk
          rw [← nI_1] at k7
          exact k7
theorem p_dec (hP : F 42 0 1 = nI P) (hP6 : P ≤ 6) (hd : 2 ≤ d) {A : FT} {wd : Nat → Int32} {sn wi sp acc : Int32} {res : Option PV} {t : HS} : ∀ (r p : Nat) (iv : Int32) (lf : Nat → Int32), iv = nI p → p ≤ P → P < p + r → Tm E d 191 97 [some (vr 40 0), some (vi acc), none, none] [] (cC x) (mF F (dcm sn p (P - p) lf, wd, sn, wi, sp) A) G (Rs b) res t → Tm E d 191 60 [some (vr 40 0), some (vi acc), some (vi iv), none] [] (cC x) (mF F (lf, wd, sn, wi, sp) A) G (Rs b) res t := by
  intro r
  induction r with
  | zero => intros; omega
  | succ r ih =>
    intro p iv lf hiv hp hr kk
    subst hiv
    refine t_run 2 rfl ?_
    refine t_gR k191_62 (by first | assumption | exact Nat.le_of_ble_eq_true rfl | omega) ⟨rfl, rfl, rfl⟩ rfl ?_
    refine t_run 1 rfl ?_
    refine t_ia (N := 8) (j := 1) k191_66 (by decide) (by first | assumption | exact Nat.le_of_ble_eq_true rfl | omega) ⟨⟨rfl, rfl⟩, rfl, rfl⟩ (by decide) rfl ?_
    refine t_ic_ge k191_67 (fun h67 => ?_) (fun h67 => ?_)
    · have h67 := ge_nI h67 hP (by omega) (by omega)
      have hpp : p = P := by omega
      subst hpp
      rw [Nat.sub_self] at kk
      refine t_dr1100 ?_
      exact kk
    · have h67 := lt_nI h67 hP (by omega) (by omega)
      rw [show P - p = (P - (p + 1)) + 1 by omega] at kk
      unfold dcm at kk
      refine t_run 2 rfl ?_
      refine t_call 2 k191_72 (by omega) (Nat.le_of_ble_eq_true rfl) rfl (Nat.le_of_ble_eq_true rfl) (Nat.le_of_ble_eq_true rfl) (recv_ok rfl (by first | assumption | exact Nat.le_of_ble_eq_true rfl | omega)) rfl (m_sitS (by omega) (by omega)) rfl ?_
      refine t_if_ne k191_75 (fun h75 => ?_) (fun h75 => ?_)
      · rw [b2i0, Bool.not_eq_false] at h75
        rw [if_pos h75] at kk
        refine t_run 2 rfl ?_
        exact ih (p + 1) _ _ (nI_1 p) (by omega) (by omega) kk
      · rw [b2i0] at h75
        rw [if_neg (by simp [h75])] at kk
        refine t_run 1 rfl ?_
        refine t_gR k191_79 (by first | assumption | exact Nat.le_of_ble_eq_true rfl | omega) ⟨rfl, rfl, rfl⟩ rfl ?_
        refine t_run 4 rfl ?_
        refine t_ia (N := 50) k191_87 (by decide) (by first | assumption | exact Nat.le_of_ble_eq_true rfl | omega) ⟨⟨rfl, rfl⟩, rfl, rfl⟩ (by first | assumption | omega) (nI_add 8 p) ?_
        rw [mr_lf (by omega)]
        refine t_run 2 rfl ?_
        refine t_is (N := 50) k191_90 (by first | assumption | exact Nat.le_of_ble_eq_true rfl | omega) ⟨rfl, rfl⟩ (by first | assumption | omega) (nI_add 8 p) ?_
        rw [mF_lf (by omega)]
        refine t_run 2 rfl ?_
        exact ih (p + 1) _ _ (nI_1 p) (by omega) (by omega) kk
def hrm (LW : Int32 → Int32 → Int32 → Int32 → Int32) (ki kn at_ : Nat → Int32) (P : Nat) (so snap : Int32) (s : SV) : SV :=
  (dcm (otr LW ki kn at_ P so snap 0 P s).2.2.1 0 P (otr LW ki kn at_ P so snap 0 P s).1, (otr LW ki kn at_ P so snap 0 P s).2)
theorem m_passes {s : SV} {A : FT} (hP : F 42 0 1 = nI P) (hP6 : P ≤ 6) (hW : WKok F LW) (hd : 6 ≤ d) : ∃ A2, Tm E d 191 0 [some (vr 40 0), none, none, none] [] (cC x) (mF F s A) G (Rs b) (some (vi ((hrm LW (F 46 0) (F 49 0) (mAt F) P (F 42 0 2) (F 42 0 3) s).2.2.2.1 - s.2.2.2.1))) (cC x, uF (mF F (hrm LW (F 46 0) (F 49 0) (mAt F) P (F 42 0 2) (F 42 0 3) s) A2) 70 0 0 (F 70 0 0 + 1), G, Rs b) := by
  obtain ⟨A3, k3⟩ := p_outer (E := E) (x := x) (G := G) (b := b) (w0 := s.2.2.2.1) hP hP6 hW hd (P + 1) 0 s A (by omega) (by omega)
  refine ⟨A3, ?_⟩
  rw [Int32.sub_self] at k3
  refine t_run 4 rfl ?_
  refine k3 _ _ ?_
  rw [Nat.sub_zero]
  refine t_run 2 rfl ?_
  refine p_dec hP hP6 (by omega) (P + 1) 0 _ _ rfl (by omega) (by omega) ?_
  rw [Nat.sub_zero]
  refine t_run 1 rfl ?_
  refine t_gR k191_98 (by first | assumption | exact Nat.le_of_ble_eq_true rfl | omega) ⟨rfl, rfl, rfl⟩ rfl ?_
  refine t_run 2 rfl ?_
  refine t_ia (N := 50) (j := 0) k191_103 (by decide) (by first | assumption | exact Nat.le_of_ble_eq_true rfl | omega) ⟨⟨rfl, rfl⟩, rfl, rfl⟩ (by decide) rfl ?_
  refine t_run 2 rfl ?_
  refine t_is (N := 50) (j := 0) k191_106 (by first | assumption | exact Nat.le_of_ble_eq_true rfl | omega) ⟨rfl, rfl⟩ (by decide) rfl ?_
  refine t_run 1 rfl ?_
  exact t_ir k191_108 rfl (by rfl)
end M4
