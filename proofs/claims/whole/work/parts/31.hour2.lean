theorem t_dr11110 {E : EV} {d m pc : Nat} {st : List PV} {C : CT} {F : FT} {G : GT} {R : RT} {r : Option PV} {t : HS} {a0 a1 a2 a3 a4 : Option PV} (kk : Tm E d m pc [a0, a1, a2, a3, none] st C F G R r t) : Tm E d m pc [a0, a1, a2, a3, a4] st C F G R r t := t_le (by simp [leL]) kk
theorem t_dr11100 {E : EV} {d m pc : Nat} {st : List PV} {C : CT} {F : FT} {G : GT} {R : RT} {r : Option PV} {t : HS} {a0 a1 a2 a3 a4 : Option PV} (kk : Tm E d m pc [a0, a1, a2, none, none] st C F G R r t) : Tm E d m pc [a0, a1, a2, a3, a4] st C F G R r t := t_le (by simp [leL]) kk
section S5
variable {E : EV} {d n x l N P a c : Nat} {F : FT} {G : GT} {b : Bool} {LW : Int32 → Int32 → Int32 → Int32 → Int32} {vs : Nat → Int32} {s : SV} {be : Int32} {res : Option PV} {t : HS}
theorem h_inner (hn : n < 27) (hl : l < 2) (hP : F 9 l 10 = nI P) (hP6 : P ≤ 6) (hLW : LWok F l N LW) (hd : 4 ≤ d) (ha : a < P) : ∀ (r c : Nat) (s : SV) (vs : Nat → Int32), a < c → c ≤ P → P < c + r → ∃ v2, ∀ (res : Option PV) (t : HS), Tm E d 61 96 [some (vr 25 n), some (vr 9 l), some (vi be), some (vi (nI a)), none] [] (cC x) (sF F n l (inr LW (F 13 l) (F 16 l) (F 26 n) P (F 9 l 11) (F 9 l 12) a c (P - c) s) v2) G (Rs b) res t → Tm E d 61 20 [some (vr 25 n), some (vr 9 l), some (vi be), some (vi (nI a)), some (vi (nI c))] [] (cC x) (sF F n l s vs) G (Rs b) res t := by
  intro r
  induction r with
  | zero => intros; omega
  | succ r ih =>
    intro c s vs hac hc hr
    by_cases hcp : c = P
    · subst hcp
      rw [Nat.sub_self]
      refine ⟨vs, fun res t kk => ?_⟩
      refine t_run 2 rfl ?_
      refine t_gI k61_23 (by first | assumption | exact Nat.le_of_ble_eq_true rfl | omega) ⟨rfl, rfl, Or.inl rfl⟩ ?_
      refine t_ic_ge k61_26 (fun h26 => ?_) (fun h26 => ?_)
      · refine t_dr11110 ?_
        exact kk
      · exact absurd (lt_nI h26 hP (by omega) (by omega)) (by omega)
    · obtain ⟨v3, k3⟩ := h_wl1 (E := E) (x := x) (G := G) (b := b) (be := be) (s := s) (vs := vs) (a := a) (c := c) hn hl hP hP6 (by omega) (by omega) hLW hd
      obtain ⟨v4, k4⟩ := h_wl2 (E := E) (x := x) (G := G) (b := b) (be := be) (s := wl LW (F 13 l) (F 16 l) (F 26 n) P (F 9 l 11) (F 9 l 12) a c s) (vs := v3) (a := a) (c := c) hn hl hP hP6 (by omega) (by omega) hLW hd
      obtain ⟨v5, k5⟩ := ih (c + 1) (wl LW (F 13 l) (F 16 l) (F 26 n) P (F 9 l 11) (F 9 l 12) c a (wl LW (F 13 l) (F 16 l) (F 26 n) P (F 9 l 11) (F 9 l 12) a c s)) v4 (by omega) (by omega) (by omega)
      refine ⟨v5, fun res t kk => ?_⟩
      rw [show P - c = (P - (c + 1)) + 1 by omega] at kk
      refine t_run 2 rfl ?_
      refine t_gI k61_23 (by first | assumption | exact Nat.le_of_ble_eq_true rfl | omega) ⟨rfl, rfl, Or.inl rfl⟩ ?_
      refine t_ic_ge k61_26 (fun h26 => ?_) (fun h26 => ?_)
      · exact absurd (ge_nI h26 hP (by omega) (by omega)) (by omega)
      · refine k3 _ _ (k4 _ _ ?_)
        refine t_run 2 rfl ?_
        have k6 := k5 _ _ kk
        rw [← nI_1] at k6
        exact k6
theorem h_outer (hn : n < 27) (hl : l < 2) (hP : F 9 l 10 = nI P) (hP6 : P ≤ 6) (hLW : LWok F l N LW) (hd : 4 ≤ d) : ∀ (r a : Nat) (s : SV) (vs : Nat → Int32), a ≤ P → P < a + r → ∃ v2, ∀ (res : Option PV) (t : HS), Tm E d 61 102 [some (vr 25 n), some (vr 9 l), some (vi be), none, none] [] (cC x) (sF F n l (otr LW (F 13 l) (F 16 l) (F 26 n) P (F 9 l 11) (F 9 l 12) a (P - a) s) v2) G (Rs b) res t → Tm E d 61 7 [some (vr 25 n), some (vr 9 l), some (vi be), some (vi (nI a)), none] [] (cC x) (sF F n l s vs) G (Rs b) res t := by
  intro r
  induction r with
  | zero => intros; omega
  | succ r ih =>
    intro a s vs ha hr
    by_cases hap : a = P
    · subst hap
      rw [Nat.sub_self]
      refine ⟨vs, fun res t kk => ?_⟩
      refine t_run 2 rfl ?_
      refine t_gI k61_9 (by first | assumption | exact Nat.le_of_ble_eq_true rfl | omega) ⟨rfl, rfl, Or.inl rfl⟩ ?_
      refine t_ic_ge k61_12 (fun h12 => ?_) (fun h12 => ?_)
      · refine t_dr11100 ?_
        exact kk
      · exact absurd (lt_nI h12 hP (by omega) (by omega)) (by omega)
    · have hap : a < P := by omega
      obtain ⟨v3, k3⟩ := h_inner (E := E) (x := x) (G := G) (b := b) (be := be) hn hl hP hP6 hLW hd hap (P + 1) (a + 1) s vs (by omega) (by omega) (by omega)
      obtain ⟨v5, k5⟩ := ih (a + 1) (inr LW (F 13 l) (F 16 l) (F 26 n) P (F 9 l 11) (F 9 l 12) a (a + 1) (P - (a + 1)) s) v3 (by omega) (by omega)
      refine ⟨v5, fun res t kk => ?_⟩
      rw [show P - a = (P - (a + 1)) + 1 by omega] at kk
      refine t_run 2 rfl ?_
      refine t_gI k61_9 (by first | assumption | exact Nat.le_of_ble_eq_true rfl | omega) ⟨rfl, rfl, Or.inl rfl⟩ ?_
      refine t_ic_ge k61_12 (fun h12 => ?_) (fun h12 => ?_)
      · exact absurd (ge_nI h12 hP (by omega) (by omega)) (by omega)
      · refine t_run 4 rfl ?_
        have k6 := k3 res t ?_
        · rw [← nI_1] at k6
          exact k6
        · refine t_run 2 rfl ?_
          have k7 := k5 _ _ kk
          rw [← nI_1] at k7
          exact k7
theorem h_dec (hn : n < 27) (hl : l < 2) (hP : F 9 l 10 = nI P) (hP6 : P ≤ 6) (hd : 1 ≤ d) {wd : Nat → Int32} {sn wi sp : Int32} {res : Option PV} {t : HS} : ∀ (r p : Nat) (iv : Int32) (lf : Nat → Int32), iv = nI p → p ≤ P → P < p + r → Tm E d 61 136 [some (vr 25 n), some (vr 9 l), some (vi be), none, none] [] (cC x) (sF F n l (dcr p (P - p) lf, wd, sn, wi, sp) vs) G (Rs b) res t → Tm E d 61 104 [some (vr 25 n), some (vr 9 l), some (vi be), some (vi iv), none] [] (cC x) (sF F n l (lf, wd, sn, wi, sp) vs) G (Rs b) res t := by
  intro r
  induction r with
  | zero => intros; omega
  | succ r ih =>
    intro p iv lf hiv hp hr kk
    subst hiv
    refine t_run 2 rfl ?_
    refine t_gI k61_106 (by first | assumption | exact Nat.le_of_ble_eq_true rfl | omega) ⟨rfl, rfl, Or.inl rfl⟩ ?_
    refine t_ic_ge k61_109 (fun h109 => ?_) (fun h109 => ?_)
    · have h109 := ge_nI h109 hP (by omega) (by omega)
      have hpp : p = P := by omega
      subst hpp
      rw [Nat.sub_self] at kk
      refine t_dr11100 ?_
      exact kk
    · have h109 := lt_nI h109 hP (by omega) (by omega)
      refine t_run 1 rfl ?_
      refine t_gR k61_113 (by first | assumption | exact Nat.le_of_ble_eq_true rfl | omega) ⟨rfl, rfl, rfl⟩ rfl ?_
      refine t_run 3 rfl ?_
      refine t_gR k61_119 (by first | assumption | exact Nat.le_of_ble_eq_true rfl | omega) ⟨rfl, rfl, rfl⟩ rfl ?_
      refine t_run 1 rfl ?_
      refine t_ia (N := 6) k61_123 (by decide) (by first | assumption | exact Nat.le_of_ble_eq_true rfl | omega) ⟨⟨rfl, rfl⟩, rfl, rfl⟩ (by first | assumption | omega) rfl ?_
      rw [sr_27]
      refine t_run 2 rfl ?_
      refine t_max k61_126 (by omega) (Nat.le_of_ble_eq_true rfl) ?_
      refine t_is (N := 6) k61_129 (by first | assumption | exact Nat.le_of_ble_eq_true rfl | omega) ⟨rfl, rfl⟩ (by first | assumption | omega) rfl ?_
      rw [sF_27]
      refine t_run 2 rfl ?_
      refine ih (p + 1) _ _ (nI_1 p) (by omega) (by omega) ?_
      rw [show P - p = (P - (p + 1)) + 1 by omega] at kk
      exact kk
/-- an hour: the state behind it -/
def hr (LW : Int32 → Int32 → Int32 → Int32 → Int32) (ki kn at_ : Nat → Int32) (P : Nat) (so snap : Int32) (s : SV) : SV :=
  (dcr 0 P (otr LW ki kn at_ P so snap 0 P s).1, (otr LW ki kn at_ P so snap 0 P s).2)
theorem c_hour (hn : n < 27) (hl : l < 2) (hP : F 9 l 10 = nI P) (hP6 : P ≤ 6) (hLW : LWok F l N LW) (hd : 4 ≤ d) : ∃ v2, Tm E d 61 0 [some (vr 25 n), some (vr 9 l), none, none, none] [] (cC x) (sF F n l s vs) G (Rs b) (some (vi ((hr LW (F 13 l) (F 16 l) (F 26 n) P (F 9 l 11) (F 9 l 12) s).2.2.2.1 - s.2.2.2.1))) (cC x, uF (sF F n l (hr LW (F 13 l) (F 16 l) (F 26 n) P (F 9 l 11) (F 9 l 12) s) v2) 25 n 4 (F 25 n 4 + 1), G, Rs b) := by
  obtain ⟨v3, k3⟩ := h_outer (E := E) (x := x) (G := G) (b := b) (be := s.2.2.2.1) hn hl hP hP6 hLW hd (P + 1) 0 s vs (by omega) (by omega)
  refine ⟨v3, ?_⟩
  refine t_run 1 rfl ?_
  refine t_gI k61_1 (by first | assumption | exact Nat.le_of_ble_eq_true rfl | omega) ⟨rfl, rfl, Or.inl rfl⟩ ?_
  rw [sr_5]
  refine t_run 3 rfl ?_
  refine k3 _ _ ?_
  rw [Nat.sub_zero]
  refine t_run 2 rfl ?_
  refine h_dec hn hl hP hP6 (by omega) (P + 1) 0 _ _ rfl (by omega) (by omega) ?_
  rw [Nat.sub_zero]
  refine t_run 2 rfl ?_
  refine t_gI k61_138 (by first | assumption | exact Nat.le_of_ble_eq_true rfl | omega) ⟨rfl, rfl, Or.inl rfl⟩ ?_
  rw [sr_4]
  refine t_run 2 rfl ?_
  refine t_pI k61_143 (by first | assumption | exact Nat.le_of_ble_eq_true rfl | omega) ⟨rfl, rfl⟩ ?_
  refine t_run 1 rfl ?_
  refine t_gI k61_147 (by first | assumption | exact Nat.le_of_ble_eq_true rfl | omega) ⟨rfl, rfl, Or.inl rfl⟩ ?_
  rw [show uF (sF F n l (dcr 0 P (otr LW (F 13 l) (F 16 l) (F 26 n) P (F 9 l 11) (F 9 l 12) 0 P s).1, (otr LW (F 13 l) (F 16 l) (F 26 n) P (F 9 l 11) (F 9 l 12) 0 P s).2) v3) 25 n 4 (ibop 0 (F 25 n 4) 1) 25 n 5 = (otr LW (F 13 l) (F 16 l) (F 26 n) P (F 9 l 11) (F 9 l 12) 0 P s).2.2.2.1 by simp [uF, sF]]
  refine t_run 2 rfl ?_
  exact t_ir k61_152 rfl (by rfl)
end S5
