theorem i32_asc (a b c : Int32) : (a - c) + b = (a + b) - c := by
  rw [Int32.sub_eq_add_neg, Int32.sub_eq_add_neg, Int32.add_assoc, Int32.add_assoc, Int32.add_comm (-c) b]
theorem lt10 (v : Int32) : (¬ 9 < v) = (v < 10) := by
  have h9 : (9 : Int32).toInt = 9 := rfl
  have h10 : (10 : Int32).toInt = 10 := rfl
  simp only [Int32.lt_iff_toInt_lt, h9, h10, eq_iff_iff]
  omega
theorem wl_wi (LW : Int32 → Int32 → Int32 → Int32 → Int32) (ki kn at_ : Nat → Int32) (P : Nat) (so snap : Int32) (w o : Nat) (s : SV) : (wl LW ki kn at_ P so snap w o s).2.2.2.1 = s.2.2.2.1 + b2i (decide (s.1 o < 10) && cwd ki kn at_ s.1 s.2.1 so s.2.2.1 w o) := by
  unfold wl
  split
  · rename_i h
    rw [h]
    unfold tn
    split <;> rfl
  · rename_i h
    simp only [Bool.not_eq_true] at h
    rw [h]
    simp [b2i]
theorem cwd_mwd (ki kn at_ lf wd : Nat → Int32) (so sn : Int32) (w o : Nat) : cwd ki kn at_ lf wd so sn w o = (mwd ki kn at_ lf wd so sn w o && (decide (¬ ki o = 3) && !bit sn o)) := by
  unfold cwd mwd
  generalize decide (at_ w = at_ o) = b1
  generalize decide (¬ ki w = 1) = b2
  generalize sit lf sn w = b3
  generalize decide (¬ ki o = 3) = b4
  generalize bit sn o = b5
  generalize strg kn wd so w o = b6
  cases b1 <;> cases b2 <;> cases b3 <;> cases b4 <;> cases b5 <;> cases b6 <;> rfl
section M3
variable {E : EV} {d x p q P : Nat} {F A : FT} {G : GT} {b : Bool} {LW : Int32 → Int32 → Int32 → Int32 → Int32} {lf wd : Nat → Int32} {sn wi sp : Int32} {s : SV}
theorem m_sitS (hp : p < 6) (hd : 1 ≤ d) : Tm E d 181 0 [some (vr 40 0), some (vi (nI p))] [] (cC x) (mF F s A) G (Rs b) (some (vi (b2i (sit s.1 s.2.2.1 p)))) (cC x, mF F s A, G, Rs b) := by
  have k := m_isSitting (E := E) (x := x) (F := mF F s A) (G := G) (b := b) hp hd
  rw [mSn, mr_sn, sit_c (g := s.1) (mr_lf hp)] at k
  exact k
theorem m_mightS (hp : p < 6) (hq : q < 6) (hd : 2 ≤ d) : Tm E d 185 0 [some (vr 40 0), some (vi (nI p)), some (vi (nI q))] [] (cC x) (mF F s A) G (Rs b) (some (vi (b2i (mwd (F 46 0) (F 49 0) (mAt F) s.1 s.2.1 (F 42 0 2) s.2.2.1 p q)))) (cC x, mF F s A, G, Rs b) := by
  have k := m_might (E := E) (x := x) (F := mF F s A) (G := G) (b := b) hp hq hd
  unfold mwd at k ⊢
  have a1 : mAt (mF F s A) p = mAt F p := mr_at hp
  have a2 : mAt (mF F s A) q = mAt F q := mr_at hq
  rw [mSn, mr_sn, sit_c (g := s.1) (mr_lf hp), strg_c hp hq (g := s.2.1) (fun i hi => mr_wd hi), a1, a2] at k
  exact k
theorem m_canBeS (hp : p < 6) (hd : 1 ≤ d) : Tm E d 186 0 [some (vr 40 0), some (vi (nI p))] [] (cC x) (mF F s A) G (Rs b) (some (vi (b2i (decide (¬ F 46 0 p = 3) && !bit s.2.2.1 p)))) (cC x, mF F s A, G, Rs b) := by
  have k := m_canBe (E := E) (x := x) (F := mF F s A) (G := G) (b := b) hp hd
  rw [mSn, mr_sn] at k
  exact k
theorem m_winds (hP : F 42 0 1 = nI P) (hP6 : P ≤ 6) (hp : p < 6) (hq : q < 6) (hW : WKok F LW) (hd : 4 ≤ d) : ∃ A2, Tm E d 189 0 [some (vr 40 0), some (vi (nI p)), some (vi (nI q))] [] (cC x) (mF F (lf, wd, sn, wi, sp) A) G (Rs b) none (cC x, mF F (tn LW (F 46 0) (mAt F) P (F 42 0 3) p q (lf, wd, sn, wi, sp)) A2, G, Rs b) := by
  obtain ⟨A2, hg⟩ := m_windsBy (E := E) (d := d - 1) (x := x) (G := G) (b := b) (A := A) (s := (lf, wd, sn, wi, sp)) (goes := lf q) hP hP6 hp hq hW (by omega)
  refine ⟨A2, ?_⟩
  refine t_run 1 rfl ?_
  refine t_gR k189_1 (by first | assumption | exact Nat.le_of_ble_eq_true rfl | omega) ⟨rfl, rfl, rfl⟩ rfl ?_
  refine t_run 4 rfl ?_
  refine t_ia (N := 50) k189_9 (by decide) (by first | assumption | exact Nat.le_of_ble_eq_true rfl | omega) ⟨⟨rfl, rfl⟩, rfl, rfl⟩ (by first | assumption | omega) (nI_add 8 q) ?_
  rw [mr_lf hq]
  refine t_run 4 rfl ?_
  refine t_gR k189_14 (by first | assumption | exact Nat.le_of_ble_eq_true rfl | omega) ⟨rfl, rfl, rfl⟩ rfl ?_
  refine t_run 3 rfl ?_
  refine t_ia (N := 50) k189_21 (by decide) (by first | assumption | exact Nat.le_of_ble_eq_true rfl | omega) ⟨⟨rfl, rfl⟩, rfl, rfl⟩ (by first | assumption | omega) (nI_add 8 _) ?_
  rw [mr_lf hq]
  refine t_call 4 k189_22 (by omega) (Nat.le_of_ble_eq_true rfl) rfl (Nat.le_of_ble_eq_true rfl) (Nat.le_of_ble_eq_true rfl) (recv_ok rfl (by first | assumption | exact Nat.le_of_ble_eq_true rfl | omega)) rfl hg rfl ?_
  refine t_run 1 rfl ?_
  refine t_is (N := 50) k189_26 (by first | assumption | exact Nat.le_of_ble_eq_true rfl | omega) ⟨rfl, rfl⟩ (by first | assumption | omega) (nI_add 8 q) ?_
  rw [mF_lf hq]
  refine t_run 1 rfl ?_
  refine t_gR k189_28 (by first | assumption | exact Nat.le_of_ble_eq_true rfl | omega) ⟨rfl, rfl, rfl⟩ rfl ?_
  refine t_run 8 rfl ?_
  refine t_ia (N := 50) k189_41 (by decide) (by first | assumption | exact Nat.le_of_ble_eq_true rfl | omega) ⟨⟨rfl, rfl⟩, rfl, rfl⟩ (by first | assumption | omega) (ix14 p q) ?_
  rw [mr_wd (by omega)]
  refine t_run 2 rfl ?_
  refine t_is (N := 50) k189_44 (by first | assumption | exact Nat.le_of_ble_eq_true rfl | omega) ⟨rfl, rfl⟩ (by first | assumption | omega) (ix14 p q) ?_
  rw [mF_wd (by omega)]
  refine t_run 1 rfl ?_
  refine t_gR k189_46 (by first | assumption | exact Nat.le_of_ble_eq_true rfl | omega) ⟨rfl, rfl, rfl⟩ rfl ?_
  refine t_run 3 rfl ?_
  refine t_ia (N := 50) k189_53 (by decide) (by first | assumption | exact Nat.le_of_ble_eq_true rfl | omega) ⟨⟨rfl, rfl⟩, rfl, rfl⟩ (by first | assumption | omega) (nI_add 8 _) ?_
  rw [mr_lf hq]
  refine t_run 1 rfl ?_
  refine t_gR k189_55 (by first | assumption | exact Nat.le_of_ble_eq_true rfl | omega) ⟨rfl, rfl, rfl⟩ rfl ?_
  refine t_run 1 rfl ?_
  refine t_ia (N := 8) (j := 3) k189_59 (by decide) (by first | assumption | exact Nat.le_of_ble_eq_true rfl | omega) ⟨⟨rfl, rfl⟩, rfl, rfl⟩ (by decide) rfl ?_
  refine t_ic_gt k189_60 (fun h60 => ?_) (fun h60 => ?_)
  · have h60 : ¬ lf q + gvn (F 46 0) p (LW (lf q) (lf p) (tog wd p q) (crd (mAt F) p q P)) ≤ F 42 0 3 := by have h := Int32.not_le.mpr h60; simpa [ibop, upd, mF, scr] using h
    have e : tn LW (F 46 0) (mAt F) P (F 42 0 3) p q (lf, wd, sn, wi, sp) = (upd (upd lf q (lf q + gvn (F 46 0) p (LW (lf q) (lf p) (tog wd p q) (crd (mAt F) p q P)))) q 0, upd wd (6 * p + q) (wd (6 * p + q) + 1), sn ||| (1 <<< (nI q &&& 31)), wi + 1, sp + 1) := by simp only [tn]; rw [if_neg h60]
    rw [e]
    refine t_run 1 rfl ?_
    refine t_gR k189_65 (by first | assumption | exact Nat.le_of_ble_eq_true rfl | omega) ⟨rfl, rfl, rfl⟩ rfl ?_
    refine t_run 4 rfl ?_
    refine t_is (N := 50) k189_73 (by first | assumption | exact Nat.le_of_ble_eq_true rfl | omega) ⟨rfl, rfl⟩ (by first | assumption | omega) (nI_add 8 _) ?_
    rw [mF_lf hq]
    refine t_run 1 rfl ?_
    refine t_gR k189_75 (by first | assumption | exact Nat.le_of_ble_eq_true rfl | omega) ⟨rfl, rfl, rfl⟩ rfl ?_
    refine t_run 2 rfl ?_
    refine t_ia (N := 50) (j := 1) k189_80 (by decide) (by first | assumption | exact Nat.le_of_ble_eq_true rfl | omega) ⟨⟨rfl, rfl⟩, rfl, rfl⟩ (by decide) rfl ?_
    rw [mr_sn]
    refine t_run 4 rfl ?_
    refine t_is (N := 50) (j := 1) k189_85 (by first | assumption | exact Nat.le_of_ble_eq_true rfl | omega) ⟨rfl, rfl⟩ (by decide) rfl ?_
    rw [mF_sn]
    refine t_run 2 rfl ?_
    refine t_gI k189_88 (by first | assumption | exact Nat.le_of_ble_eq_true rfl | omega) ⟨rfl, rfl, Or.inl rfl⟩ ?_
    rw [mr_sp]
    refine t_run 2 rfl ?_
    refine t_pI k189_93 (by first | assumption | exact Nat.le_of_ble_eq_true rfl | omega) ⟨rfl, rfl⟩ ?_
    rw [mF_sp]
    exact t_ret k189_96
  · have h60 : lf q + gvn (F 46 0) p (LW (lf q) (lf p) (tog wd p q) (crd (mAt F) p q P)) ≤ F 42 0 3 := by have h := Int32.not_lt.mp h60; simpa [ibop, upd, mF, scr] using h
    have e : tn LW (F 46 0) (mAt F) P (F 42 0 3) p q (lf, wd, sn, wi, sp) = (upd lf q (lf q + gvn (F 46 0) p (LW (lf q) (lf p) (tog wd p q) (crd (mAt F) p q P))), upd wd (6 * p + q) (wd (6 * p + q) + 1), sn, wi + 1, sp) := by simp only [tn]; rw [if_pos h60]
    rw [e]
    exact t_ret k189_63
theorem m_windsIf (hP : F 42 0 1 = nI P) (hP6 : P ≤ 6) (hp : p < 6) (hq : q < 6) (hW : WKok F LW) (hd : 5 ≤ d) : ∃ A2, Tm E d 190 0 [some (vr 40 0), some (vi (nI p)), some (vi (nI q))] [] (cC x) (mF F s A) G (Rs b) (some (vi (b2i (decide (s.1 q < 10) && cwd (F 46 0) (F 49 0) (mAt F) s.1 s.2.1 (F 42 0 2) s.2.2.1 p q)))) (cC x, mF F (wl LW (F 46 0) (F 49 0) (mAt F) P (F 42 0 2) (F 42 0 3) p q s) A2, G, Rs b) := by
  obtain ⟨lf, wd, sn, wi, sp⟩ := s
  by_cases hy : (decide (lf q < 10) && cwd (F 46 0) (F 49 0) (mAt F) lf wd (F 42 0 2) sn p q) = true
  · obtain ⟨A2, ht⟩ := m_winds (E := E) (d := d - 1) (x := x) (G := G) (b := b) (A := A) (lf := lf) (wd := wd) (sn := sn) (wi := wi) (sp := sp) hP hP6 hp hq hW (by omega)
    refine ⟨A2, ?_⟩
    have e : wl LW (F 46 0) (F 49 0) (mAt F) P (F 42 0 2) (F 42 0 3) p q (lf, wd, sn, wi, sp) = tn LW (F 46 0) (mAt F) P (F 42 0 3) p q (lf, wd, sn, wi, sp) := by unfold wl; rw [if_pos hy]
    rw [hy, e]
    have hy2 := hy
    rw [cwd_mwd] at hy2
    simp only [Bool.and_eq_true, decide_eq_true_eq] at hy2
    refine t_run 1 rfl ?_
    refine t_gR k190_1 (by first | assumption | exact Nat.le_of_ble_eq_true rfl | omega) ⟨rfl, rfl, rfl⟩ rfl ?_
    refine t_run 3 rfl ?_
    refine t_ia (N := 50) k190_8 (by decide) (by first | assumption | exact Nat.le_of_ble_eq_true rfl | omega) ⟨⟨rfl, rfl⟩, rfl, rfl⟩ (by first | assumption | omega) (nI_add 8 _) ?_
    rw [mr_lf hq]
    refine t_run 1 rfl ?_
    refine t_ic_gt k190_11 (fun h11 => ?_) (fun h11 => ?_)
    · exact absurd hy2.1 (by rw [← lt10]; exact fun h => h h11)
    · refine t_run 3 rfl ?_
      refine t_call 3 k190_17 (by omega) (Nat.le_of_ble_eq_true rfl) rfl (Nat.le_of_ble_eq_true rfl) (Nat.le_of_ble_eq_true rfl) (recv_ok rfl (by first | assumption | exact Nat.le_of_ble_eq_true rfl | omega)) rfl (m_mightS hp hq (by omega)) rfl ?_
      refine t_if_eq k190_20 (fun h20 => ?_) (fun h20 => ?_)
      · rw [b2i0] at h20
        exact absurd hy2.2.1 (by simp [h20])
      · refine t_run 2 rfl ?_
        refine t_call 2 k190_25 (by omega) (Nat.le_of_ble_eq_true rfl) rfl (Nat.le_of_ble_eq_true rfl) (Nat.le_of_ble_eq_true rfl) (recv_ok rfl (by first | assumption | exact Nat.le_of_ble_eq_true rfl | omega)) rfl (m_canBeS hq (by omega)) rfl ?_
        refine t_if_ne k190_28 (fun h28 => ?_) (fun h28 => ?_)
        · refine t_run 3 rfl ?_
          refine t_call 3 k190_36 (by omega) (Nat.le_of_ble_eq_true rfl) rfl (Nat.le_of_ble_eq_true rfl) (Nat.le_of_ble_eq_true rfl) (recv_ok rfl (by first | assumption | exact Nat.le_of_ble_eq_true rfl | omega)) rfl ht rfl ?_
          refine t_run 1 rfl ?_
          exact t_ir k190_40 rfl (by rfl)
        · rw [b2i0] at h28
          exact absurd hy2.2.2 (by simpa using h28)
  · refine ⟨A, ?_⟩
    have e : wl LW (F 46 0) (F 49 0) (mAt F) P (F 42 0 2) (F 42 0 3) p q (lf, wd, sn, wi, sp) = (lf, wd, sn, wi, sp) := by unfold wl; rw [if_neg hy]
    simp only [Bool.not_eq_true] at hy
    rw [hy, e]
    have hy2 := hy
    rw [cwd_mwd] at hy2
    refine t_run 1 rfl ?_
    refine t_gR k190_1 (by first | assumption | exact Nat.le_of_ble_eq_true rfl | omega) ⟨rfl, rfl, rfl⟩ rfl ?_
    refine t_run 3 rfl ?_
    refine t_ia (N := 50) k190_8 (by decide) (by first | assumption | exact Nat.le_of_ble_eq_true rfl | omega) ⟨⟨rfl, rfl⟩, rfl, rfl⟩ (by first | assumption | omega) (nI_add 8 _) ?_
    rw [mr_lf hq]
    refine t_run 1 rfl ?_
    refine t_ic_gt k190_11 (fun h11 => ?_) (fun h11 => ?_)
    · refine t_run 1 rfl ?_
      exact t_ir k190_32 rfl (by rfl)
    · refine t_run 3 rfl ?_
      refine t_call 3 k190_17 (by omega) (Nat.le_of_ble_eq_true rfl) rfl (Nat.le_of_ble_eq_true rfl) (Nat.le_of_ble_eq_true rfl) (recv_ok rfl (by first | assumption | exact Nat.le_of_ble_eq_true rfl | omega)) rfl (m_mightS hp hq (by omega)) rfl ?_
      refine t_if_eq k190_20 (fun h20 => ?_) (fun h20 => ?_)
      · refine t_run 1 rfl ?_
        exact t_ir k190_32 rfl (by rfl)
      · refine t_run 2 rfl ?_
        refine t_call 2 k190_25 (by omega) (Nat.le_of_ble_eq_true rfl) rfl (Nat.le_of_ble_eq_true rfl) (Nat.le_of_ble_eq_true rfl) (recv_ok rfl (by first | assumption | exact Nat.le_of_ble_eq_true rfl | omega)) rfl (m_canBeS hq (by omega)) rfl ?_
        refine t_if_ne k190_28 (fun h28 => ?_) (fun h28 => ?_)
        · exfalso
          rw [b2i0, Bool.not_eq_false] at h20 h28
          rw [lt10] at h11
          rw [h20, h28] at hy2
          simp [h11] at hy2
        · refine t_run 1 rfl ?_
          exact t_ir k190_32 rfl (by rfl)
end M3
