/-! PERSONS AND NUMBERS OF A LAND, READ BY THE REFERENCE -/
theorem MLb.ex {F : FT} {G : GT} {B : LB} {k : Nat} {v : Int32} (h : MLb F G B) (hk : k = 46 ∨ k = 47) : MLb (uF F k 0 (6 + bP B) v) G B := by
  obtain ⟨⟨a1, a2, a3, a4, a5, a6, a7, a8, a9, a10, a11, a12⟩, c⟩ := h
  refine ⟨⟨?_, ?_, ?_, ?_, fun i hi => ?_, fun i hi => ?_, fun i hi => ?_, fun i hi => ?_, fun i hi => ?_, a10, a11, ?_⟩, c.fr (by rw [uF_q (by omega)]) (fun k x y => by rw [uF_k (by omega)])⟩
  · rw [uF_q (by omega)]; exact a1
  · rw [uF_q (by omega)]; exact a2
  · rw [uF_q (by omega)]; exact a3
  · rw [uF_q (by omega)]; exact a4
  · rw [uF_q (by omega)]; exact a5 i hi
  · rw [uF_q (by omega)]; exact a6 i hi
  · rw [uF_q (by omega)]; exact a7 i hi
  · rw [uF_q (by omega)]; exact a8 i hi
  · rw [uF_q (by omega)]; exact a9 i hi
  · rw [uF_q (by omega)]; exact a12
def setF (B : LB) (f : Bool × Bool) : LB := (B.1, B.2.1, B.2.2.1, f, B.2.2.2.2)
theorem MLb.fl {F : FT} {G : GT} {B : LB} {f : Bool × Bool} (h : MLb F G B) : MLb (uF F 40 0 22 (flI f)) G (setF B f) := by
  obtain ⟨⟨a1, a2, a3, a4, a5, a6, a7, a8, a9, a10, a11, a12⟩, c⟩ := h
  refine ⟨⟨?_, ?_, ?_, ?_, fun i hi => ?_, fun i hi => ?_, fun i hi => ?_, fun i hi => ?_, fun i hi => ?_, a10, a11, uF_e⟩, c.fr (by rw [uF_q (by omega)]) (fun k x y => by rw [uF_k (by omega)])⟩
  · rw [uF_q (by omega)]; exact a1
  · rw [uF_q (by omega)]; exact a2
  · rw [uF_q (by omega)]; exact a3
  · rw [uF_q (by omega)]; exact a4
  · rw [uF_q (by omega)]; exact a5 i hi
  · rw [uF_q (by omega)]; exact a6 i hi
  · rw [uF_q (by omega)]; exact a7 i hi
  · rw [uF_q (by omega)]; exact a8 i hi
  · rw [uF_q (by omega)]; exact a9 i hi
theorem MLb.n6 {F : FT} {G : GT} {B : LB} {v : Nat} (h : MLb F G (setF B (true, (bF B).2))) : MLb (uF F 42 0 6 (nI v)) G (setSo B v) := by
  obtain ⟨⟨a1, a2, a3, a4, a5, a6, a7, a8, a9, a10, a11, a12⟩, c⟩ := h
  have RW : ∀ r i, bR (setSo B v) r i = updR (bR B) 5 0 (nI v) r i := fun _ _ => rfl
  refine ⟨⟨?_, ?_, ?_, ?_, fun i hi => ?_, fun i hi => ?_, fun i hi => ?_, fun i hi => ?_, fun i hi => ?_, a10, a11, ?_⟩, c.fr (by rw [uF_q (by omega)]) (fun k x y => by rw [uF_k (by omega)])⟩
  · rw [uF_q (by omega)]; exact a1
  · rw [uF_q (by omega)]; exact a2
  · rw [uF_e, RW]; simp [updR]
  · rw [uF_q (by omega), RW]; simp [updR]; exact a4
  · rw [uF_q (by omega), RW]; simp only [updR]; rw [if_neg (by omega)]; exact a5 i hi
  · rw [uF_q (by omega), RW]; simp only [updR]; rw [if_neg (by omega)]; exact a6 i hi
  · rw [uF_q (by omega), RW]; simp only [updR]; rw [if_neg (by omega)]; exact a7 i hi
  · rw [uF_q (by omega), RW]; simp only [updR]; rw [if_neg (by omega)]; exact a8 i hi
  · rw [uF_q (by omega), RW]; simp only [updR]; rw [if_neg (by omega)]; exact a9 i hi
  · rw [uF_q (by omega)]; exact a12
theorem MLb.n7 {F : FT} {G : GT} {B : LB} {v : Nat} (h : MLb F G (setF B ((bF B).1, true))) : MLb (uF F 42 0 7 (nI v)) G (setSp B v) := by
  obtain ⟨⟨a1, a2, a3, a4, a5, a6, a7, a8, a9, a10, a11, a12⟩, c⟩ := h
  have RW : ∀ r i, bR (setSp B v) r i = updR (bR B) 5 1 (nI v) r i := fun _ _ => rfl
  refine ⟨⟨?_, ?_, ?_, ?_, fun i hi => ?_, fun i hi => ?_, fun i hi => ?_, fun i hi => ?_, fun i hi => ?_, a10, a11, ?_⟩, c.fr (by rw [uF_q (by omega)]) (fun k x y => by rw [uF_k (by omega)])⟩
  · rw [uF_q (by omega)]; exact a1
  · rw [uF_q (by omega)]; exact a2
  · rw [uF_q (by omega), RW]; simp [updR]; exact a3
  · rw [uF_e, RW]; simp [updR]
  · rw [uF_q (by omega), RW]; simp only [updR]; rw [if_neg (by omega)]; exact a5 i hi
  · rw [uF_q (by omega), RW]; simp only [updR]; rw [if_neg (by omega)]; exact a6 i hi
  · rw [uF_q (by omega), RW]; simp only [updR]; rw [if_neg (by omega)]; exact a7 i hi
  · rw [uF_q (by omega), RW]; simp only [updR]; rw [if_neg (by omega)]; exact a8 i hi
  · rw [uF_q (by omega), RW]; simp only [updR]; rw [if_neg (by omega)]; exact a9 i hi
  · rw [uF_q (by omega)]; exact a12
theorem flI_2 : ∀ f : Bool × Bool, (ibop 3 (ibop 7 (flI f) 2) 1 = 1) = (f.1 = true) := by
  intro ⟨a, c⟩
  cases a <;> cases c <;> simp [flI] <;> decide
theorem flI_3 : ∀ f : Bool × Bool, (ibop 3 (ibop 7 (flI f) 3) 1 = 1) = (f.2 = true) := by
  intro ⟨a, c⟩
  cases a <;> cases c <;> simp [flI] <;> decide
theorem flI_s2 : ∀ f : Bool × Bool, ibop 4 (flI f) (ibop 6 1 2) = flI (true, f.2) := by
  intro ⟨a, c⟩
  cases a <;> cases c <;> decide
theorem flI_s3 : ∀ f : Bool × Bool, ibop 4 (flI f) (ibop 6 1 3) = flI (f.1, true) := by
  intro ⟨a, c⟩
  cases a <;> cases c <;> decide
def sPn2 (t : TP) (q : Nat) (B : LB) (w : List Nat) : Nat ⊕ (Nat × LB) := if kdN t q = -1 then .inl (1 + 16 * q) else bnd (pWord t (tN t q) 9) (fun p4 => bnd (numH t p4 (fdS B (tW t p4))) (fun a => bnd (pWord t (tN t p4) 10) (fun p6 => bnd (pNum t p6 0 99) (fun p7 => .inr (tN t p7, addPn B w (kdN t q) a (tV t p7))))))
theorem bnd_i {α β : Type} {a : α} {f : α → Nat ⊕ β} : bnd (.inr a) f = f a := rfl
theorem bnd_e {α β : Type} {e : Nat} {f : α → Nat ⊕ β} : bnd (.inl e) f = .inl e := rfl
theorem kdN_ge {t : TP} {q : Nat} : (0 ≤ kdN t q) = (¬ kdN t q = -1) := by
  unfold kdN
  apply propext
  split
  · decide
  · split
    · decide
    · split
      · decide
      · split <;> decide
section TD2
variable {E : EV} {d x p n : Nat} {F : FT} {G : GT} {b : Bool} {t : TP} {B : LB} {u v w : Int32}
theorem m_person2 {F0 : FT} {G0 : GT} {q : Nat} {ww : List Nat} {kd : Int32} (hd : 10 ≤ d) (hB : MLb F G B) (hw : wfB B) (hP : bP B < 6) (h : MRd F G t q) (hk : kd = kdN t q) (fr : MFr F0 G0 F G) : Td E d 159 102 [some (vr 40 0), some (vi (nI (6 + bP B))), some (vl (w27 ww)), none] [vi kd, vi (nI (6 + bP B)), vr 46 0] x F G b (some (vi (b2i (okB (oS t (sPn2 t q B ww)))))) (MSo t F0 G0 (oS t (sPn2 t q B ww))) := by
  obtain ⟨a0, a1, a2, a3, a4, a5, a6, a7, a8, a9, a10, a11, a12, a13, a14, a15, a16, a17, a18, a19, a20, a21, a22, a23⟩ := kw27
  subst hk
  have hS := hw.1
  refine d_is (N := 12) (j := 6 + bP B) k159_102 (by first | assumption | exact Nat.le_of_ble_eq_true rfl | omega) ⟨rfl, rfl⟩ (show 6 + bP B < 12 by omega) rfl ?_
  have b1 : MLb (uF F 46 0 (6 + bP B) (kdN t q)) G B := hB.ex (by omega)
  have f1 : MFr F0 G0 (uF F 46 0 (6 + bP B) (kdN t q)) G := fr.u rfl (by unfold kpF; omega)
  have r1 : MRd (uF F 46 0 (6 + bP B) (kdN t q)) G t q := h.k (by decide) (by decide)
  refine d_run 1 rfl ?_
  refine d_gR k159_104 (by first | assumption | exact Nat.le_of_ble_eq_true rfl | omega) ⟨rfl, rfl, rfl⟩ rfl ?_
  refine d_run 1 rfl ?_
  refine d_ia (N := 12) (j := 6 + bP B) k159_108 (by decide) (by first | assumption | exact Nat.le_of_ble_eq_true rfl | omega) ⟨⟨rfl, rfl⟩, rfl, rfl⟩ (show 6 + bP B < 12 by omega) rfl ?_
  rw [uF_e]
  refine d_if_ge k159_109 (fun h109 => ?_) (fun h109 => ?_)
  · rw [kdN_ge] at h109
    rw [show sPn2 t q B ww = _ by unfold sPn2; rw [if_neg h109]]
    refine d_run 1 rfl ?_
    refine d_call 1 k159_119 (by omega) (Nat.le_of_ble_eq_true rfl) rfl (Nat.le_of_ble_eq_true rfl) (Nat.le_of_ble_eq_true rfl) (recv_ok rfl (by first | assumption | exact Nat.le_of_ble_eq_true rfl | omega)) rfl (m_nx (by omega) r1) rfl ?_
    rintro F1 G1 ⟨h1, n1⟩
    refine d_run 2 rfl ?_
    refine d_call 2 k159_126 (by omega) (Nat.le_of_ble_eq_true rfl) rfl (Nat.le_of_ble_eq_true rfl) (Nat.le_of_ble_eq_true rfl) (recv_ok rfl (by first | assumption | exact Nat.le_of_ble_eq_true rfl | omega)) rfl (m_needW (n := 9) a3 (by decide) (by decide) (by decide) (by omega) h1) rfl ?_
    rintro F2 G2 o2
    have k2 := n1.q.tr o2.q
    obtain ⟨_, z2⟩ := o2
    refine d_if_eq k159_129 (fun h129 => ?_) (fun h129 => ?_)
    · rw [b2i0] at h129
      obtain ⟨f, ef⟩ := okB_f h129
      rw [ef] at z2 ⊢
      refine d_run 1 rfl ?_
      refine d_ib k159_141 (by rfl) ?_
      first | exact ⟨f1.tr k2.fr, z2⟩ | exact ⟨f1.tr k3.fr, z3⟩
    · rw [b2i0, Bool.not_eq_false] at h129
      obtain ⟨p4, ep4⟩ := okB_t h129
      rw [ep4] at z2 ⊢
      rw [bnd_i]
      obtain ⟨h2, _⟩ := z2
      have b2 := b1.q k2
      refine d_run 2 rfl ?_
      refine d_call 2 k159_134 (by omega) (Nat.le_of_ble_eq_true rfl) rfl (Nat.le_of_ble_eq_true rfl) (Nat.le_of_ble_eq_true rfl) (recv_ok rfl (by first | assumption | exact Nat.le_of_ble_eq_true rfl | omega)) rfl (m_needS (S := bS B) (r := 1) (nm := (bN B).1) (by omega) (by decide) b2.1.1 hS b2.1.2.2.2.2.2.2.2.2.2.1 hw.2.2.1 h2) rfl ?_
      rintro F3 G3 n3
      have k3 := k2.tr n3.q
      have h3 := n3.1
      have z3 := n3.2.2.2.2
      refine d_if_ne k159_137 (fun h137 => ?_) (fun h137 => ?_)
      · rw [b2i0, Bool.not_eq_false] at h137
        obtain ⟨a, ea⟩ := okB_t h137
        rw [ea] at z3 ⊢
        rw [bnd_i]
        have z3 : F3 40 0 35 = nI a := z3
        have b3 := (b1.q k3).ex (k := 47) (v := nI a) (by omega)
        have f3 := (f1.tr k3.fr).u (k := 47) (i := 6 + bP B) (v := nI a) rfl (by unfold kpF; omega)
        refine d_run 1 rfl ?_
        refine d_gR k159_143 (by first | assumption | exact Nat.le_of_ble_eq_true rfl | omega) ⟨rfl, rfl, rfl⟩ rfl ?_
        refine d_run 2 rfl ?_
        refine d_gI k159_148 (by first | assumption | exact Nat.le_of_ble_eq_true rfl | omega) ⟨rfl, rfl, Or.inl rfl⟩ ?_
        rw [z3]
        refine d_is (N := 12) (j := 6 + bP B) k159_151 (by first | assumption | exact Nat.le_of_ble_eq_true rfl | omega) ⟨rfl, rfl⟩ (show 6 + bP B < 12 by omega) rfl ?_
        refine d_run 1 rfl ?_
        refine d_call 1 k159_153 (by omega) (Nat.le_of_ble_eq_true rfl) rfl (Nat.le_of_ble_eq_true rfl) (Nat.le_of_ble_eq_true rfl) (recv_ok rfl (by first | assumption | exact Nat.le_of_ble_eq_true rfl | omega)) rfl (m_nx (by omega) (h3.k (by decide) (by decide))) rfl ?_
        rintro F4 G4 ⟨h4, n4⟩
        refine d_run 2 rfl ?_
        refine d_call 2 k159_160 (by omega) (Nat.le_of_ble_eq_true rfl) rfl (Nat.le_of_ble_eq_true rfl) (Nat.le_of_ble_eq_true rfl) (recv_ok rfl (by first | assumption | exact Nat.le_of_ble_eq_true rfl | omega)) rfl (m_needW (n := 10) a4 (by decide) (by decide) (by decide) (by omega) h4) rfl ?_
        rintro F5 G5 o5
        have k5 := n4.q.tr o5.q
        obtain ⟨_, z5⟩ := o5
        refine d_if_eq k159_163 (fun h163 => ?_) (fun h163 => ?_)
        · rw [b2i0] at h163
          obtain ⟨f, ef⟩ := okB_f h163
          rw [ef] at z5 ⊢
          rw [bnd_e]
          refine d_run 1 rfl ?_
          refine d_ib k159_177 (by rfl) ?_
          first | exact ⟨f3.tr k5.fr, z5⟩ | exact ⟨f3.tr k6.fr, z6⟩
        · rw [b2i0, Bool.not_eq_false] at h163
          obtain ⟨p6, ep6⟩ := okB_t h163
          rw [ep6] at z5 ⊢
          rw [bnd_i]
          obtain ⟨h5, _⟩ := z5
          refine d_run 3 rfl ?_
          refine d_call 3 k159_170 (by omega) (Nat.le_of_ble_eq_true rfl) rfl (Nat.le_of_ble_eq_true rfl) (Nat.le_of_ble_eq_true rfl) (recv_ok rfl (by first | assumption | exact Nat.le_of_ble_eq_true rfl | omega)) rfl (m_needN (lo := 0) (hi := 99) (by decide) (by decide) (by omega) h5) rfl ?_
          rintro F6 G6 ⟨q6, z6⟩
          have k6 := k5.tr q6
          refine d_if_ne k159_173 (fun h173 => ?_) (fun h173 => ?_)
          · rw [b2i0, Bool.not_eq_false] at h173
            obtain ⟨p7, ep7⟩ := okB_t h173
            rw [ep7] at z6 ⊢
            rw [bnd_i]
            obtain ⟨h6, z35, _⟩ := z6
            have b6 := b3.q k6
            have f6 := f3.tr k6.fr
            have e46 : F6 46 0 (6 + bP B) = kdN t q := by rw [k6.2.1 46 rfl, uF_k (by decide), k3.2.1 46 rfl, uF_e]
            have e47 : F6 47 0 (6 + bP B) = nI a := by rw [k6.2.1 47 rfl, uF_e]
            refine d_run 1 rfl ?_
            refine d_gR k159_179 (by first | assumption | exact Nat.le_of_ble_eq_true rfl | omega) ⟨rfl, rfl, rfl⟩ rfl ?_
            refine d_run 2 rfl ?_
            refine d_gI k159_184 (by first | assumption | exact Nat.le_of_ble_eq_true rfl | omega) ⟨rfl, rfl, Or.inl rfl⟩ ?_
            rw [z35]
            refine d_is (N := 12) (j := 6 + bP B) k159_187 (by first | assumption | exact Nat.le_of_ble_eq_true rfl | omega) ⟨rfl, rfl⟩ (show 6 + bP B < 12 by omega) rfl ?_
            refine d_run 1 rfl ?_
            refine d_gR k159_189 (by first | assumption | exact Nat.le_of_ble_eq_true rfl | omega) ⟨rfl, rfl, rfl⟩ rfl ?_
            refine d_run 2 rfl ?_
            refine d_is (N := 12) (j := 6 + bP B) k159_194 (by first | assumption | exact Nat.le_of_ble_eq_true rfl | omega) ⟨rfl, rfl⟩ (show 6 + bP B < 12 by omega) rfl ?_
            refine d_run 1 rfl ?_
            refine d_gR k159_196 (by first | assumption | exact Nat.le_of_ble_eq_true rfl | omega) ⟨rfl, rfl, rfl⟩ rfl ?_
            refine d_run 2 rfl ?_
            refine d_ls (N := 12) (j := 6 + bP B) k159_201 (by first | assumption | exact Nat.le_of_ble_eq_true rfl | omega) ⟨rfl, rfl⟩ (show 6 + bP B < 12 by omega) rfl ?_
            refine d_run 1 rfl ?_
            refine d_gR k159_203 (by first | assumption | exact Nat.le_of_ble_eq_true rfl | omega) ⟨rfl, rfl, rfl⟩ rfl ?_
            refine d_run 2 rfl ?_
            refine d_ia (N := 8) (j := 5) k159_208 (by decide) (by first | assumption | exact Nat.le_of_ble_eq_true rfl | omega) ⟨⟨rfl, rfl⟩, rfl, rfl⟩ (by decide) rfl ?_
            rw [uF_k (by decide), uF_k (by decide), b6.1.2.1]
            refine d_run 2 rfl ?_
            rw [show ibop 0 (nI (bP B)) 1 = nI (bP B + 1) from nI_1 _]
            refine d_is (N := 8) (j := 5) k159_211 (by first | assumption | exact Nat.le_of_ble_eq_true rfl | omega) ⟨rfl, rfl⟩ (by decide) rfl ?_
            refine d_run 1 rfl ?_
            refine d_call 1 k159_213 (by omega) (Nat.le_of_ble_eq_true rfl) rfl (Nat.le_of_ble_eq_true rfl) (Nat.le_of_ble_eq_true rfl) (recv_ok rfl (by first | assumption | exact Nat.le_of_ble_eq_true rfl | omega)) rfl (m_closes (by omega) ((((h6.k (by decide) (by decide)).k (by decide) (by decide)).k (by decide) (by decide)).ug (by omega))) rfl ?_
            rintro F7 G7 o7
            refine d_ib k159_216 (by rw [oS_ok]) ?_
            exact MSo.cl ((((f6.u rfl (by unfold kpF; omega)).u rfl (by unfold kpF; omega)).u rfl (by unfold kpF; omega)).g (by omega) (by unfold kpG; omega)) (b6.aN e46 e47) o7
          · rw [b2i0] at h173
            obtain ⟨f, ef⟩ := okB_f h173
            rw [ef] at z6 ⊢
            rw [bnd_e]
            refine d_run 1 rfl ?_
            refine d_ib k159_177 (by rfl) ?_
            first | exact ⟨f3.tr k5.fr, z5⟩ | exact ⟨f3.tr k6.fr, z6⟩
      · rw [b2i0] at h137
        obtain ⟨f, ef⟩ := okB_f h137
        rw [ef] at z3 ⊢
        rw [bnd_e]
        refine d_run 1 rfl ?_
        refine d_ib k159_141 (by rfl) ?_
        first | exact ⟨f1.tr k2.fr, z2⟩ | exact ⟨f1.tr k3.fr, z3⟩
  · rw [kdN_ge, Decidable.not_not] at h109
    rw [show sPn2 t q B ww = .inl (1 + 16 * q) by unfold sPn2; rw [if_pos h109]]
    refine d_run 2 rfl ?_
    refine d_callT 2 k159_114 (by omega) (Nat.le_of_ble_eq_true rfl) rfl (Nat.le_of_ble_eq_true rfl) (Nat.le_of_ble_eq_true rfl) (recv_ok rfl (by first | assumption | exact Nat.le_of_ble_eq_true rfl | omega)) rfl (m_fails (c := 1) r1) rfl ?_
    refine d_ib k159_117 (by rfl) ?_
    exact MSo.f f1
theorem m_person (hd : 10 ≤ d) (hB : MLb F G B) (hw : wfB B) (h : MRd F G t p) : Td E d 159 0 [some (vr 40 0), none, none, none] [] x F G b (some (vi (b2i (okB (oS t (sPerson t p B)))))) (MSo t F G (oS t (sPerson t p B))) := by
  obtain ⟨a0, a1, a2, a3, a4, a5, a6, a7, a8, a9, a10, a11, a12, a13, a14, a15, a16, a17, a18, a19, a20, a21, a22, a23⟩ := kw27
  have hP := hw.2.1
  refine d_run 2 rfl ?_
  refine d_gR k159_3 (by first | assumption | exact Nat.le_of_ble_eq_true rfl | omega) ⟨rfl, rfl, rfl⟩ rfl ?_
  refine d_run 1 rfl ?_
  refine d_ia (N := 8) (j := 5) k159_7 (by decide) (by first | assumption | exact Nat.le_of_ble_eq_true rfl | omega) ⟨⟨rfl, rfl⟩, rfl, rfl⟩ (by decide) rfl ?_
  rw [hB.1.2.1]
  refine d_run 4 rfl ?_
  rw [show ibop 0 6 (nI (bP B)) = nI (6 + bP B) from nI_add 6 _]
  refine d_ic_ne k159_13 (fun h13 => ?_) (fun h13 => ?_)
  · have e12 : ¬ 6 ≤ bP B := fun e => h13 (by rw [show bP B = 6 by omega]; rfl)
    have eR : sPerson t p B = bnd (newN t (tN t p) B) (fun p1 => sPn2 t (tN t p1) B (tW t p1)) := by unfold sPerson; rw [if_neg e12]; rfl
    rw [eR]
    refine d_run 1 rfl ?_
    refine d_call 1 k159_23 (by omega) (Nat.le_of_ble_eq_true rfl) rfl (Nat.le_of_ble_eq_true rfl) (Nat.le_of_ble_eq_true rfl) (recv_ok rfl (by first | assumption | exact Nat.le_of_ble_eq_true rfl | omega)) rfl (m_nx (by omega) h) rfl ?_
    rintro F1 G1 ⟨h1, n1⟩
    have hB1 := hB.q n1.q
    refine d_run 1 rfl ?_
    refine d_call 1 k159_27 (by omega) (Nat.le_of_ble_eq_true rfl) rfl (Nat.le_of_ble_eq_true rfl) (Nat.le_of_ble_eq_true rfl) (recv_ok rfl (by first | assumption | exact Nat.le_of_ble_eq_true rfl | omega)) rfl (m_needNew (by omega) hB1 hw h1) rfl ?_
    rintro F2 G2 ⟨q2, z2⟩
    have hB2 := hB1.q q2
    have f2 := n1.q.fr.tr q2.fr
    refine d_if_ne k159_30 (fun h30 => ?_) (fun h30 => ?_)
    · rw [b2i0, Bool.not_eq_false] at h30
      obtain ⟨p1, ep1⟩ := okB_t h30
      rw [ep1] at z2 ⊢
      rw [bnd_i]
      obtain ⟨r2, g2⟩ := z2
      refine d_run 1 rfl ?_
      refine d_gL k159_36 (by first | assumption | exact Nat.le_of_ble_eq_true rfl | omega) ⟨rfl, rfl, rfl⟩ ?_
      rw [g2]
      refine d_run 2 rfl ?_
      refine d_gR k159_41 (by first | assumption | exact Nat.le_of_ble_eq_true rfl | omega) ⟨rfl, rfl, rfl⟩ rfl ?_
      refine d_run 3 rfl ?_
      refine d_callT 2 k159_49 (by omega) (Nat.le_of_ble_eq_true rfl) rfl (Nat.le_of_ble_eq_true rfl) (Nat.le_of_ble_eq_true rfl) (recv_ok rfl (by first | assumption | exact Nat.le_of_ble_eq_true rfl | omega)) rfl (m_isWd (n := 5) a13 (by decide) (by decide) (by decide) r2) rfl ?_
      refine d_if_eq k159_52 (fun h52 => ?_) (fun h52 => ?_)
      · rw [b2i0] at h52
        refine d_run 2 rfl ?_
        refine d_callT 2 k159_63 (by omega) (Nat.le_of_ble_eq_true rfl) rfl (Nat.le_of_ble_eq_true rfl) (Nat.le_of_ble_eq_true rfl) (recv_ok rfl (by first | assumption | exact Nat.le_of_ble_eq_true rfl | omega)) rfl (m_isWd (n := 6) a14 (by decide) (by decide) (by decide) r2) rfl ?_
        refine d_if_eq k159_66 (fun h66 => ?_) (fun h66 => ?_)
        · rw [b2i0] at h66
          refine d_run 2 rfl ?_
          refine d_callT 2 k159_77 (by omega) (Nat.le_of_ble_eq_true rfl) rfl (Nat.le_of_ble_eq_true rfl) (Nat.le_of_ble_eq_true rfl) (recv_ok rfl (by first | assumption | exact Nat.le_of_ble_eq_true rfl | omega)) rfl (m_isWd (n := 7) a15 (by decide) (by decide) (by decide) r2) rfl ?_
          refine d_if_eq k159_80 (fun h80 => ?_) (fun h80 => ?_)
          · rw [b2i0] at h80
            refine d_run 2 rfl ?_
            refine d_callT 2 k159_91 (by omega) (Nat.le_of_ble_eq_true rfl) rfl (Nat.le_of_ble_eq_true rfl) (Nat.le_of_ble_eq_true rfl) (recv_ok rfl (by first | assumption | exact Nat.le_of_ble_eq_true rfl | omega)) rfl (m_isWd (n := 8) a16 (by decide) (by decide) (by decide) r2) rfl ?_
            refine d_if_eq k159_94 (fun h94 => ?_) (fun h94 => ?_)
            · rw [b2i0] at h94
              refine d_run 1 rfl ?_
              exact m_person2 hd hB2 hw (by omega) r2 (by simp [kdN, *]) f2
            · rw [b2i0, Bool.not_eq_false] at h94
              refine d_run 2 rfl ?_
              exact m_person2 hd hB2 hw (by omega) r2 (by simp [kdN, *]) f2
          · rw [b2i0, Bool.not_eq_false] at h80
            refine d_run 2 rfl ?_
            exact m_person2 hd hB2 hw (by omega) r2 (by simp [kdN, *]) f2
        · rw [b2i0, Bool.not_eq_false] at h66
          refine d_run 2 rfl ?_
          exact m_person2 hd hB2 hw (by omega) r2 (by simp [kdN, *]) f2
      · rw [b2i0, Bool.not_eq_false] at h52
        refine d_run 2 rfl ?_
        exact m_person2 hd hB2 hw (by omega) r2 (by simp [kdN, *]) f2
    · rw [b2i0] at h30
      obtain ⟨f, ef⟩ := okB_f h30
      rw [ef] at z2 ⊢
      refine d_run 1 rfl ?_
      refine d_ib k159_34 (by rfl) ?_
      exact ⟨f2, z2⟩
  · have e12 : 6 + bP B = 12 := nI_inj (b := 12) h13 (by omega) (by omega)
    rw [show sPerson t p B = .inl (5 + 16 * p) by unfold sPerson; rw [if_pos (by omega)]]
    refine d_run 2 rfl ?_
    refine d_callT 2 k159_18 (by omega) (Nat.le_of_ble_eq_true rfl) rfl (Nat.le_of_ble_eq_true rfl) (Nat.le_of_ble_eq_true rfl) (recv_ok rfl (by first | assumption | exact Nat.le_of_ble_eq_true rfl | omega)) rfl (m_fails (c := 5) h) rfl ?_
    refine d_ib k159_21 (by rfl) ?_
    exact MSo.f MFr.rf
theorem m_tw2t {f : Bool × Bool} (h : F 40 0 22 = flI f) (hf : f.1 = true) : Tm E d 156 0 [some (vr 40 0), some (vi 2)] [] (cC x) F G (Rs b) (some (vi (b2i true))) (cC x, F, G, Rs b) := by
  refine t_run 1 rfl ?_
  refine t_gI k156_1 (by first | assumption | exact Nat.le_of_ble_eq_true rfl | omega) ⟨rfl, rfl, Or.inl rfl⟩ ?_
  rw [h]
  refine t_run 5 rfl ?_
  refine t_ic_ne k156_9 (fun h9 => ?_) (fun h9 => ?_)
  · exact absurd ((flI_2 f).mpr hf) h9
  · refine t_run 1 rfl ?_
    exact t_ib k156_13 (by rfl)
theorem m_tw2f {f : Bool × Bool} (h : F 40 0 22 = flI f) (hf : f.1 = false) : Tm E d 156 0 [some (vr 40 0), some (vi 2)] [] (cC x) F G (Rs b) (some (vi (b2i false))) (cC x, uF F 40 0 22 (flI (true, f.2)), G, Rs b) := by
  refine t_run 1 rfl ?_
  refine t_gI k156_1 (by first | assumption | exact Nat.le_of_ble_eq_true rfl | omega) ⟨rfl, rfl, Or.inl rfl⟩ ?_
  rw [h]
  refine t_run 5 rfl ?_
  refine t_ic_ne k156_9 (fun h9 => ?_) (fun h9 => ?_)
  · refine t_run 2 rfl ?_
    refine t_gI k156_16 (by first | assumption | exact Nat.le_of_ble_eq_true rfl | omega) ⟨rfl, rfl, Or.inl rfl⟩ ?_
    rw [h]
    refine t_run 4 rfl ?_
    rw [flI_s2]
    refine t_pI k156_23 (by first | assumption | exact Nat.le_of_ble_eq_true rfl | omega) ⟨rfl, rfl⟩ ?_
    refine t_run 1 rfl ?_
    exact t_ib k156_27 (by rfl)
  · exact absurd ((flI_2 f).mp h9) (by rw [hf]; decide)
theorem m_tw3t {f : Bool × Bool} (h : F 40 0 22 = flI f) (hf : f.2 = true) : Tm E d 156 0 [some (vr 40 0), some (vi 3)] [] (cC x) F G (Rs b) (some (vi (b2i true))) (cC x, F, G, Rs b) := by
  refine t_run 1 rfl ?_
  refine t_gI k156_1 (by first | assumption | exact Nat.le_of_ble_eq_true rfl | omega) ⟨rfl, rfl, Or.inl rfl⟩ ?_
  rw [h]
  refine t_run 5 rfl ?_
  refine t_ic_ne k156_9 (fun h9 => ?_) (fun h9 => ?_)
  · exact absurd ((flI_3 f).mpr hf) h9
  · refine t_run 1 rfl ?_
    exact t_ib k156_13 (by rfl)
theorem m_tw3f {f : Bool × Bool} (h : F 40 0 22 = flI f) (hf : f.2 = false) : Tm E d 156 0 [some (vr 40 0), some (vi 3)] [] (cC x) F G (Rs b) (some (vi (b2i false))) (cC x, uF F 40 0 22 (flI (f.1, true)), G, Rs b) := by
  refine t_run 1 rfl ?_
  refine t_gI k156_1 (by first | assumption | exact Nat.le_of_ble_eq_true rfl | omega) ⟨rfl, rfl, Or.inl rfl⟩ ?_
  rw [h]
  refine t_run 5 rfl ?_
  refine t_ic_ne k156_9 (fun h9 => ?_) (fun h9 => ?_)
  · refine t_run 2 rfl ?_
    refine t_gI k156_16 (by first | assumption | exact Nat.le_of_ble_eq_true rfl | omega) ⟨rfl, rfl, Or.inl rfl⟩ ?_
    rw [h]
    refine t_run 4 rfl ?_
    rw [flI_s3]
    refine t_pI k156_23 (by first | assumption | exact Nat.le_of_ble_eq_true rfl | omega) ⟨rfl, rfl⟩ ?_
    refine t_run 1 rfl ?_
    exact t_ib k156_27 (by rfl)
  · exact absurd ((flI_3 f).mp h9) (by rw [hf]; decide)
theorem m_soon (hd : 10 ≤ d) (hB : MLb F G B) (h : MRd F G t p) : Td E d 161 0 [some (vr 40 0), some (vi 2), some (vi 9)] [] x F G b (some (vi (b2i (okB (oS t (sSoon t p B)))))) (MSo t F G (oS t (sSoon t p B))) := by
  have h22 := hB.1.2.2.2.2.2.2.2.2.2.2.2
  by_cases hf : (bF B).1 = true
  · rw [show sSoon t p B = .inl (3 + 16 * p) by unfold sSoon; rw [if_pos hf]]
    refine d_run 2 rfl ?_
    refine d_callT 2 k161_2 (by omega) (Nat.le_of_ble_eq_true rfl) rfl (Nat.le_of_ble_eq_true rfl) (Nat.le_of_ble_eq_true rfl) (recv_ok rfl (by first | assumption | exact Nat.le_of_ble_eq_true rfl | omega)) rfl (m_tw2t h22 hf) rfl ?_
    refine d_if_eq k161_5 (fun h5 => ?_) (fun h5 => ?_)
    · exact absurd h5 (by decide)
    · refine d_run 2 rfl ?_
      refine d_callT 2 k161_10 (by omega) (Nat.le_of_ble_eq_true rfl) rfl (Nat.le_of_ble_eq_true rfl) (Nat.le_of_ble_eq_true rfl) (recv_ok rfl (by first | assumption | exact Nat.le_of_ble_eq_true rfl | omega)) rfl (m_fails (c := 3) h) rfl ?_
      refine d_ib k161_13 (by rfl) ?_
      exact MSo.f MFr.rf
  · rw [show sSoon t p B = _ by unfold sSoon; rw [if_neg hf]]
    rw [Bool.not_eq_true] at hf
    have b1 := hB.fl (f := (true, (bF B).2))
    have f1 : MFr F G (uF F 40 0 22 (flI (true, (bF B).2))) G := MFr.rf.u rfl (by unfold kpF; omega)
    refine d_run 2 rfl ?_
    refine d_callT 2 k161_2 (by omega) (Nat.le_of_ble_eq_true rfl) rfl (Nat.le_of_ble_eq_true rfl) (Nat.le_of_ble_eq_true rfl) (recv_ok rfl (by first | assumption | exact Nat.le_of_ble_eq_true rfl | omega)) rfl (m_tw2f h22 hf) rfl ?_
    refine d_if_eq k161_5 (fun h5 => ?_) (fun h5 => ?_)
    · refine d_run 1 rfl ?_
      refine d_call 1 k161_15 (by omega) (Nat.le_of_ble_eq_true rfl) rfl (Nat.le_of_ble_eq_true rfl) (Nat.le_of_ble_eq_true rfl) (recv_ok rfl (by first | assumption | exact Nat.le_of_ble_eq_true rfl | omega)) rfl (m_nx (by omega) (h.u (by omega))) rfl ?_
      rintro F1 G1 ⟨h1, n1⟩
      refine d_run 3 rfl ?_
      refine d_call 3 k161_21 (by omega) (Nat.le_of_ble_eq_true rfl) rfl (Nat.le_of_ble_eq_true rfl) (Nat.le_of_ble_eq_true rfl) (recv_ok rfl (by first | assumption | exact Nat.le_of_ble_eq_true rfl | omega)) rfl (m_needN (lo := 1) (hi := 9) (by decide) (by decide) (by omega) h1) rfl ?_
      rintro F2 G2 ⟨q2, z2⟩
      have k2 := n1.q.tr q2
      refine d_if_ne k161_24 (fun h24 => ?_) (fun h24 => ?_)
      · rw [b2i0, Bool.not_eq_false] at h24
        obtain ⟨p1, ep1⟩ := okB_t h24
        rw [ep1] at z2 ⊢
        rw [bnd_i]
        obtain ⟨h2, z35, _⟩ := z2
        refine d_run 1 rfl ?_
        refine d_gR k161_30 (by first | assumption | exact Nat.le_of_ble_eq_true rfl | omega) ⟨rfl, rfl, rfl⟩ rfl ?_
        refine d_run 4 rfl ?_
        refine d_gI k161_37 (by first | assumption | exact Nat.le_of_ble_eq_true rfl | omega) ⟨rfl, rfl, Or.inl rfl⟩ ?_
        rw [z35]
        refine d_is (N := 8) (j := 6) k161_40 (by first | assumption | exact Nat.le_of_ble_eq_true rfl | omega) ⟨rfl, rfl⟩ (by decide) rfl ?_
        refine d_run 1 rfl ?_
        refine d_call 1 k161_42 (by omega) (Nat.le_of_ble_eq_true rfl) rfl (Nat.le_of_ble_eq_true rfl) (Nat.le_of_ble_eq_true rfl) (recv_ok rfl (by first | assumption | exact Nat.le_of_ble_eq_true rfl | omega)) rfl (m_closes (by omega) (h2.k (by decide) (by decide))) rfl ?_
        rintro F3 G3 o3
        refine d_ib k161_45 (by rw [oS_ok]) ?_
        exact MSo.cl ((f1.tr k2.fr).u rfl (by unfold kpF; omega)) (MLb.n6 (b1.q k2)) o3
      · rw [b2i0] at h24
        obtain ⟨f, ef⟩ := okB_f h24
        rw [ef] at z2 ⊢
        rw [bnd_e]
        refine d_run 1 rfl ?_
        refine d_ib k161_28 (by rfl) ?_
        exact ⟨f1.tr k2.fr, z2⟩
    · exact absurd rfl h5
theorem m_snap (hd : 10 ≤ d) (hB : MLb F G B) (h : MRd F G t p) : Td E d 161 0 [some (vr 40 0), some (vi 3), some (vi 99)] [] x F G b (some (vi (b2i (okB (oS t (sSnap t p B)))))) (MSo t F G (oS t (sSnap t p B))) := by
  have h22 := hB.1.2.2.2.2.2.2.2.2.2.2.2
  by_cases hf : (bF B).2 = true
  · rw [show sSnap t p B = .inl (3 + 16 * p) by unfold sSnap; rw [if_pos hf]]
    refine d_run 2 rfl ?_
    refine d_callT 2 k161_2 (by omega) (Nat.le_of_ble_eq_true rfl) rfl (Nat.le_of_ble_eq_true rfl) (Nat.le_of_ble_eq_true rfl) (recv_ok rfl (by first | assumption | exact Nat.le_of_ble_eq_true rfl | omega)) rfl (m_tw3t h22 hf) rfl ?_
    refine d_if_eq k161_5 (fun h5 => ?_) (fun h5 => ?_)
    · exact absurd h5 (by decide)
    · refine d_run 2 rfl ?_
      refine d_callT 2 k161_10 (by omega) (Nat.le_of_ble_eq_true rfl) rfl (Nat.le_of_ble_eq_true rfl) (Nat.le_of_ble_eq_true rfl) (recv_ok rfl (by first | assumption | exact Nat.le_of_ble_eq_true rfl | omega)) rfl (m_fails (c := 3) h) rfl ?_
      refine d_ib k161_13 (by rfl) ?_
      exact MSo.f MFr.rf
  · rw [show sSnap t p B = _ by unfold sSnap; rw [if_neg hf]]
    rw [Bool.not_eq_true] at hf
    have b1 := hB.fl (f := ((bF B).1, true))
    have f1 : MFr F G (uF F 40 0 22 (flI ((bF B).1, true))) G := MFr.rf.u rfl (by unfold kpF; omega)
    refine d_run 2 rfl ?_
    refine d_callT 2 k161_2 (by omega) (Nat.le_of_ble_eq_true rfl) rfl (Nat.le_of_ble_eq_true rfl) (Nat.le_of_ble_eq_true rfl) (recv_ok rfl (by first | assumption | exact Nat.le_of_ble_eq_true rfl | omega)) rfl (m_tw3f h22 hf) rfl ?_
    refine d_if_eq k161_5 (fun h5 => ?_) (fun h5 => ?_)
    · refine d_run 1 rfl ?_
      refine d_call 1 k161_15 (by omega) (Nat.le_of_ble_eq_true rfl) rfl (Nat.le_of_ble_eq_true rfl) (Nat.le_of_ble_eq_true rfl) (recv_ok rfl (by first | assumption | exact Nat.le_of_ble_eq_true rfl | omega)) rfl (m_nx (by omega) (h.u (by omega))) rfl ?_
      rintro F1 G1 ⟨h1, n1⟩
      refine d_run 3 rfl ?_
      refine d_call 3 k161_21 (by omega) (Nat.le_of_ble_eq_true rfl) rfl (Nat.le_of_ble_eq_true rfl) (Nat.le_of_ble_eq_true rfl) (recv_ok rfl (by first | assumption | exact Nat.le_of_ble_eq_true rfl | omega)) rfl (m_needN (lo := 1) (hi := 99) (by decide) (by decide) (by omega) h1) rfl ?_
      rintro F2 G2 ⟨q2, z2⟩
      have k2 := n1.q.tr q2
      refine d_if_ne k161_24 (fun h24 => ?_) (fun h24 => ?_)
      · rw [b2i0, Bool.not_eq_false] at h24
        obtain ⟨p1, ep1⟩ := okB_t h24
        rw [ep1] at z2 ⊢
        rw [bnd_i]
        obtain ⟨h2, z35, _⟩ := z2
        refine d_run 1 rfl ?_
        refine d_gR k161_30 (by first | assumption | exact Nat.le_of_ble_eq_true rfl | omega) ⟨rfl, rfl, rfl⟩ rfl ?_
        refine d_run 4 rfl ?_
        refine d_gI k161_37 (by first | assumption | exact Nat.le_of_ble_eq_true rfl | omega) ⟨rfl, rfl, Or.inl rfl⟩ ?_
        rw [z35]
        refine d_is (N := 8) (j := 7) k161_40 (by first | assumption | exact Nat.le_of_ble_eq_true rfl | omega) ⟨rfl, rfl⟩ (by decide) rfl ?_
        refine d_run 1 rfl ?_
        refine d_call 1 k161_42 (by omega) (Nat.le_of_ble_eq_true rfl) rfl (Nat.le_of_ble_eq_true rfl) (Nat.le_of_ble_eq_true rfl) (recv_ok rfl (by first | assumption | exact Nat.le_of_ble_eq_true rfl | omega)) rfl (m_closes (by omega) (h2.k (by decide) (by decide))) rfl ?_
        rintro F3 G3 o3
        refine d_ib k161_45 (by rw [oS_ok]) ?_
        exact MSo.cl ((f1.tr k2.fr).u rfl (by unfold kpF; omega)) (MLb.n7 (b1.q k2)) o3
      · rw [b2i0] at h24
        obtain ⟨f, ef⟩ := okB_f h24
        rw [ef] at z2 ⊢
        rw [bnd_e]
        refine d_run 1 rfl ?_
        refine d_ib k161_28 (by rfl) ?_
        exact ⟨f1.tr k2.fr, z2⟩
    · exact absurd rfl h5
end TD2
