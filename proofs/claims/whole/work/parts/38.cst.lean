/-! THE CLASS'S STATE: what its methods answer and do, of the state apart from its place -/
theorem uF_k {F : FT} {k n i k2 : Nat} {v : Int32} (h : k2 ≠ k) : uF F k n i v k2 = F k2 := by
  funext n2 i2
  simp [uF, h]
theorem uF_n {F : FT} {k n i k2 n2 : Nat} {v : Int32} (h : n2 ≠ n) : uF F k n i v k2 n2 = F k2 n2 := by
  funext i2
  simp [uF, h]
theorem uF_r {F : FT} {k n i : Nat} {v : Int32} : uF F k n i v k n = upd (F k n) i v := by
  funext i2
  simp [uF, upd]
section A1
variable {E : EV} {d n m p x l q w : Nat} {F : FT} {G : GT} {b : Bool} {A : LA} {s : ST} {st goes : Int32}
theorem CS.sn {P : Nat} (h : CS F n P s) : F 25 n 3 = sSn s := h.2.2.2.2.1
theorem CS.sit {P : Nat} (h : CS F n P s) (hp : p < P) : sit (F 27 n) (F 25 n 3) p = sitA s p := by
  rw [h.sn]
  exact sit_c (h.2.2.1 p hp)
theorem CS.stg {P : Nat} {kn : Nat → Int32} {so : Int32} (h : CS F n P s) (hk : kn p = lKn A p) (hso : so = lSo A) (hp : p < 6) (hq : q < 6) : strg kn (F 28 n) so p q = stgA A s p q := by
  rw [hso]
  exact strg_k hp hq hk h.2.2.2.1
theorem CS.cwk {P S : Nat} {ln : Nat → Int32} {a : Nat} (h : CS F n P s) (hl : eqR S ln (lLn A)) (hp : p < P) (ha : sAt s p = nI a) (haS : a < S) (hS : S ≤ 5) : cwk ln (F 26 n) (F 27 n) (F 25 n 3) p q = cwkA A s p q := by
  simp only [cwkA, _root_.Jvm.Pilot.@@N@@.cwk]
  rw [h.sit hp, h.1 p hp, ha, nI_clamp (by omega), hl a haS]
  rfl
theorem CS.off {P : Nat} {ki kn : Nat → Int32} {so : Int32} {o : Nat} (h : CS F n P s) (hki : ki o = lKi A o) (hk : kn p = lKn A p) (hso : so = lSo A) (hp : p < 6) (ho : o < P) (hP : P ≤ 6) : offr ki kn (F 26 n) (F 27 n) (F 28 n) so (F 25 n 3) p st o = offA A s p st o := by
  simp only [offA, offr]
  rw [h.sit ho, h.stg hk hso hp (by omega), h.1 o ho, hki]
  rfl
theorem CS.cwd {P : Nat} {ki kn : Nat → Int32} {so : Int32} (h : CS F n P s) (hki : eqR P ki (lKi A)) (hk : eqR P kn (lKn A)) (hso : so = lSo A) (hp : p < P) (hq : q < P) (hP : P ≤ 6) : cwd ki kn (F 26 n) (F 27 n) (F 28 n) so (F 25 n 3) p q = cwdA A s p q := by
  rw [hso]
  exact cwd_c (s := svF F n) hP h.2.2 hki hk h.1 hp hq
theorem a_snapped (hn : n < 27) {P : Nat} (h : CS F n P s) : Tm E d 46 0 [some (vr 25 n), some (vi (nI p))] [] (cC x) F G (Rs b) (some (vi (b2i (bit (sSn s) p)))) (cC x, F, G, Rs b) := by
  have k := c_isSnapped (E := E) (d := d) (x := x) (F := F) (G := G) (b := b) (p := p) hn
  rw [h.sn] at k
  exact k
theorem a_sits (hn : n < 27) {P : Nat} (h : CS F n P s) (hp : p < P) (hP : P ≤ 6) (hd : 1 ≤ d) : Tm E d 47 0 [some (vr 25 n), some (vi (nI p))] [] (cC x) F G (Rs b) (some (vi (b2i (sitA s p)))) (cC x, F, G, Rs b) := by
  have k := c_sits (E := E) (x := x) (F := F) (G := G) (b := b) (p := p) hn (by omega) hd
  rw [h.sit hp] at k
  exact k
theorem a_sitters (hn : n < 27) (hl : l < 2) (hL : CL F l A) (hA : wfL A) (h : CS F n (lP A) s) (hd : 2 ≤ d) : Tm E d 48 0 [some (vr 25 n), some (vr 9 l), none, none] [] (cC x) F G (Rs b) (some (vi (bset (sitA s) (lP A)))) (cC x, F, G, Rs b) := by
  have k := c_sitters (E := E) (x := x) (F := F) (G := G) (b := b) hn hl hL.2.1 hA.2.1 hd
  rw [bset_c (fun i hi => h.sit hi)] at k
  exact k
theorem a_leftAll (hn : n < 27) (hl : l < 2) (hL : CL F l A) (hA : wfL A) (h : CS F n (lP A) s) : Tm E d 49 0 [some (vr 25 n), some (vr 9 l), none, none] [] (cC x) F G (Rs b) (some (vi (isum (sLf s) (lP A)))) (cC x, F, G, Rs b) := by
  have k := c_leftAll (E := E) (d := d) (x := x) (F := F) (G := G) (b := b) hn hl hL.2.1 hA.2.1
  rw [isum_c h.2.2.1] at k
  exact k
theorem CL.kn (hL : CL F l A) : eqR (lP A) (F 16 l) (lKn A) := hL.2.2.2.2.2.2.2.2.1
theorem CL.ki (hL : CL F l A) : eqR (lP A) (F 13 l) (lKi A) := hL.2.2.2.2.2.1
theorem CL.ln (hL : CL F l A) : eqR (lS A) (F 11 l) (lLn A) := hL.2.2.2.2.1
theorem CL.so (hL : CL F l A) : F 9 l 11 = lSo A := hL.2.2.1
theorem CL.sp (hL : CL F l A) : F 9 l 12 = lSp A := hL.2.2.2.1
theorem CL.lw (hL : CL F l A) : ∃ N, LWok F l N (lW A) := hL.2.2.2.2.2.2.2.2.2
theorem a_stg (hn : n < 27) (hl : l < 2) (hL : CL F l A) (hA : wfL A) (h : CS F n (lP A) s) (hp : p < lP A) (hq : q < lP A) (hd : 1 ≤ d) : Tm E d 51 0 [some (vr 25 n), some (vr 9 l), some (vi (nI p)), some (vi (nI q))] [] (cC x) F G (Rs b) (some (vi (b2i (stgA A s p q)))) (cC x, F, G, Rs b) := by
  have h6 := hA.2.1
  have k := c_strg (E := E) (x := x) (F := F) (G := G) (b := b) (p := p) (q := q) hn hl (by omega) (by omega) hd
  rw [h.stg (hL.kn p hp) hL.so (by omega) (by omega)] at k
  exact k
theorem a_stgOf (hn : n < 27) (hl : l < 2) (hL : CL F l A) (hA : wfL A) (h : CS F n (lP A) s) (hp : p < lP A) (hd : 2 ≤ d) : Tm E d 52 0 [some (vr 25 n), some (vr 9 l), some (vi (nI p)), none, none] [] (cC x) F G (Rs b) (some (vi (bset (stgA A s p) (lP A)))) (cC x, F, G, Rs b) := by
  have h6 := hA.2.1
  have k := c_strgOf (E := E) (x := x) (F := F) (G := G) (b := b) (p := p) hn hl hL.2.1 hA.2.1 (by omega) hd
  rw [bset_c (fun i hi => h.stg (hL.kn p hp) hL.so (by omega) (by omega))] at k
  exact k
theorem a_canWalk (hn : n < 27) (hl : l < 2) (hL : CL F l A) (hA : wfL A) (h : CS F n (lP A) s) (hw : wfS A s) (hp : p < lP A) (hd : 2 ≤ d) : Tm E d 54 0 [some (vr 25 n), some (vr 9 l), some (vi (nI p)), some (vi (nI q))] [] (cC x) F G (Rs b) (some (vi (b2i (cwkA A s p q)))) (cC x, F, G, Rs b) := by
  have h6 := hA.2.1
  have h5 := hA.1
  obtain ⟨a, ha, e⟩ := hw.1 p hp
  have k := c_canWalk (E := E) (x := x) (F := F) (G := G) (b := b) (p := p) (q := q) hn hl (by omega) (a := a) (by rw [h.1 p hp]; exact e) (by omega) hd
  rw [h.cwk hL.ln hp e ha (by omega)] at k
  exact k
theorem a_offer (hn : n < 27) (hl : l < 2) (hL : CL F l A) (hA : wfL A) (h : CS F n (lP A) s) (hp : p < lP A) (hd : 2 ≤ d) : Tm E d 53 0 [some (vr 25 n), some (vr 9 l), some (vi (nI p)), some (vi st), none, none] [] (cC x) F G (Rs b) (some (vi (bset (offA A s p st) (lP A)))) (cC x, F, G, Rs b) := by
  have h6 := hA.2.1
  have k := c_offer (E := E) (x := x) (F := F) (G := G) (b := b) (p := p) (st := st) hn hl hL.2.1 hA.2.1 (by omega) hd
  rw [bset_c (fun i hi => h.off (hL.ki i hi) (hL.kn p hp) hL.so (by omega) hi hA.2.1)] at k
  exact k
theorem a_canWind (hn : n < 27) (hl : l < 2) (hL : CL F l A) (hA : wfL A) (h : CS F n (lP A) s) (hp : p < lP A) (hq : q < lP A) (hd : 2 ≤ d) : Tm E d 56 0 [some (vr 25 n), some (vr 9 l), some (vi (nI p)), some (vi (nI q))] [] (cC x) F G (Rs b) (some (vi (b2i (cwdA A s p q)))) (cC x, F, G, Rs b) := by
  have h6 := hA.2.1
  have k := c_canWind (E := E) (x := x) (F := F) (G := G) (b := b) (p := p) (q := q) hn hl (by omega) (by omega) hd
  rw [h.cwd hL.ki hL.kn hL.so hp hq hA.2.1] at k
  exact k
theorem fr18 {D : Nat → Nat → Bool} {v2 : Nat → Int32} (hD : D 18 l = true) : FrD D F (srow F 18 l v2) := by
  intro k m e
  funext j
  simp only [srow]
  rw [if_neg]
  rintro ⟨rfl, rfl⟩
  rw [hD] at e
  cases e
theorem a_given (hn : n < 27) (hl : l < 2) (hL : CL F l A) (hA : wfL A) (h : CS F n (lP A) s) (hp : p < lP A) (hq : q < lP A) (hd : 2 ≤ d) : Td E d 58 0 [some (vr 25 n), some (vr 9 l), some (vi (nI p)), some (vi (nI q)), some (vi goes), none, none] [] x F G b (some (vi (givA A s p q goes))) (fun F2 G2 => G2 = G ∧ FrD (fun k _ => decide (k = 18)) F F2) := by
  have h6 := hA.2.1
  obtain ⟨N, hN⟩ := hL.lw
  obtain ⟨v2, k⟩ := c_given (E := E) (x := x) (F := F) (G := G) (b := b) (p := p) (q := q) (goes := goes) hn hl hL.2.1 hA.2.1 (by omega) (by omega) hN hd
  have e : gvn (F 13 l) p (lW A goes (F 27 n p) (tog (F 28 n) p q) (crd (F 26 n) p q (lP A))) = givA A s p q goes := by
    have e1 : F 27 n p = sLf s p := h.2.2.1 p hp
    have e2 : tog (F 28 n) p q = tog (sWd s) p q := tog_c (by omega) (by omega) h.2.2.2.1
    rw [e1, e2, crd_c (h.1 q hq) h.1]
    simp only [givA, gvn, hL.ki p hp]
  rw [e] at k
  exact td_T k ⟨rfl, fr18 rfl⟩
/-- a state laid anew is the state's own places alone -/
theorem fr_sF {v2 : Nat → Int32} {t : SV} : FrD (dSt n) F (sF F n l t v2) := by
  intro k m e
  funext j
  simp only [dSt, Bool.or_eq_false_iff, Bool.and_eq_false_iff, decide_eq_false_iff_not] at e
  simp only [sF]
  rw [if_neg (by omega), if_neg (by omega), if_neg (by omega), if_neg (by omega)]
theorem a_turn (hn : n < 27) (hl : l < 2) (hL : CL F l A) (hA : wfL A) (h : CS F n (lP A) s) (hp : p < lP A) (hq : q < lP A) (hd : 3 ≤ d) : Td E d 59 0 [some (vr 25 n), some (vr 9 l), some (vi (nI p)), some (vi (nI q))] [] x F G b none (fun F2 G2 => G2 = G ∧ CS F2 n (lP A) (turnA A s p q) ∧ FrD (dSt n) F F2) := by
  have h6 := hA.2.1
  obtain ⟨N, hN⟩ := hL.lw
  obtain ⟨v2, k⟩ := c_turn (E := E) (x := x) (F := F) (G := G) (b := b) (p := p) (q := q) (lf := F 27 n) (wd := F 28 n) (sn := F 25 n 3) (wi := F 25 n 5) (sp := F 25 n 6) (vs := F 18 l) hn hl hL.2.1 hA.2.1 (by omega) (by omega) hN hd
  rw [sF_id] at k
  refine td_T k ⟨rfl, ⟨?_, ?_, ?_⟩, fr_sF⟩
  · show eqR (lP A) (F 26 n) _
    exact h.1
  · rw [sr_4]
    exact h.2.1
  · have h2 := tn_c (LW := lW A) (snap := F 9 l 12) (w := p) (o := q) (s := svF F n) hA.2.1 h.2.2 hL.ki h.1 hp hq
    rw [hL.sp] at h2
    simp only [svF, sr_27, sr_28, sr_3, sr_5, sr_6, hL.sp]
    exact h2
theorem a_repair (hn : n < 27) {P : Nat} (h : CS F n P s) (hP : P ≤ 6) (hp : p < P) : Td E d 60 0 [some (vr 25 n), some (vi (nI p))] [] x F G b none (fun F2 G2 => G2 = G ∧ CS F2 n P (repA s p) ∧ FrD (dSt n) F F2) := by
  refine td_T (c_repair hn (by omega)) ⟨rfl, ⟨?_, ?_, ?_, ?_, ?_, ?_, ?_⟩, ?_⟩
  · intro j hj
    have := h.1 j hj
    simpa [uF, repA, sAt] using this
  · simpa [uF, repA, sHr] using h.2.1
  · intro j hj
    have := h.2.2.1 j hj
    simp only [svF, uF, repA, upd]
    by_cases e : j = p
    · simp [e]
    · simpa [e] using this
  · intro j hj
    have := h.2.2.2.1 j hj
    simpa [uF, svF, repA, sV] using this
  · have := h.2.2.2.2.1
    simp only [svF] at this
    simp [uF, svF, repA, this]
  · have := h.2.2.2.2.2.1
    simpa [uF, svF, repA] using this
  · have := h.2.2.2.2.2.2
    simpa [uF, svF, repA] using this
  · refine (FrD.rf.u ?_).u ?_ <;> simp [dSt]
theorem a_wlk (h : CS F n (lP A) s) : CS (uF F 26 n p (nI q)) n (lP A) (wlkA s p q) ∧ FrD (dSt n) F (uF F 26 n p (nI q)) := by
  refine ⟨⟨?_, ?_, ?_⟩, FrD.rf.u (by simp [dSt])⟩
  · intro j hj
    have := h.1 j hj
    simp only [uF, wlkA, upd, sAt]
    by_cases e : j = p
    · simp [e]
    · simpa [e] using this
  · simpa [uF, wlkA, sHr] using h.2.1
  · have := h.2.2
    simp only [svF]
    rw [uF_k (k2 := 27) (by decide), uF_k (k2 := 28) (by decide), uF_k (k2 := 25) (by decide)]
    exact this
theorem a_walkIf (hn : n < 27) (hl : l < 2) (hL : CL F l A) (hA : wfL A) (h : CS F n (lP A) s) (hw : wfS A s) (hp : p < lP A) (hd : 3 ≤ d) : Td E d 55 0 [some (vr 25 n), some (vr 9 l), some (vi (nI p)), some (vi (nI q))] [] x F G b (some (vi (b2i (cwkA A s p q)))) (fun F2 G2 => G2 = G ∧ CS F2 n (lP A) (if cwkA A s p q = true then wlkA s p q else s) ∧ FrD (dSt n) F F2) := by
  have h6 := hA.2.1
  have h5 := hA.1
  obtain ⟨a, ha, e⟩ := hw.1 p hp
  have k := c_walkIf (E := E) (x := x) (F := F) (G := G) (b := b) (p := p) (q := q) hn hl (by omega) (a := a) (by rw [h.1 p hp]; exact e) (by omega) hd
  rw [h.cwk hL.ln hp e ha (by omega)] at k
  refine td_T k ⟨rfl, ?_⟩
  split
  · exact a_wlk h
  · exact ⟨h, FrD.rf⟩
theorem a_hour (hn : n < 27) (hl : l < 2) (hL : CL F l A) (hA : wfL A) (h : CS F n (lP A) s) (hd : 4 ≤ d) : Td E d 61 0 [some (vr 25 n), some (vr 9 l), none, none, none] [] x F G b (some (vi (hrN A s))) (fun F2 G2 => G2 = G ∧ CS F2 n (lP A) (hourA A s) ∧ FrD (dSt n) F F2) := by
  have h6 := hA.2.1
  obtain ⟨N, hN⟩ := hL.lw
  obtain ⟨v2, k⟩ := c_hour (E := E) (x := x) (F := F) (G := G) (b := b) (s := svF F n) (vs := F 18 l) hn hl hL.2.1 hA.2.1 hN hd
  rw [sF_id] at k
  have h2 := hr_c (LW := lW A) (so := F 9 l 11) (snap := F 9 l 12) (s := svF F n) hA.2.1 h.2.2 hL.ki hL.kn h.1
  rw [hL.so, hL.sp] at h2 k
  rw [show (hr (lW A) (F 13 l) (F 16 l) (F 26 n) (lP A) (lSo A) (lSp A) (svF F n)).2.2.2.1 - (svF F n).2.2.2.1 = hrN A s by rw [h2.2.2.2.1, h.2.2.2.2.2.1]; rfl] at k
  refine td_T k ⟨rfl, ⟨?_, ?_, ?_⟩, fr_sF.u (by simp [dSt])⟩
  · intro j hj
    have := h.1 j hj
    simpa [uF, sF, hourA, sAt] using this
  · have := h.2.1
    show _ = sHr s + 1
    simp [uF, this]
  · have e27 : uF (sF F n l (hr (lW A) (F 13 l) (F 16 l) (F 26 n) (lP A) (lSo A) (lSp A) (svF F n)) v2) 25 n 4 (F 25 n 4 + 1) 27 n = (hr (lW A) (F 13 l) (F 16 l) (F 26 n) (lP A) (lSo A) (lSp A) (svF F n)).1 := by funext j; simp [uF, sF]
    have e28 : uF (sF F n l (hr (lW A) (F 13 l) (F 16 l) (F 26 n) (lP A) (lSo A) (lSp A) (svF F n)) v2) 25 n 4 (F 25 n 4 + 1) 28 n = (hr (lW A) (F 13 l) (F 16 l) (F 26 n) (lP A) (lSo A) (lSp A) (svF F n)).2.1 := by funext j; simp [uF, sF]
    have e3 : uF (sF F n l (hr (lW A) (F 13 l) (F 16 l) (F 26 n) (lP A) (lSo A) (lSp A) (svF F n)) v2) 25 n 4 (F 25 n 4 + 1) 25 n 3 = (hr (lW A) (F 13 l) (F 16 l) (F 26 n) (lP A) (lSo A) (lSp A) (svF F n)).2.2.1 := by simp [uF, sF]
    have e5 : uF (sF F n l (hr (lW A) (F 13 l) (F 16 l) (F 26 n) (lP A) (lSo A) (lSp A) (svF F n)) v2) 25 n 4 (F 25 n 4 + 1) 25 n 5 = (hr (lW A) (F 13 l) (F 16 l) (F 26 n) (lP A) (lSo A) (lSp A) (svF F n)).2.2.2.1 := by simp [uF, sF]
    have e6 : uF (sF F n l (hr (lW A) (F 13 l) (F 16 l) (F 26 n) (lP A) (lSo A) (lSp A) (svF F n)) v2) 25 n 4 (F 25 n 4 + 1) 25 n 6 = (hr (lW A) (F 13 l) (F 16 l) (F 26 n) (lP A) (lSo A) (lSp A) (svF F n)).2.2.2.2 := by simp [uF, sF]
    simp only [svF] at e27 e28 e3 e5 e6 h2 ⊢
    rw [e27, e28, e3, e5, e6]
    exact h2
end A1
