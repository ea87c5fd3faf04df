/-! RUNS WHOSE END IS TOLD BY WHAT HOLDS THERE -/
/-- from here the run ends with the answer r, and Q holds of the heap behind it -/
def Td (E : EV) (d m pc : Nat) (L : LL) (st : List PV) (x : Nat) (F : FT) (G : GT) (bb : Bool) (r : Option PV) (Q : FT → GT → Prop) : Prop := ∃ F2 G2, Tm E d m pc L st (cC x) F G (Rs bb) r (cC x, F2, G2, Rs bb) ∧ Q F2 G2
section TD
variable {E : EV} {d m pc op a b q q1 k n j K x : Nat} {z : PV} {L L1 : LL} {st st1 : List PV} {F : FT} {G : GT} {bb : Bool} {r : Option PV} {u v i : Int32} {Q : FT → GT → Prop}
theorem td_up {m2 pc2 : Nat} {L2 : LL} {st2 : List PV} {F1 : FT} {G1 : GT} (h : ∀ t, Tm E d m2 pc2 L2 st2 (cC x) F1 G1 (Rs bb) r t → Tm E d m pc L st (cC x) F G (Rs bb) r t) (kk : Td E d m2 pc2 L2 st2 x F1 G1 bb r Q) : Td E d m pc L st x F G bb r Q := by
  obtain ⟨F2, G2, t, hq⟩ := kk
  exact ⟨F2, G2, h _ t, hq⟩
theorem td_mo {Q2 : FT → GT → Prop} (kk : Td E d m pc L st x F G bb r Q2) (h : ∀ F2 G2, Q2 F2 G2 → Q F2 G2) : Td E d m pc L st x F G bb r Q := by
  obtain ⟨F2, G2, t, hq⟩ := kk
  exact ⟨F2, G2, t, h _ _ hq⟩
theorem td_T {F2 : FT} {G2 : GT} (kk : Tm E d m pc L st (cC x) F G (Rs bb) r (cC x, F2, G2, Rs bb)) (h : Q F2 G2) : Td E d m pc L st x F G bb r Q := ⟨F2, G2, kk, h⟩
theorem d_p (hc : cod m pc = some (op, a, b, z, q)) (ho : op < 29) (hs : pst op a b z q L st = some (q1, L1, st1)) (kk : Td E d m q1 L1 st1 x F G bb r Q) : Td E d m pc L st x F G bb r Q := td_up (fun _ h => t_p hc ho hs h) kk
theorem d_run (k : Nat) (h : prun k m pc L st = some (q1, L1, st1)) (kk : Td E d m q1 L1 st1 x F G bb r Q) : Td E d m pc L st x F G bb r Q := td_up (fun _ h2 => t_run k h h2) kk
theorem d_le (hL : leL L1 L) (kk : Td E d m pc L1 st x F G bb r Q) : Td E d m pc L st x F G bb r Q := td_up (fun _ h => t_le hL h) kk
theorem d_if_eq (hc : cod m pc = some (27, 0, b, z, q)) (kt : (u = 0) → Td E d m b L st x F G bb r Q) (kf : (¬ u = 0) → Td E d m q L st x F G bb r Q) : Td E d m pc L (vi u :: st) x F G bb r Q := by
  by_cases h : u = 0
  · exact td_up (fun _ h2 => t_if_eq hc (fun _ => h2) (fun n => absurd h n)) (kt h)
  · exact td_up (fun _ h2 => t_if_eq hc (fun n => absurd n h) (fun _ => h2)) (kf h)
theorem d_ic_eq (hc : cod m pc = some (28, 0, b, z, q)) (kt : (u = v) → Td E d m b L st x F G bb r Q) (kf : (¬ u = v) → Td E d m q L st x F G bb r Q) : Td E d m pc L (vi v :: vi u :: st) x F G bb r Q := by
  by_cases h : u = v
  · exact td_up (fun _ h2 => t_ic_eq hc (fun _ => h2) (fun n => absurd h n)) (kt h)
  · exact td_up (fun _ h2 => t_ic_eq hc (fun n => absurd n h) (fun _ => h2)) (kf h)
theorem d_if_ne (hc : cod m pc = some (27, 1, b, z, q)) (kt : (¬ u = 0) → Td E d m b L st x F G bb r Q) (kf : (u = 0) → Td E d m q L st x F G bb r Q) : Td E d m pc L (vi u :: st) x F G bb r Q := by
  by_cases h : ¬ u = 0
  · exact td_up (fun _ h2 => t_if_ne hc (fun _ => h2) (fun n => absurd h (fun hh => hh n))) (kt h)
  · exact td_up (fun _ h2 => t_if_ne hc (fun n => absurd n h) (fun _ => h2)) (kf (Decidable.not_not.mp h))
theorem d_ic_ne (hc : cod m pc = some (28, 1, b, z, q)) (kt : (¬ u = v) → Td E d m b L st x F G bb r Q) (kf : (u = v) → Td E d m q L st x F G bb r Q) : Td E d m pc L (vi v :: vi u :: st) x F G bb r Q := by
  by_cases h : ¬ u = v
  · exact td_up (fun _ h2 => t_ic_ne hc (fun _ => h2) (fun n => absurd h (fun hh => hh n))) (kt h)
  · exact td_up (fun _ h2 => t_ic_ne hc (fun n => absurd n h) (fun _ => h2)) (kf (Decidable.not_not.mp h))
theorem d_if_lt (hc : cod m pc = some (27, 2, b, z, q)) (kt : (u < 0) → Td E d m b L st x F G bb r Q) (kf : (¬ u < 0) → Td E d m q L st x F G bb r Q) : Td E d m pc L (vi u :: st) x F G bb r Q := by
  by_cases h : u < 0
  · exact td_up (fun _ h2 => t_if_lt hc (fun _ => h2) (fun n => absurd h n)) (kt h)
  · exact td_up (fun _ h2 => t_if_lt hc (fun n => absurd n h) (fun _ => h2)) (kf h)
theorem d_ic_lt (hc : cod m pc = some (28, 2, b, z, q)) (kt : (u < v) → Td E d m b L st x F G bb r Q) (kf : (¬ u < v) → Td E d m q L st x F G bb r Q) : Td E d m pc L (vi v :: vi u :: st) x F G bb r Q := by
  by_cases h : u < v
  · exact td_up (fun _ h2 => t_ic_lt hc (fun _ => h2) (fun n => absurd h n)) (kt h)
  · exact td_up (fun _ h2 => t_ic_lt hc (fun n => absurd n h) (fun _ => h2)) (kf h)
theorem d_if_ge (hc : cod m pc = some (27, 3, b, z, q)) (kt : (0 ≤ u) → Td E d m b L st x F G bb r Q) (kf : (¬ 0 ≤ u) → Td E d m q L st x F G bb r Q) : Td E d m pc L (vi u :: st) x F G bb r Q := by
  by_cases h : 0 ≤ u
  · exact td_up (fun _ h2 => t_if_ge hc (fun _ => h2) (fun n => absurd h n)) (kt h)
  · exact td_up (fun _ h2 => t_if_ge hc (fun n => absurd n h) (fun _ => h2)) (kf h)
theorem d_ic_ge (hc : cod m pc = some (28, 3, b, z, q)) (kt : (v ≤ u) → Td E d m b L st x F G bb r Q) (kf : (¬ v ≤ u) → Td E d m q L st x F G bb r Q) : Td E d m pc L (vi v :: vi u :: st) x F G bb r Q := by
  by_cases h : v ≤ u
  · exact td_up (fun _ h2 => t_ic_ge hc (fun _ => h2) (fun n => absurd h n)) (kt h)
  · exact td_up (fun _ h2 => t_ic_ge hc (fun n => absurd n h) (fun _ => h2)) (kf h)
theorem d_if_gt (hc : cod m pc = some (27, 4, b, z, q)) (kt : (0 < u) → Td E d m b L st x F G bb r Q) (kf : (¬ 0 < u) → Td E d m q L st x F G bb r Q) : Td E d m pc L (vi u :: st) x F G bb r Q := by
  by_cases h : 0 < u
  · exact td_up (fun _ h2 => t_if_gt hc (fun _ => h2) (fun n => absurd h n)) (kt h)
  · exact td_up (fun _ h2 => t_if_gt hc (fun n => absurd n h) (fun _ => h2)) (kf h)
theorem d_ic_gt (hc : cod m pc = some (28, 4, b, z, q)) (kt : (v < u) → Td E d m b L st x F G bb r Q) (kf : (¬ v < u) → Td E d m q L st x F G bb r Q) : Td E d m pc L (vi v :: vi u :: st) x F G bb r Q := by
  by_cases h : v < u
  · exact td_up (fun _ h2 => t_ic_gt hc (fun _ => h2) (fun n => absurd h n)) (kt h)
  · exact td_up (fun _ h2 => t_ic_gt hc (fun n => absurd n h) (fun _ => h2)) (kf h)
theorem d_if_le (hc : cod m pc = some (27, 5, b, z, q)) (kt : (u ≤ 0) → Td E d m b L st x F G bb r Q) (kf : (¬ u ≤ 0) → Td E d m q L st x F G bb r Q) : Td E d m pc L (vi u :: st) x F G bb r Q := by
  by_cases h : u ≤ 0
  · exact td_up (fun _ h2 => t_if_le hc (fun _ => h2) (fun n => absurd h n)) (kt h)
  · exact td_up (fun _ h2 => t_if_le hc (fun n => absurd n h) (fun _ => h2)) (kf h)
theorem d_ic_le (hc : cod m pc = some (28, 5, b, z, q)) (kt : (u ≤ v) → Td E d m b L st x F G bb r Q) (kf : (¬ u ≤ v) → Td E d m q L st x F G bb r Q) : Td E d m pc L (vi v :: vi u :: st) x F G bb r Q := by
  by_cases h : u ≤ v
  · exact td_up (fun _ h2 => t_ic_le hc (fun _ => h2) (fun n => absurd h n)) (kt h)
  · exact td_up (fun _ h2 => t_ic_le hc (fun n => absurd n h) (fun _ => h2)) (kf h)
theorem d_gI (hc : cod m pc = some (29, K, j, z, q)) (hn : n < cn x K) (hk : ((K == 90) = false ∧ (kt K).1 = 0 ∧ ((kt K).2.2[j]? = some (0, 0) ∨ (kt K).2.2[j]? = some (3, 0)))) (kk : Td E d m q L (vi (F K n j) :: st) x F G bb r Q) : Td E d m pc L (vr K n :: st) x F G bb r Q := td_up (fun _ h => t_gI hc hn hk h) kk
theorem d_gL (hc : cod m pc = some (29, K, j, z, q)) (hn : n < cn x K) (hk : ((K == 90) = false ∧ (kt K).1 = 0 ∧ (kt K).2.2[j]? = some (1, 0))) (kk : Td E d m q L (vl (G K n j) :: st) x F G bb r Q) : Td E d m pc L (vr K n :: st) x F G bb r Q := td_up (fun _ h => t_gL hc hn hk h) kk
theorem d_gR {rk n2 : Nat} (hc : cod m pc = some (29, K, j, z, q)) (hn : n < cn x K) (hk : ((K == 90) = false ∧ (kt K).1 = 0 ∧ (kt K).2.2[j]? = some (2, rk))) (hR : Rs bb K n j = some n2) (kk : Td E d m q L (vr rk n2 :: st) x F G bb r Q) : Td E d m pc L (vr K n :: st) x F G bb r Q := td_up (fun _ h => t_gR hc hn hk hR h) kk
theorem d_gS {w : PV} (hc : cod m pc = some (29, 90, j, z, q)) (hn : n < 26) (hv : (if j = 0 then some (vr 91 n) else some (vi 0)) = some w) (kk : Td E d m q L (w :: st) x F G bb r Q) : Td E d m pc L (vr 90 n :: st) x F G bb r Q := td_up (fun _ h => t_gS hc hn hv h) kk
theorem d_pI (hc : cod m pc = some (30, K, j, z, q)) (hn : n < cn x K) (hk : (kt K).1 = 0 ∧ (kt K).2.2[j]? = some (0, 0)) (kk : Td E d m q L st x (uF F K n j u) G bb r Q) : Td E d m pc L (vi u :: vr K n :: st) x F G bb r Q := td_up (fun _ h => t_pI hc hn hk h) kk
theorem d_pZ (hc : cod m pc = some (30, K, j, z, q)) (hn : n < cn x K) (hk : (kt K).1 = 0 ∧ (kt K).2.2[j]? = some (3, 0)) (h01 : u = 0 ∨ u = 1) (kk : Td E d m q L st x (uF F K n j u) G bb r Q) : Td E d m pc L (vi u :: vr K n :: st) x F G bb r Q := td_up (fun _ h => t_pZ hc hn hk h01 h) kk
theorem d_pL {w : Int64} (hc : cod m pc = some (30, K, j, z, q)) (hn : n < cn x K) (hk : (kt K).1 = 0 ∧ (kt K).2.2[j]? = some (1, 0)) (kk : Td E d m q L st x F (uG G K n j w) bb r Q) : Td E d m pc L (vl w :: vr K n :: st) x F G bb r Q := td_up (fun _ h => t_pL hc hn hk h) kk
theorem d_ia (hc : cod m pc = some (31, a, b, z, q)) (ha : 1 ≤ a ∧ a ≤ 3) (hn : n < cn x k) {N : Nat} (hk : ((k == 0) = false ∧ (k == 91) = false) ∧ (kt k).1 = a ∧ (kt k).2.1 = N) (hj : j < N) (hi : i = nI j) (kk : Td E d m q L (vi (F k n j) :: st) x F G bb r Q) : Td E d m pc L (vi i :: vr k n :: st) x F G bb r Q := td_up (fun _ h => t_ia hc ha hn hk hj hi h) kk
theorem d_la (hc : cod m pc = some (31, 4, b, z, q)) (hn : n < cn x k) {N : Nat} (hk : ((k == 0) = false ∧ (k == 91) = false) ∧ (kt k).1 = 4 ∧ (kt k).2.1 = N) (hj : j < N) (hi : i = nI j) (kk : Td E d m q L (vl (G k n j) :: st) x F G bb r Q) : Td E d m pc L (vi i :: vr k n :: st) x F G bb r Q := td_up (fun _ h => t_la hc hn hk hj hi h) kk
theorem d_ra {rk n2 : Nat} (hc : cod m pc = some (31, 5, b, z, q)) (hn : n < cn x k) {N : Nat} (hk : ((k == 0) = false ∧ (k == 91) = false) ∧ (kt k).1 = 5 ∧ (kt k).2.1 = N ∧ (kt k).2.2 = [(2, rk)]) (hj : j < N) (hi : i = nI j) (hR : Rs bb k n j = some n2) (kk : Td E d m q L (vr rk n2 :: st) x F G bb r Q) : Td E d m pc L (vi i :: vr k n :: st) x F G bb r Q := td_up (fun _ h => t_ra hc hn hk hj hi hR h) kk
theorem d_sa (hc : cod m pc = some (31, 1, b, z, q)) (hj : j < E.1) (hE : E.1 ≤ 100000) (hi : i = nI j) (kk : Td E d m q L (vi (E.2.1 j) :: st) x F G bb r Q) : Td E d m pc L (vi i :: vr 0 0 :: st) x F G bb r Q := td_up (fun _ h => t_sa hc hj hE hi h) kk
theorem d_ba (hc : cod m pc = some (31, 3, b, z, q)) (hn : n < 26) (hj : j < (sby n).length) (hl : (sby n).length ≤ 100000) (hi : i = nI j) (kk : Td E d m q L (vi ((sby n).getD j 0) :: st) x F G bb r Q) : Td E d m pc L (vi i :: vr 91 n :: st) x F G bb r Q := td_up (fun _ h => t_ba hc hn hj hl hi h) kk
theorem d_is (hc : cod m pc = some (32, 1, b, z, q)) (hn : n < cn x k) {N : Nat} (hk : (kt k).1 = 1 ∧ (kt k).2.1 = N) (hj : j < N) (hi : i = nI j) (kk : Td E d m q L st x (uF F k n j u) G bb r Q) : Td E d m pc L (vi u :: vi i :: vr k n :: st) x F G bb r Q := td_up (fun _ h => t_is hc hn hk hj hi h) kk
theorem d_cs (hc : cod m pc = some (32, 2, b, z, q)) (hn : n < cn x k) {N : Nat} (hk : (kt k).1 = 2 ∧ (kt k).2.1 = N) (hj : j < N) (hi : i = nI j) (kk : Td E d m q L st x (uF F k n j (vp_nar .char u)) G bb r Q) : Td E d m pc L (vi u :: vi i :: vr k n :: st) x F G bb r Q := td_up (fun _ h => t_cs hc hn hk hj hi h) kk
theorem d_zs (hc : cod m pc = some (32, 3, b, z, q)) (hn : n < cn x k) {N : Nat} (hk : (kt k).1 = 3 ∧ (kt k).2.1 = N) (hj : j < N) (hi : i = nI j) (h01 : u = 0 ∨ u = 1) (kk : Td E d m q L st x (uF F k n j u) G bb r Q) : Td E d m pc L (vi u :: vi i :: vr k n :: st) x F G bb r Q := td_up (fun _ h => t_zs hc hn hk hj hi h01 h) kk
theorem d_ls {w : Int64} (hc : cod m pc = some (32, 4, b, z, q)) (hn : n < cn x k) {N : Nat} (hk : (kt k).1 = 4 ∧ (kt k).2.1 = N) (hj : j < N) (hi : i = nI j) (kk : Td E d m q L st x F (uG G k n j w) bb r Q) : Td E d m pc L (vl w :: vi i :: vr k n :: st) x F G bb r Q := td_up (fun _ h => t_ls hc hn hk hj hi h) kk
theorem d_al {N : Nat} (hc : cod m pc = some (33, a, b, z, q)) (hn : n < cn x k) (hk : ((k == 0) = false ∧ (k == 91) = false) ∧ (1 ≤ (kt k).1 ∧ (kt k).1 ≤ 5) ∧ (kt k).2.1 = N) (kk : Td E d m q L (vi (nI N) :: st) x F G bb r Q) : Td E d m pc L (vr k n :: st) x F G bb r Q := td_up (fun _ h => t_al hc hn hk h) kk
theorem d_max (hc : cod m pc = some (47, a, b, z, q)) (hd : 0 < d) (hcat : (st.map catP).sum ≤ 8) (kk : Td E d m q L (vi (if u < v then v else u) :: st) x F G bb r Q) : Td E d m pc L (vi v :: vi u :: st) x F G bb r Q := td_up (fun _ h => t_max hc hd hcat h) kk
theorem d_min (hc : cod m pc = some (48, a, b, z, q)) (hd : 0 < d) (hcat : (st.map catP).sum ≤ 8) (kk : Td E d m q L (vi (if v < u then v else u) :: st) x F G bb r Q) : Td E d m pc L (vi v :: vi u :: st) x F G bb r Q := td_up (fun _ h => t_min hc hd hcat h) kk
theorem d_cpy {k2 n2 sp dp mm N N2 : Nat} (hc : cod m pc = some (46, a, b, z, q)) (hd : 0 < d) (hcat : (st.map catP).sum ≤ 8) (hk : ((kt k2).1 = 1 ∧ (kt k2).2.1 = N2) ∧ (kt k).1 = 1 ∧ (kt k).2.1 = N) (hn2 : n2 < cn x k2) (hn : n < cn x k) (h1 : sp + mm ≤ N2) (h2 : dp + mm ≤ N) {i1 i2 i3 : Int32} (e1 : i1 = nI sp) (e2 : i2 = nI dp) (e3 : i3 = nI mm) (kk : Td E d m q L st x (cF F k n dp k2 n2 sp mm) G bb r Q) : Td E d m pc L (vi i3 :: vi i2 :: vr k n :: vi i1 :: vr k2 n2 :: st) x F G bb r Q := td_up (fun _ h => t_cpy hc hd hcat hk hn2 hn h1 h2 e1 e2 e3 h) kk
theorem d_sw {lo : Int} {ts : List Nat} {df : Nat} (hc : cod m pc = some (38, a, b, z, q)) (hT : tswt[a]? = some (lo, ts, df)) (hq : (if u.toInt < lo then df else (ts[(u.toInt - lo).toNat]?).getD df) = q1) (kk : Td E d m q1 L st x F G bb r Q) : Td E d m pc L (vi u :: st) x F G bb r Q := td_up (fun _ h => t_sw hc hT hq h) kk
theorem d_callT (nA : Nat) {as : List PV} (hc : cod m pc = some (34, a, nA, z, q)) (hd : 0 < d) (hl : nA ≤ st.length) (has : (st.take nA).reverse = as) (hcat : ((st.drop nA).map catP).sum ≤ 8) (hen : (entG as).length ≤ mx a) (hr : recv z nA (cC x, F, G, Rs bb) as = true) {L0 : LL} (hL : entL a as = L0) {r1 : Option PV} {F1 : FT} {G1 : GT} (hC : Tm E (d - 1) a 0 L0 [] (cC x) F G (Rs bb) r1 (cC x, F1, G1, Rs bb)) {st2 : List PV} (h2 : r1.toList ++ st.drop nA = st2) (kk : Td E d m q L st2 x F1 G1 bb r Q) : Td E d m pc L st x F G bb r Q := td_up (fun _ h => t_call nA hc hd hl has hcat hen hr hL hC h2 h) kk
theorem d_call (nA : Nat) {as : List PV} (hc : cod m pc = some (34, a, nA, z, q)) (hd : 0 < d) (hl : nA ≤ st.length) (has : (st.take nA).reverse = as) (hcat : ((st.drop nA).map catP).sum ≤ 8) (hen : (entG as).length ≤ mx a) (hr : recv z nA (cC x, F, G, Rs bb) as = true) {L0 : LL} (hL : entL a as = L0) {r1 : Option PV} {Q1 : FT → GT → Prop} (hC : Td E (d - 1) a 0 L0 [] x F G bb r1 Q1) {st2 : List PV} (h2 : r1.toList ++ st.drop nA = st2) (kk : ∀ F1 G1, Q1 F1 G1 → Td E d m q L st2 x F1 G1 bb r Q) : Td E d m pc L st x F G bb r Q := by
  obtain ⟨F1, G1, t, hq⟩ := hC
  exact d_callT nA hc hd hl has hcat hen hr hL t h2 (kk F1 G1 hq)
theorem d_ret (hc : cod m pc = some (35, a, b, z, q)) (hq : Q F G) : Td E d m pc L [] x F G bb none Q := ⟨F, G, t_ret hc, hq⟩
theorem d_ir (hc : cod m pc = some (36, a, b, z, q)) (hk : okr a u = true) (e : u = v) (hq : Q F G) : Td E d m pc L [vi u] x F G bb (some (vi v)) Q := ⟨F, G, t_ir hc hk e, hq⟩
theorem d_ib {w : Bool} (hc : cod m pc = some (36, 2, b, z, q)) (e : u = b2i w) (hq : Q F G) : Td E d m pc L [vi u] x F G bb (some (vi (b2i w))) Q := ⟨F, G, t_ib hc e, hq⟩
end TD
