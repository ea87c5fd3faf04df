/-! THE LAW'S RUN: its loop -/
section LL
variable {E : EV} {d i x N : Nat} {F : FT} {G : GT} {b : Bool} {o : SG}
theorem lt_one (hE : E.2.2 = orcL) (hq : NX E d i x N) (h : CInv F G b o) (hm : MI2 F G o) (hw : WF o) (hi : i + 7 ≤ E.1) (hN : E.1 ≤ 3584) (hd : 200 ≤ d) : LT E d 33 [some (vr 0 0), some (vr 1 0), some (vr 40 0), some (vr 81 0), some (vi (nI i)), none, none] [] x F G b N := by
  refine lt_run lk_a 2 rfl ?_
  refine lt_sc (k := i) lk_a rfl rfl (by omega) hN ?_
  refine lt_run lk_a 2 rfl ?_
  obtain ⟨k, hk, ek⟩ := and_31 (E.2.1 i)
  rw [ek]
  have hc : k = 0 ∨ k = 1 ∨ k = 2 ∨ k = 3 ∨ k = 4 ∨ k = 5 ∨ k = 6 ∨ k = 7 ∨ k = 8 ∨ k = 9 ∨ k = 10 ∨ k = 11 ∨ k = 12 ∨ k = 13 ∨ k = 14 ∨ k = 15 ∨ k = 16 ∨ k = 17 ∨ k = 18 ∨ k = 19 ∨ k = 20 ∨ k = 21 ∨ k = 22 ∨ k = 23 ∨ k = 24 ∨ k = 25 ∨ k = 26 ∨ k = 27 ∨ k = 28 ∨ k = 29 ∨ k = 30 ∨ k = 31 := by omega
  rcases hc with rfl | rfl | rfl | rfl | rfl | rfl | rfl | rfl | rfl | rfl | rfl | rfl | rfl | rfl | rfl | rfl | rfl | rfl | rfl | rfl | rfl | rfl | rfl | rfl | rfl | rfl | rfl | rfl | rfl | rfl | rfl | rfl
  · refine lt_sw (q1 := 172) lk_a rfl rfl (by decide +kernel) ?_
    exact lc_0 hE hq h hm hw hi hN hd
  · refine lt_sw (q1 := 319) lk_a rfl rfl (by decide +kernel) ?_
    exact lc_1 hE hq h hm hw hi hN hd
  · refine lt_sw (q1 := 332) lk_a rfl rfl (by decide +kernel) ?_
    exact lc_2 hE hq h hm hw hi hN hd
  · refine lt_sw (q1 := 345) lk_a rfl rfl (by decide +kernel) ?_
    exact lc_3 hE hq h hm hw hi hN hd
  · refine lt_sw (q1 := 382) lk_a rfl rfl (by decide +kernel) ?_
    exact lc_4 hE hq h hm hw hi hN hd
  · refine lt_sw (q1 := 419) lk_a rfl rfl (by decide +kernel) ?_
    exact lc_5 hE hq h hm hw hi hN hd
  · refine lt_sw (q1 := 444) lk_a rfl rfl (by decide +kernel) ?_
    exact lc_6 hE hq h hm hw hi hN hd
  · refine lt_sw (q1 := 481) lk_a rfl rfl (by decide +kernel) ?_
    exact lc_7 hE hq h hm hw hi hN hd
  · refine lt_sw (q1 := 518) lk_a rfl rfl (by decide +kernel) ?_
    exact lc_8 hE hq h hm hw hi hN hd
  · refine lt_sw (q1 := 555) lk_a rfl rfl (by decide +kernel) ?_
    exact lc_9 hE hq h hm hw hi hN hd
  · refine lt_sw (q1 := 580) lk_a rfl rfl (by decide +kernel) ?_
    exact lc_10 hE hq h hm hw hi hN hd
  · refine lt_sw (q1 := 593) lk_a rfl rfl (by decide +kernel) ?_
    exact lc_11 hE hq h hm hw hi hN hd
  · refine lt_sw (q1 := 606) lk_a rfl rfl (by decide +kernel) ?_
    exact lc_12 hE hq h hm hw hi hN hd
  · refine lt_sw (q1 := 631) lk_a rfl rfl (by decide +kernel) ?_
    exact lc_13 hE hq h hm hw hi hN hd
  · refine lt_sw (q1 := 656) lk_a rfl rfl (by decide +kernel) ?_
    exact lc_14 hE hq h hm hw hi hN hd
  · refine lt_sw (q1 := 669) lk_a rfl rfl (by decide +kernel) ?_
    exact lc_15 hE hq h hm hw hi hN hd
  · refine lt_sw (q1 := 718) lk_a rfl rfl (by decide +kernel) ?_
    exact lc_16 hE hq h hm hw hi hN hd
  · refine lt_sw (q1 := 743) lk_a rfl rfl (by decide +kernel) ?_
    exact lc_17 hE hq h hm hw hi hN hd
  · refine lt_sw (q1 := 780) lk_a rfl rfl (by decide +kernel) ?_
    exact lc_18 hE hq h hm hw hi hN hd
  · refine lt_sw (q1 := 817) lk_a rfl rfl (by decide +kernel) ?_
    exact lc_19 hE hq h hm hw hi hN hd
  · refine lt_sw (q1 := 854) lk_a rfl rfl (by decide +kernel) ?_
    exact lc_20 hE hq h hm hw hi hN hd
  · refine lt_sw (q1 := 879) lk_a rfl rfl (by decide +kernel) ?_
    exact lc_21 hE hq h hm hw hi hN hd
  · refine lt_sw (q1 := 928) lk_a rfl rfl (by decide +kernel) ?_
    exact lc_22 hE hq h hm hw hi hN hd
  · refine lt_sw (q1 := 941) lk_a rfl rfl (by decide +kernel) ?_
    exact lc_23 hE hq h hm hw hi hN hd
  · refine lt_sw (q1 := 966) lk_a rfl rfl (by decide +kernel) ?_
    exact lc_24 hE hq h hm hw hi hN hd
  · refine lt_sw (q1 := 979) lk_a rfl rfl (by decide +kernel) ?_
    exact lc_25 hE hq h hm hw hi hN hd
  · refine lt_sw (q1 := 1071) lk_a rfl rfl (by decide +kernel) ?_
    exact lc_26 hE hq h hm hw hi hN hd
  · refine lt_sw (q1 := 1120) lk_a rfl rfl (by decide +kernel) ?_
    exact lc_27 hE hq h hm hw hi hN hd
  · refine lt_sw (q1 := 1173) lk_a rfl rfl (by decide +kernel) ?_
    exact lc_28 hE hq h hm hw hi hN hd
  · refine lt_sw (q1 := 1198) lk_a rfl rfl (by decide +kernel) ?_
    exact hq x F G b o (by omega) h hm hw
  · refine lt_sw (q1 := 1198) lk_a rfl rfl (by decide +kernel) ?_
    exact hq x F G b o (by omega) h hm hw
  · refine lt_sw (q1 := 1198) lk_a rfl rfl (by decide +kernel) ?_
    exact hq x F G b o (by omega) h hm hw
theorem lt_loop (hE : E.2.2 = orcL) (hN : E.1 ≤ 3584) (hd : 200 ≤ d) : ∀ (r i x : Nat) (F : FT) (G : GT) (b : Bool) (o : SG), i ≤ 3600 → E.1 ≤ i + 7 * r + 6 → x + r ≤ N → CInv F G b o → MI2 F G o → WF o → LT E d 23 [some (vr 0 0), some (vr 1 0), some (vr 40 0), some (vr 81 0), some (vi (nI i)), none, none] [] x F G b N
  | r, i, x, F, G, b, o, hi, hr, hx, h, hm, hw => by
    refine lt_run lk_a 2 rfl ?_
    refine lt_len lk_a rfl ?_
    refine lt_run lk_a 2 rfl ?_
    refine lt_gt lk_a rfl (fun _ => ?_) (fun hg => ?_)
    · refine lt_run lk_z 1 rfl ?_
      exact lt_end lk_z rfl (by omega)
    · have h7 := len7 hN (by omega) hg
      match r, hr, hx with
      | 0, hr, hx => omega
      | r + 1, hr, hx =>
        refine lt_one hE (fun x2 F2 G2 b2 o2 hx2 h2 hm2 hw2 => ?_) h hm hw h7 hN hd
        refine lt_run lk_z 2 rfl ?_
        rw [show nI i + 7 = nI (i + 7) from nI_add i 7]
        exact lt_loop hE hN hd r (i + 7) x2 F2 G2 b2 o2 (by omega) (by omega) (by omega) h2 hm2 hw2
end LL
