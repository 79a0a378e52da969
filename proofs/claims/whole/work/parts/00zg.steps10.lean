/-! ===== sways, the reference; firsts ===== -/
theorem r_ahead {X : jM} {P T N : Int → Int} (h9 : X 169 = T) (hT : bT T) (g5 : bX X) (g6 : ∀ i, 0 ≤ i → i < T 1 → X 175 i = q_total P T N i) (g7 : ∀ i, 0 ≤ i → i < T 1 → X 176 i = q_points P T N i) {a b : Int} (ha : 0 ≤ a ∧ a < T 1) (hb : 0 ≤ b ∧ b < T 1) : f_X10_isAhead a b X = some (q_ahead (q_total P T N) (q_points P T N) a b) := by
  rw [e_ahead (by rw [h9]; exact hT) g5 (by rw [h9]; exact ha) (by rw [h9]; exact hb)]
  unfold q_ahead
  rw [g6 a ha.1 ha.2, g6 b hb.1 hb.2, g7 a ha.1 ha.2, g7 b hb.1 hb.2]
theorem or_bit {n k i : Nat} : (n ||| 2 ^ k).testBit i = (n.testBit i || decide (i = k)) := by
  rw [Nat.testBit_or]
  by_cases c : i = k
  · subst c
    rw [Nat.testBit_two_pow_self]
    simp
  · rw [Nat.testBit_two_pow_of_ne (fun q => c q.symm)]
    simp [c]
set_option maxHeartbeats 2000000 in
theorem z_25 {M : jM} (hI : Inv M) {a1 : Int} (j1 : jin a1) : jT (s_25 a1 M) Inv := by
  obtain ⟨hC, hT, hN, hP, hR, hQ, hcP⟩ := inv_ctx hI
  have t0 := hT.1
  have t1 := hT.2.1
  have t2 := hT.2.2.1
  have t3 := hT.2.2.2.1
  unfold s_25
  by_cases c1 : 0 ≤ a1 ∧ a1 < M 169 2
  · by_cases c2 : 2 ≤ M 169 2
    · obtain ⟨vv, p1, p2, pj, pj1, pj2⟩ := pan_wo hT c2 c1
      have hv := cP_of hT hQ p2 pj1 pj2
      have hmb := q_turn_b (f := q_ahead (q_total (P0 M) (M 169) (M 170)) (q_points (P0 M) (M 169) (M 170))) (g := q_ahead (q_total (pS (P0 M) 15 vv) (M 169) (M 170)) (q_points (pS (P0 M) 15 vv) (M 169) (M 170))) t1
      refine stQ hI (code := 0) (val := q_turn (q_ahead (q_total (P0 M) (M 169) (M 170)) (q_points (P0 M) (M 169) (M 170))) (q_ahead (q_total (pS (P0 M) 15 vv) (M 169) (M 170)) (q_points (pS (P0 M) 15 vv) (M 169) (M 170))) (M 169 1)) (by omega) (fun _ => by omega) ?_ (fun M3 h8 => ?_)
      · unfold w_sways f_X9_sways
        obtain ⟨M4, e4, u1, u2, u3⟩ := c_weighAll hC hQ
        have hC4 := cE_fr hC u1
        have e13 : M4 1 3 = M 1 3 := by rw [u1 1 (by omega) (by have := hC.1; omega)]
        obtain ⟨⟨w, M5⟩, e5, x1, x2⟩ := c_turn hC4 hQ u2 u3 hv
        dsimp only at x1 x2
        rw [c_wJu0 hC rfl c1, eR, if_pos rfl, c_only hC rfl, eR, if_pos c2, if_pos rfl, eC (kd_e hC.1), e4, eV, c_evJ hC4 e13, eR, p1, e5, eW, eT3, if_pos rfl]
        exact wQ0 x1 (by omega) (fr8_7 hC.1 (fr7_t u1 x2))
      · obtain ⟨r6, r9, r0⟩ := ref_A h8
        obtain ⟨b9, b0, b6⟩ := ref_B hP h8
        unfold f_X10_sways
        refine t_let ?_
        refine t_Ve (e_all (by rw [b9]; exact hT)) ?_
        refine t_We (e_noJu0 (by rw [r9]; exact hT) (by rw [r9]; exact c1)) (t_pos (by decide) ?_)
        refine t_We (e_only0 (by rw [r9]; exact hT) (by rw [r9]; exact c2)) (t_pos (by decide) ?_)
        refine t_V (t_mono (ref_lays r6 r9 r0 hT hN hR hcP) (fun M6 h6 => ?_))
        obtain ⟨g1, g2, g3, g4, g5, g6, g7⟩ := h6
        have ah1 : ∀ a b : Int, 0 ≤ a ∧ a < M 169 1 → 0 ≤ b ∧ b < M 169 1 → f_X10_isAhead a b M6 = some (q_ahead (q_total (P0 M) (M 169) (M 170)) (q_points (P0 M) (M 169) (M 170)) a b) := fun a b ha hb => r_ahead g3 hT g5 g6 g7 ha hb
        -- pairs, ahead
        refine t_lp2 (fun pr a => 0 ≤ a ∧ a ≤ M 169 1 ∧ ∃ n : Nat, pr = (n : Int) ∧ n < 2 ^ 36 ∧ (∀ x y : Nat, y < x → x < 6 → n.testBit (6 * x + y) = (decide ((x : Int) < a) && decide (q_ahead (q_total (P0 M) (M 169) (M 170)) (q_points (P0 M) (M 169) (M 170)) x y = 1)))) (fun _ a => (M 169 1 - a).toNat) ?_ jfuel 0 0 (by rw [jfuel_eq]; omega) ⟨by omega, by omega, 0, rfl, by decide, fun x y _ _ => by
          rw [Nat.zero_testBit, decide_eq_false (by omega)]; rfl⟩
        rintro self pr a ⟨ha1, ha2, n, hpr, hn, hbits⟩ hself
        rw [g3, pw_of (z := 1) (by omega) (by omega), pw_of (z := M 169 1) (by omega) (by omega), pw_of (z := a) (by omega) (by omega)]
        refine t_ck (by omega) ?_
        refine t_if (fun hc => ?_) (fun hc => ?_)
        · have ea : a = M 169 1 := by omega
          subst ea
          refine t_let ?_
          rw [g2, hQ.2.1, p1]
          refine t_V (t_mono (ref_lays (pS_jst g2 _ _) (by rw [pst_f (by decide)]; exact g3) (by rw [pst_f (by decide)]; exact g4) hT hN hR hv) (fun M8 h8 => ?_))
          obtain ⟨k1, k2, k3, k4, k5, k6, k7⟩ := h8
          have ah2 : ∀ a b : Int, 0 ≤ a ∧ a < M 169 1 → 0 ≤ b ∧ b < M 169 1 → f_X10_isAhead a b M8 = some (q_ahead (q_total (pS (P0 M) 15 vv) (M 169) (M 170)) (q_points (pS (P0 M) 15 vv) (M 169) (M 170)) a b) := fun a b ha hb => r_ahead k3 hT k5 k6 k7 ha hb
          refine t_lp2 (fun c a => 0 ≤ a ∧ a ≤ M 169 1 ∧ c = sZ (fun a => sZ (q_dif (q_ahead (q_total (P0 M) (M 169) (M 170)) (q_points (P0 M) (M 169) (M 170))) (q_ahead (q_total (pS (P0 M) 15 vv) (M 169) (M 170)) (q_points (pS (P0 M) 15 vv) (M 169) (M 170))) a) a) a) (fun _ a => (M 169 1 - a).toNat) ?_ jfuel 0 0 (by rw [jfuel_eq]; omega) ⟨by omega, by omega, rfl⟩
          rintro self2 c a ⟨hx1, hx2, hcc⟩ hself2
          rw [k3, pw_of (z := M 169 1) (by omega) (by omega), pw_of (z := a) (by omega) (by omega)]
          refine t_ck (by omega) ?_
          refine t_if (fun hc2 => ?_) (fun hc2 => ?_)
          · refine rQ ?_ (fun _ => ?_) ?_ (by rw [k2]; exact hv.1)
            · rw [k1 166 (by decide), pst_i (by decide), g1 166 (by decide)]; exact mA_0 M3
            · rw [hcc, show a = M 169 1 from by omega]; rfl
            · exact frX_t (frX_j (frX_t (frX_0A M3) (frX_I6 g1)) (by decide)) (frX_I6 k1)
          · have hsz := sZ_s (f := fun a => sZ (q_dif (q_ahead (q_total (P0 M) (M 169) (M 170)) (q_points (P0 M) (M 169) (M 170))) (q_ahead (q_total (pS (P0 M) 15 vv) (M 169) (M 170)) (q_points (pS (P0 M) 15 vv) (M 169) (M 170))) a) a) hx1
            refine t_lp2 (fun m b => 0 ≤ b ∧ b ≤ a ∧ m = c + sZ (q_dif (q_ahead (q_total (P0 M) (M 169) (M 170)) (q_points (P0 M) (M 169) (M 170))) (q_ahead (q_total (pS (P0 M) 15 vv) (M 169) (M 170)) (q_points (pS (P0 M) 15 vv) (M 169) (M 170))) a) b) (fun _ b => (a - b).toNat) ?_ jfuel c 0 (by rw [jfuel_eq]; omega) ⟨by omega, by omega, by rw [sZ_0]; omega⟩
            rintro self3 m b ⟨hb1, hb2, hm⟩ hself3
            rw [pw_of (z := b) (by omega) (by omega)]
            refine t_if (fun hc3 => ?_) (fun hc3 => ?_)
            · refine t_let ?_
              refine hself2 _ _ ⟨by omega, by omega, ?_⟩ (by omega)
              rw [hsz, hm, hcc, show b = a from by omega]
            · refine t_Re (ah2 a b (by omega) (by omega)) ?_
              have hsb := sZ_s (f := q_dif (q_ahead (q_total (P0 M) (M 169) (M 170)) (q_points (P0 M) (M 169) (M 170))) (q_ahead (q_total (pS (P0 M) 15 vv) (M 169) (M 170)) (q_points (pS (P0 M) 15 vv) (M 169) (M 170))) a) hb1
              have hbit := hbits a.toNat b.toNat (by omega) (by omega)
              rw [← pn_nat hx1, ← pn_nat hb1, decide_eq_true (show a < M 169 1 by omega), Bool.true_and] at hbit
              have hsh := pl_bit (n := n) (k := 6 * a.toNat + b.toNat) (by omega) (by omega)
              rw [show (((6 * a.toNat + b.toNat : Nat)) : Int) = 6 * a + b from by omega, ← hpr] at hsh
              rw [hsh, hbit]
              have x1 := q_ahead_b (q_total (P0 M) (M 169) (M 170)) (q_points (P0 M) (M 169) (M 170)) a b
              have x2 := q_ahead_b (q_total (pS (P0 M) 15 vv) (M 169) (M 170)) (q_points (pS (P0 M) 15 vv) (M 169) (M 170)) a b
              refine t_k ?_
              have tail : ∀ z, z = q_ahead (q_total (P0 M) (M 169) (M 170)) (q_points (P0 M) (M 169) (M 170)) a b → jT ((fun (s2_29 : Int) =>
                    jk (fun (s1_31 : Int) =>
                      jlet ((m + s1_31)) fun l2_33 =>
                      jlet (b + 1) fun l6_34 =>
                      self3 l2_33 l6_34) fun (k32 : Int → Option (Int × jM)) =>
                    if jw (q_ahead (q_total (pS (P0 M) 15 vv) (M 169) (M 170)) (q_points (pS (P0 M) 15 vv) (M 169) (M 170)) a b) = jw s2_29 then (
                      k32 0)
                    else (
                      k32 1)) z) (fun q => q.2 166 0 = 0 ∧ ((0 : Int) = 0 → q.1 = q_turn (q_ahead (q_total (P0 M) (M 169) (M 170)) (q_points (P0 M) (M 169) (M 170))) (q_ahead (q_total (pS (P0 M) 15 vv) (M 169) (M 170)) (q_points (pS (P0 M) 15 vv) (M 169) (M 170))) (M 169 1)) ∧ frX M3 q.2 ∧ bP (q.2 166)) := by
                intro z hz
                refine t_k ?_
                rw [hz, pw_of (z := q_ahead (q_total (P0 M) (M 169) (M 170)) (q_points (P0 M) (M 169) (M 170)) a b) (by omega) (by omega), pw_of (z := q_ahead (q_total (pS (P0 M) 15 vv) (M 169) (M 170)) (q_points (pS (P0 M) 15 vv) (M 169) (M 170)) a b) (by omega) (by omega)]
                refine t_if (fun c4 => ?_) (fun c4 => ?_)
                · refine t_let ?_
                  refine t_let ?_
                  refine hself3 _ _ ⟨by omega, by omega, ?_⟩ (by omega)
                  rw [hsb, hm]
                  have : q_dif (q_ahead (q_total (P0 M) (M 169) (M 170)) (q_points (P0 M) (M 169) (M 170))) (q_ahead (q_total (pS (P0 M) 15 vv) (M 169) (M 170)) (q_points (pS (P0 M) 15 vv) (M 169) (M 170))) a b = 0 := if_pos c4.symm
                  omega
                · refine t_let ?_
                  refine t_let ?_
                  refine hself3 _ _ ⟨by omega, by omega, ?_⟩ (by omega)
                  rw [hsb, hm]
                  have : q_dif (q_ahead (q_total (P0 M) (M 169) (M 170)) (q_points (P0 M) (M 169) (M 170))) (q_ahead (q_total (pS (P0 M) 15 vv) (M 169) (M 170)) (q_points (pS (P0 M) 15 vv) (M 169) (M 170))) a b = 1 := if_neg (fun q => c4 q.symm)
                  omega
              rcases x1 with q | q
              · rw [q]
                refine t_neg (by decide) ?_
                exact tail 0 q.symm
              · rw [q]
                refine t_pos (by decide) ?_
                exact tail 1 q.symm
        · refine t_lp2 (fun pr b => 0 ≤ b ∧ b ≤ a ∧ ∃ n : Nat, pr = (n : Int) ∧ n < 2 ^ 36 ∧ (∀ x y : Nat, y < x → x < 6 → n.testBit (6 * x + y) = ((decide ((x : Int) < a) || (decide ((x : Int) = a) && decide ((y : Int) < b))) && decide (q_ahead (q_total (P0 M) (M 169) (M 170)) (q_points (P0 M) (M 169) (M 170)) x y = 1)))) (fun _ b => (a - b).toNat) ?_ jfuel pr 0 (by rw [jfuel_eq]; omega) ⟨by omega, by omega, n, hpr, hn, fun x y h0 h1 => by
            rw [hbits x y h0 h1, decide_eq_false (show ¬ ((y : Int) < 0) by omega), Bool.and_false, Bool.or_false]⟩
          rintro self2 pr2 b ⟨hb1, hb2, n2, hpr2, hn2, hbits2⟩ hself2
          rw [pw_of (z := b) (by omega) (by omega)]
          refine t_if (fun hc3 => ?_) (fun hc3 => ?_)
          · refine t_let ?_
            refine hself _ _ ⟨by omega, by omega, n2, hpr2, hn2, fun x y h0 h1 => ?_⟩ (by omega)
            rw [hbits2 x y h0 h1]
            congr 1
            by_cases cx : (x : Int) < a
            · rw [decide_eq_true cx, decide_eq_true (show (x : Int) < a + 1 by omega)]; rfl
            · rw [decide_eq_false cx]
              by_cases cy : (x : Int) = a
              · rw [decide_eq_true cy, decide_eq_true (show (y : Int) < b by omega), decide_eq_true (show (x : Int) < a + 1 by omega)]; rfl
              · rw [decide_eq_false cy, decide_eq_false (show ¬ (x : Int) < a + 1 by omega)]; rfl
          · refine t_Re (ah1 a b (by omega) (by omega)) ?_
            refine t_k ?_
            have x1 := q_ahead_b (q_total (P0 M) (M 169) (M 170)) (q_points (P0 M) (M 169) (M 170)) a b
            rcases x1 with q | q
            · rw [q]
              refine t_pos (by decide) ?_
              refine t_let ?_
              refine t_let ?_
              refine hself2 _ _ ⟨by omega, by omega, n2, ?_, hn2, fun x y h0 h1 => ?_⟩ (by omega)
              · rw [hpr2]
                have := pl_or (n := n2) (m := 0) (by omega) (by omega)
                rw [Nat.or_zero] at this
                exact this
              · rw [hbits2 x y h0 h1]
                by_cases cxy : (x : Int) = a ∧ (y : Int) = b
                · rw [cxy.1, cxy.2, q]; simp
                · congr 2
                  by_cases cx : (x : Int) = a
                  · rw [decide_eq_true cx]
                    congr 1
                    apply decide_eq_decide.mpr
                    omega
                  · rw [decide_eq_false cx]; rfl
            · rw [q]
              refine t_neg (by decide) ?_
              refine t_let ?_
              refine t_let ?_
              have hsl := pl_sl (6 * a.toNat + b.toNat) (by omega)
              rw [show (((6 * a.toNat + b.toNat : Nat)) : Int) = 6 * a + b from by omega] at hsl
              have hpw : 2 ^ (6 * a.toNat + b.toNat) < 2 ^ 36 := Nat.pow_lt_pow_right (by decide) (by omega)
              refine hself2 _ _ ⟨by omega, by omega, n2 ||| 2 ^ (6 * a.toNat + b.toNat), ?_, Nat.or_lt_two_pow hn2 hpw, fun x y h0 h1 => ?_⟩ (by omega)
              · rw [hpr2, hsl]
                exact pl_or (by omega) (by omega)
              · rw [or_bit, hbits2 x y h0 h1]
                by_cases cxy : (x : Int) = a ∧ (y : Int) = b
                · rw [decide_eq_true (show 6 * x + y = 6 * a.toNat + b.toNat by omega), Bool.or_true, cxy.1, cxy.2, q, decide_eq_true (show b < b + 1 by omega)]
                  simp
                · rw [decide_eq_false (show ¬ 6 * x + y = 6 * a.toNat + b.toNat by omega), Bool.or_false]
                  congr 2
                  by_cases cx : (x : Int) = a
                  · rw [decide_eq_true cx]
                    congr 1
                    apply decide_eq_decide.mpr
                    omega
                  · rw [decide_eq_false cx]; rfl
    · refine stQ hI (code := 2) (val := 0) (by omega) (fun h => by omega) ?_ (fun M3 h8 => ?_)
      · unfold w_sways f_X9_sways
        rw [c_wJu0 hC rfl c1, eR, if_pos rfl, c_only hC rfl, eR, if_neg c2, if_neg (by decide), eT3, if_neg (by decide), if_neg (by decide), if_pos rfl]
        exact wQ1 (by decide) (fr8_r M)
      · obtain ⟨r6, r9, r0⟩ := ref_A h8
        obtain ⟨b9, b0, b6⟩ := ref_B hP h8
        unfold f_X10_sways
        refine t_let ?_
        refine t_Ve (e_all (by rw [b9]; exact hT)) ?_
        refine t_We (e_noJu0 (by rw [r9]; exact hT) (by rw [r9]; exact c1)) (t_pos (by decide) ?_)
        refine t_We (e_only1 (by rw [r9]; exact hT) (by rw [r9]; omega)) (t_neg (by decide) ?_)
        exact rQt (by decide) (frX_0A M3) (by rw [r6]; exact hcP.1)
  · refine stQ hI (code := 1) (val := 0) (by omega) (fun h => by omega) ?_ (fun M3 h8 => ?_)
    · unfold w_sways f_X9_sways
      rw [c_wJu1 hC rfl j1 c1, eR, if_neg (by decide), eT3, if_neg (by decide), if_pos rfl]
      exact wQ1 (by decide) (fr8_r M)
    · obtain ⟨r6, r9, r0⟩ := ref_A h8
      obtain ⟨b9, b0, b6⟩ := ref_B hP h8
      unfold f_X10_sways
      refine t_let ?_
      refine t_Ve (e_all (by rw [b9]; exact hT)) ?_
      refine t_We (e_noJu1 (by rw [r9]; exact hT) (jin_b j1) (by rw [r9]; exact c1)) (t_neg (by decide) ?_)
      exact rQt (by decide) (frX_0A M3) (by rw [r6]; exact hcP.1)
