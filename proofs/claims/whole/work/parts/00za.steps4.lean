/-! ===== steps of questions, IV ===== -/
/-- total -/
theorem z_11 {M : jM} (hI : Inv M) {a1 a2 : Int} (j1 : jin a1) (j2 : jin a2) : jT (s_11 a1 a2 M) Inv := by
  obtain ⟨hC, hT, hN, hP, hR, hQ, hcP⟩ := inv_ctx hI
  have t0 := hT.1
  have t1 := hT.2.1
  have t2 := hT.2.2.1
  have t3 := hT.2.2.2.1
  have hb2 := jin_b j2
  unfold s_11
  by_cases c1 : 0 ≤ a1 ∧ a1 < M 169 1
  · have x1 := q_points_b hcP.1 hT hN hcP.2.1 (s := a1) (by omega)
    have x2 := q_shown_b hT hN hcP.2.1 (s := a1) (by omega)
    have x3 := q_called_b (P := P0 M) (N := M 170) hT (c := 2) (s := a1) (by omega)
    have x4 := q_ded_b (P := P0 M) (N := M 170) hT a1
    have x5 := q_total_b hcP.1 hT hN hcP.2.1 (s := a1) (by omega)
    by_cases c2 : 0 ≤ a2 ∧ a2 ≤ 4
    · refine stQ hI (code := 0) (val := if a2 = 0 then q_points (P0 M) (M 169) (M 170) a1 else if a2 = 1 then q_shown (P0 M) (M 169) (M 170) a1 else if a2 = 2 then q_called (P0 M) (M 169) (M 170) a1 2 else if a2 = 3 then q_ded (P0 M) (M 169) (M 170) a1 else q_total (P0 M) (M 169) (M 170) a1) (by omega) (fun _ => by (repeat' split) <;> omega) ?_ (fun M3 h8 => ?_)
      · unfold w_total f_X9_total
        obtain ⟨⟨v, M4⟩, e4, u1, u2, u3, u4⟩ := c_tallied hC rfl hQ c1
        dsimp only at u1 u2 u3 u4
        subst u1
        have hf0 : M4 (111 + 6 + 7 * a1 + 4) 0 = q_called (P0 M) (M 169) (M 170) a1 2 := u3.2.2.2.2.2.2.2.2 0 (by omega) (by omega)
        rw [c_wSk0 hC rfl c1, eR, if_pos rfl, e4, eW, eC (ln_t (by omega)).2.2, pw_of hb2.1 hb2.2, if_neg (by omega), pw_of (z := 0) (by omega) (by omega), eC (by omega), hf0, u4.1, u4.2.1, u4.2.2, u3.2.2.2.2.2.1]
        by_cases d0 : a2 = 0
        · rw [if_pos d0, if_pos d0, eT3, if_pos rfl]
          exact wQ0 rfl (by omega) (fr8_7 hC.1 u2)
        by_cases d1 : a2 = 1
        · rw [if_neg d0, if_pos d1, if_neg d0, if_pos d1, eT3, if_pos rfl]
          exact wQ0 rfl (by omega) (fr8_7 hC.1 u2)
        by_cases d2 : a2 = 2
        · rw [if_neg d0, if_neg d1, if_pos d2, if_neg d0, if_neg d1, if_pos d2, eT3, if_pos rfl]
          exact wQ0 rfl (by omega) (fr8_7 hC.1 u2)
        by_cases d3 : a2 = 3
        · rw [if_neg d0, if_neg d1, if_neg d2, if_pos d3, if_neg d0, if_neg d1, if_neg d2, if_pos d3, eT3, if_pos rfl]
          exact wQ0 rfl (by omega) (fr8_7 hC.1 u2)
        · rw [if_neg d0, if_neg d1, if_neg d2, if_neg d3, if_neg d0, if_neg d1, if_neg d2, if_neg d3, eT3, if_pos rfl]
          exact wQ0 rfl (by omega) (fr8_7 hC.1 u2)
      · obtain ⟨r6, r9, r0⟩ := ref_A h8
        obtain ⟨b9, b0, b6⟩ := ref_B hP h8
        unfold f_X10_total
        refine t_let ?_
        refine t_Ve (e_all (by rw [b9]; exact hT)) ?_
        refine t_We (e_noSk0 (by rw [r9]; exact hT) (by rw [r9]; exact c1)) (t_pos (by decide) ?_)
        rw [e_in hb2 (by omega) (by omega), eR, eK, b2_t c2, if_neg (by decide)]
        refine t_We (e_thr0 _ _) (t_pos (by decide) ?_)
        rw [pw_of hb2.1 hb2.2]
        by_cases d4 : a2 = 4
        · rw [if_pos (by omega), if_neg (by omega), if_neg (by omega), if_neg (by omega), if_neg (by omega)]
          exact r_total r6 r9 r0 hT hN hR hcP (by omega) (frX_0A M3) (mA_0 M3)
        rw [if_neg (by omega)]
        by_cases d0 : a2 = 0
        · rw [if_pos d0, if_pos d0]
          refine t_W (t_mono (e_points (by rw [r6]; exact hcP.1) (by rw [r9]; exact hT) (by rw [r0]; exact hN) (by rw [r6, r9]; exact hcP.2.1) (by omega)) (fun q hq => ?_))
          rw [r6, r9, r0] at hq
          exact rQ (by rw [hq.2 166 (by decide)]; exact mA_0 M3) (fun _ => hq.1) (frX_t (frX_0A M3) (frX_3 hq.2)) (by rw [hq.2 166 (by decide), r6]; exact hcP.1)
        by_cases d1 : a2 = 1
        · rw [if_neg d0, if_pos d1, if_neg d0, if_pos d1]
          refine t_W (t_mono (e_shown (by rw [r6]; exact hcP.1) (by rw [r9]; exact hT) (by rw [r0]; exact hN) (by rw [r6, r9]; exact hcP.2.1) (by omega)) (fun q hq => ?_))
          rw [r6, r9, r0] at hq
          exact rQ (by rw [hq.2 166 (by decide)]; exact mA_0 M3) (fun _ => hq.1) (frX_t (frX_0A M3) (frX_3 hq.2)) (by rw [hq.2 166 (by decide), r6]; exact hcP.1)
        by_cases d2 : a2 = 2
        · rw [if_neg d0, if_neg d1, if_pos d2, if_neg d0, if_neg d1, if_pos d2]
          refine t_Re (e_called (by rw [r6]; exact hcP.1) (by rw [r9]; exact hT) (by rw [r0]; exact hN) (by omega) (by omega)) ?_
          exact rQ (mA_0 M3) (fun _ => by rw [r6, r9, r0]) (frX_0A M3) (by rw [r6]; exact hcP.1)
        · rw [if_neg d0, if_neg d1, if_neg d2, if_neg d0, if_neg d1, if_neg d2, if_pos (by omega)]
          refine t_W (t_mono (e_ded (by rw [r6]; exact hcP.1) (by rw [r9]; exact hT) (by rw [r0]; exact hN) (by rw [r9]; exact hR) (by omega)) (fun q hq => ?_))
          rw [r6, r9, r0] at hq
          exact rQ (by rw [hq.2 166 (by decide)]; exact mA_0 M3) (fun _ => hq.1) (frX_t (frX_0A M3) (frX_34 (fun a q0 q1 => hq.2 a q1))) (by rw [hq.2 166 (by decide), r6]; exact hcP.1)
    · refine stQ hI (code := 2) (val := 0) (by omega) (fun h => by omega) ?_ (fun M3 h8 => ?_)
      · unfold w_total f_X9_total
        obtain ⟨⟨v, M4⟩, e4, u1, u2, u3, u4⟩ := c_tallied hC rfl hQ c1
        dsimp only at u1 u2 u3 u4
        subst u1
        rw [c_wSk0 hC rfl c1, eR, if_pos rfl, e4, eW, eC (ln_t (by omega)).2.2, pw_of hb2.1 hb2.2, if_pos (by omega), eT3, if_neg (by decide), if_neg (by decide), if_pos rfl]
        exact wQ1 (by decide) (fr8_7 hC.1 u2)
      · obtain ⟨r6, r9, r0⟩ := ref_A h8
        obtain ⟨b9, b0, b6⟩ := ref_B hP h8
        unfold f_X10_total
        refine t_let ?_
        refine t_Ve (e_all (by rw [b9]; exact hT)) ?_
        refine t_We (e_noSk0 (by rw [r9]; exact hT) (by rw [r9]; exact c1)) (t_pos (by decide) ?_)
        rw [e_in hb2 (by omega) (by omega), eR, eK, b2_f c2, if_pos (by decide)]
        refine t_We (e_thr1 _ _) (t_neg (by decide) ?_)
        exact rQt (by decide) (frX_0A M3) (by rw [r6]; exact hcP.1)
  · refine stQ hI (code := 1) (val := 0) (by omega) (fun h => by omega) ?_ (fun M3 h8 => ?_)
    · unfold w_total f_X9_total
      rw [c_wSk1 hC rfl j1 c1, eR, if_neg (by decide), eT3, if_neg (by decide), if_pos rfl]
      exact wQ1 (by decide) (fr8_r M)
    · obtain ⟨r6, r9, r0⟩ := ref_A h8
      obtain ⟨b9, b0, b6⟩ := ref_B hP h8
      unfold f_X10_total
      refine t_let ?_
      refine t_Ve (e_all (by rw [b9]; exact hT)) ?_
      refine t_We (e_noSk1 (by rw [r9]; exact hT) (jin_b j1) (by rw [r9]; exact c1)) (t_neg (by decide) ?_)
      exact rQt (by decide) (frX_0A M3) (by rw [r6]; exact hcP.1)
/-- rule -/
theorem z_12 {M : jM} (hI : Inv M) {a1 a2 : Int} (j1 : jin a1) (j2 : jin a2) : jT (s_12 a1 a2 M) Inv := by
  obtain ⟨hC, hT, hN, hP, hR, hQ, hcP⟩ := inv_ctx hI
  have t0 := hT.1
  have t1 := hT.2.1
  have t2 := hT.2.2.1
  have t3 := hT.2.2.2.1
  have hb2 := jin_b j2
  have he := hC.1
  unfold s_12
  by_cases c1 : 0 ≤ a1 ∧ a1 < M 169 1
  · by_cases c2 : 0 ≤ a2 ∧ a2 < M 169 3
    · have x := q_rule_b (P0 M) (M 169) (M 170) a1 a2
      refine stQ hI (code := 0) (val := q_rule (P0 M) (M 169) (M 170) a1 a2) (by omega) (fun _ => by omega) ?_ (fun M3 h8 => ?_)
      · unfold w_rule f_X9_rule
        obtain ⟨⟨v, M4⟩, e4, u1, u2, u3, u4⟩ := c_tallied hC rfl hQ c1
        dsimp only at u1 u2 u3 u4
        subst u1
        have hC4 := cE_fr hC u2
        obtain ⟨⟨w, M5⟩, e5, v1, v2⟩ := c_amount (P := P0 M) (N := M 170) (fc := 111 + 6 + 7 * a1 + 4) (s := a1) he (by omega) (ln_t (by omega)).1 hT (by omega) c2 (hC4.2.2.2.2.2.2.2.2.2.2.2.2.1 a2 c2.1 c2.2) u3.2.2.2.2.2.2.2.2
        dsimp only at v1 v2
        rw [c_wSk0 hC rfl c1, eR, if_pos rfl, eK, pw_of hb2.1 hb2.2, if_neg (by omega), eC (kd_e he), hC.2.2.2.2.2.2.2.2.1, pw_of (z := M 169 3) (by omega) (by omega), if_pos c2.2, e4, eW, eC (ln_t (by omega)).2.2, e5, eW, eT3, if_pos rfl]
        exact wQ0 v1 (by omega) (fr8_7 he (fr7_t u2 (fun a q0 q1 => v2 a q1)))
      · obtain ⟨r6, r9, r0⟩ := ref_A h8
        obtain ⟨b9, b0, b6⟩ := ref_B hP h8
        unfold f_X10_rule
        refine t_let ?_
        refine t_Ve (e_all (by rw [b9]; exact hT)) ?_
        refine t_We (e_noSk0 (by rw [r9]; exact hT) (by rw [r9]; exact c1)) (t_pos (by decide) ?_)
        rw [eC (by decide), pw_of (z := 3) (by omega) (by omega), r9, e_in hb2 (by omega) (by omega), eR, eK, b2_t (by omega), if_neg (by decide)]
        refine t_We (e_thr0 _ _) (t_pos (by decide) ?_)
        refine t_W (t_mono (e_rule (by rw [r6]; exact hcP.1) (by rw [r9]; exact hT) (by rw [r0]; exact hN) (by rw [r9]; exact hR) (by omega) (by rw [r9]; exact c2)) (fun q hq => ?_))
        rw [r6, r9, r0] at hq
        exact rQ (by rw [hq.2 166 (by decide)]; exact mA_0 M3) (fun _ => hq.1) (frX_t (frX_0A M3) (frX_34 (fun a q0 q1 => hq.2 a q1))) (by rw [hq.2 166 (by decide), r6]; exact hcP.1)
    · refine stQ hI (code := 2) (val := 0) (by omega) (fun h => by omega) ?_ (fun M3 h8 => ?_)
      · unfold w_rule f_X9_rule
        rw [c_wSk0 hC rfl c1, eR, if_pos rfl, eK, pw_of hb2.1 hb2.2]
        by_cases c3 : a2 < 0
        · rw [if_pos c3, eT3, if_neg (by decide), if_neg (by decide), if_pos rfl]
          exact wQ1 (by decide) (fr8_r M)
        · rw [if_neg c3, eC (kd_e he), hC.2.2.2.2.2.2.2.2.1, pw_of (z := M 169 3) (by omega) (by omega), if_neg (by omega), eT3, if_neg (by decide), if_neg (by decide), if_pos rfl]
          exact wQ1 (by decide) (fr8_r M)
      · obtain ⟨r6, r9, r0⟩ := ref_A h8
        obtain ⟨b9, b0, b6⟩ := ref_B hP h8
        unfold f_X10_rule
        refine t_let ?_
        refine t_Ve (e_all (by rw [b9]; exact hT)) ?_
        refine t_We (e_noSk0 (by rw [r9]; exact hT) (by rw [r9]; exact c1)) (t_pos (by decide) ?_)
        rw [eC (by decide), pw_of (z := 3) (by omega) (by omega), r9, e_in hb2 (by omega) (by omega), eR, eK, b2_f (by omega), if_pos (by decide)]
        refine t_We (e_thr1 _ _) (t_neg (by decide) ?_)
        exact rQt (by decide) (frX_0A M3) (by rw [r6]; exact hcP.1)
  · refine stQ hI (code := 1) (val := 0) (by omega) (fun h => by omega) ?_ (fun M3 h8 => ?_)
    · unfold w_rule f_X9_rule
      rw [c_wSk1 hC rfl j1 c1, eR, if_neg (by decide), eT3, if_neg (by decide), if_pos rfl]
      exact wQ1 (by decide) (fr8_r M)
    · obtain ⟨r6, r9, r0⟩ := ref_A h8
      obtain ⟨b9, b0, b6⟩ := ref_B hP h8
      unfold f_X10_rule
      refine t_let ?_
      refine t_Ve (e_all (by rw [b9]; exact hT)) ?_
      refine t_We (e_noSk1 (by rw [r9]; exact hT) (jin_b j1) (by rw [r9]; exact c1)) (t_neg (by decide) ?_)
      exact rQt (by decide) (frX_0A M3) (by rw [r6]; exact hcP.1)
theorem cQ_16 {P T : Int → Int} {v : Int} (h : cQ P T 600 0) (hv : 0 ≤ v ∧ v ≤ 600) : cQ (pS P 16 v) T v 0 := by
  obtain ⟨⟨p15, -, p17, p18, p19, p20, p21, p22⟩, h15, h16, h17, h19, h22⟩ := h
  refine ⟨?_, by rw [pS_n (by decide)]; exact h15, pS_s _ _ _, by rw [pS_n (by decide)]; exact h17, by rw [pS_n (by decide)]; exact h19, by rw [pS_n (by decide)]; exact h22⟩
  unfold bP
  rw [pS_s, pS_n (by decide), pS_n (by decide), pS_n (by decide), pS_n (by decide), pS_n (by decide), pS_n (by decide), pS_n (by decide)]
  exact ⟨p15, hv, p17, p18, p19, p20, p21, p22⟩
/-- led -/
theorem z_36 {M : jM} (hI : Inv M) {a1 : Int} (j1 : jin a1) : jT (s_36 a1 M) Inv := by
  obtain ⟨hC, hT, hN, hP, hR, hQ, hcP⟩ := inv_ctx hI
  have t0 := hT.1
  have t1 := hT.2.1
  have t2 := hT.2.2.1
  have t3 := hT.2.2.2.1
  have hb1 := jin_b j1
  unfold s_36
  by_cases c1 : 0 ≤ a1 ∧ a1 ≤ 600
  · have hQ2 := cQ_16 hQ c1
    have hcP2 := cQ_cP hT hQ2
    have hb := q_first_b (p := fun s => b2 (q_rank (q_total (pS (P0 M) 16 a1) (M 169) (M 170)) (q_points (pS (P0 M) 16 a1) (M 169) (M 170)) (M 169 1) s = 0)) (m := (M 169 1).toNat) (i := 0) (by omega)
    refine stQ hI (code := 0) (val := q_at (q_total (pS (P0 M) 16 a1) (M 169) (M 170)) (q_points (pS (P0 M) 16 a1) (M 169) (M 170)) (M 169 1) 0) (by omega) (fun _ => by unfold q_at; omega) ?_ (fun M3 h8 => ?_)
    · unfold w_led f_X9_led
      obtain ⟨M4, e4, u1, u2, u3⟩ := c_weighAll hC hQ2
      rw [eK, pw_of hb1.1 hb1.2, if_neg (by omega), pw_of (z := 600) (by omega) (by omega), if_pos c1.2, eC (kd_e hC.1), e4, eV, c_at (cE_fr hC u1) hcP2 u2.1 u3 (by omega), eR, eT3, if_pos rfl]
      exact wQ0 rfl (by unfold q_at; omega) (fr8_7 hC.1 u1)
    · obtain ⟨r6, r9, r0⟩ := ref_A h8
      obtain ⟨b9, b0, b6⟩ := ref_B hP h8
      unfold f_X10_led
      refine t_let ?_
      refine t_Ve (e_all (by rw [b9]; exact hT)) ?_
      rw [e_in hb1 (by omega) (by omega), eR, eK, b2_t c1, if_neg (by decide)]
      refine t_We (e_thr0 _ _) (t_pos (by decide) ?_)
      refine t_let ?_
      refine t_V (t_mono (ref_lays (pS_jst r6 _ _) (by rw [pst_f (by decide)]; exact r9) (by rw [pst_f (by decide)]; exact r0) hT hN hR hcP2) (fun M6 h6 => ?_))
      obtain ⟨g1, g2, g3, g4, g5, g6, g7⟩ := h6
      refine t_Re (e_rankedAt (by rw [g3]; exact hT) g5 (by omega)) ?_
      refine rQ (by rw [g1 166 (by decide), pst_i (by decide)]; exact mA_0 M3) (fun _ => ?_) (frX_t (frX_j (frX_0A M3) (by decide)) (frX_I6 g1)) (by rw [g2]; exact hcP2.1)
      rw [g3]
      exact q_at_congr g6 g7
  · refine stQ hI (code := 1) (val := 0) (by omega) (fun h => by omega) ?_ (fun M3 h8 => ?_)
    · unfold w_led f_X9_led
      rw [eK, pw_of hb1.1 hb1.2]
      by_cases c3 : a1 < 0
      · rw [if_pos c3, eT3, if_neg (by decide), if_pos rfl]
        exact wQ1 (by decide) (fr8_r M)
      · rw [if_neg c3, pw_of (z := 600) (by omega) (by omega), if_neg (by omega), eT3, if_neg (by decide), if_pos rfl]
        exact wQ1 (by decide) (fr8_r M)
    · obtain ⟨r6, r9, r0⟩ := ref_A h8
      obtain ⟨b9, b0, b6⟩ := ref_B hP h8
      unfold f_X10_led
      refine t_let ?_
      refine t_Ve (e_all (by rw [b9]; exact hT)) ?_
      rw [e_in hb1 (by omega) (by omega), eR, eK, b2_f c1, if_pos (by decide)]
      refine t_We (e_thr1 _ _) (t_neg (by decide) ?_)
      exact rQt (by decide) (frX_0A M3) (by rw [r6]; exact hcP.1)
theorem cQ_22 {P T : Int → Int} (h : cQ P T 600 0) : cQ (pS P 22 1) T 600 1 := by
  obtain ⟨⟨p15, p16, p17, p18, p19, p20, p21, -⟩, h15, h16, h17, h19, h22⟩ := h
  refine ⟨?_, by rw [pS_n (by decide)]; exact h15, by rw [pS_n (by decide)]; exact h16, by rw [pS_n (by decide)]; exact h17, by rw [pS_n (by decide)]; exact h19, pS_s _ _ _⟩
  unfold bP
  rw [pS_s, pS_n (by decide), pS_n (by decide), pS_n (by decide), pS_n (by decide), pS_n (by decide), pS_n (by decide), pS_n (by decide)]
  exact ⟨p15, p16, p17, p18, p19, p20, p21, by omega⟩
/-- clean -/
theorem z_38 {M : jM} (hI : Inv M) {a1 : Int} (j1 : jin a1) : jT (s_38 a1 M) Inv := by
  obtain ⟨hC, hT, hN, hP, hR, hQ, hcP⟩ := inv_ctx hI
  have t0 := hT.1
  have t1 := hT.2.1
  have t2 := hT.2.2.1
  have t3 := hT.2.2.2.1
  unfold s_38
  by_cases c1 : 0 ≤ a1 ∧ a1 < M 169 1
  · have hQ2 := cQ_22 hQ
    have hcP2 := cQ_cP hT hQ2
    have x5 := q_total_b hcP2.1 hT hN hcP2.2.1 (s := a1) (by omega)
    refine stQ hI (code := 0) (val := q_total (pS (P0 M) 22 1) (M 169) (M 170) a1) (by omega) (fun _ => by omega) ?_ (fun M3 h8 => ?_)
    · unfold w_clean f_X9_clean
      obtain ⟨l4, l5, -⟩ := ln_t (i := a1) (by omega)
      obtain ⟨M4, e4, u1, u2, u3⟩ := c_weigh (t := 111 + 6 + 7 * a1) (by omega) l4 l5 hC c1 hQ2.1 hQ2.2.1 hQ2.2.2.1 hQ2.2.2.2.1 hQ2.2.2.2.2.1 (Or.inr ⟨rfl, hQ2.2.2.2.2.2⟩)
      rw [c_wSk0 hC rfl c1, eR, if_pos rfl, pw_of (z := a1) (by omega) (by omega), eC (by omega), eC (kd_e hC.1), e4, eV, eT3, if_pos rfl]
      exact wQ0 u3.2.2 (by omega) (fr8_7 hC.1 (fun a q0 q1 => u1 a (by omega) q1))
    · obtain ⟨r6, r9, r0⟩ := ref_A h8
      obtain ⟨b9, b0, b6⟩ := ref_B hP h8
      unfold f_X10_clean
      refine t_let ?_
      refine t_Ve (e_all (by rw [b9]; exact hT)) ?_
      refine t_We (e_noSk0 (by rw [r9]; exact hT) (by rw [r9]; exact c1)) (t_pos (by decide) ?_)
      refine t_let ?_
      exact r_total (pS_jst r6 _ _) (by rw [pst_f (by decide)]; exact r9) (by rw [pst_f (by decide)]; exact r0) hT hN hR hcP2 (by omega) (frX_j (frX_0A M3) (by decide)) (by rw [pst_i (by decide)]; exact mA_0 M3)
  · refine stQ hI (code := 1) (val := 0) (by omega) (fun h => by omega) ?_ (fun M3 h8 => ?_)
    · unfold w_clean f_X9_clean
      rw [c_wSk1 hC rfl j1 c1, eR, if_neg (by decide), eT3, if_neg (by decide), if_pos rfl]
      exact wQ1 (by decide) (fr8_r M)
    · obtain ⟨r6, r9, r0⟩ := ref_A h8
      obtain ⟨b9, b0, b6⟩ := ref_B hP h8
      unfold f_X10_clean
      refine t_let ?_
      refine t_Ve (e_all (by rw [b9]; exact hT)) ?_
      refine t_We (e_noSk1 (by rw [r9]; exact hT) (jin_b j1) (by rw [r9]; exact c1)) (t_neg (by decide) ?_)
      exact rQt (by decide) (frX_0A M3) (by rw [r6]; exact hcP.1)
/-- octet -/
theorem z_40 {M : jM} (hI : Inv M) {a1 : Int} (j1 : jin a1) : jT (s_40 a1 M) Inv := by
  have hb1 := jin_b j1
  obtain ⟨w1, w2, w3, w4⟩ := hI.2.2.2.2.1
  have hInv := Inv_fr hI (frQ_0 M 0) (bP_0 hI.2.2.2.2.2.2)
  unfold s_40 f_X9_octet f_X10_octet
  rw [eL, pst_i (show (31 : Int) ≠ 0 by decide), w1, e_in hb1 (by omega) (by omega), eR, pw_of hb1.1 hb1.2, pw_of (z := M 164 1) (by omega) (by omega), pst_f (show (179 : Int) ≠ 166 by decide)]
  by_cases c : 0 ≤ a1 ∧ a1 ≤ M 164 1 - 1
  · obtain ⟨x1, x2, x3⟩ := w4 a1 c.1 (by omega)
    rw [if_neg (by omega), if_neg (by omega), eC (by omega), eR, b2_t c, if_neg (by decide), eC (by omega), eW, x1]
    exact t_ck rfl (t_some hInv)
  · rw [b2_f c, if_pos (show jw 0 = 0 by decide)]
    by_cases c3 : a1 < 0
    · rw [if_pos c3, eR, eW]
      exact t_ck rfl (t_some hInv)
    · rw [if_neg c3, if_pos (by omega), eR, eW]
      exact t_ck rfl (t_some hInv)
