/-! ===== raise, feed, end ===== -/
set_option maxHeartbeats 1000000 in
theorem z_34 {M : jM} (hI : Inv M) {a1 a2 a3 : Int} (j1 : jin a1) (j2 : jin a2) (j3 : jin a3) : jT (s_34 a1 a2 a3 M) Inv := by
  obtain ⟨hC, hT, hN, hP, hR, hQ, hcP⟩ := inv_ctx hI
  have t0 := hT.1
  have t1 := hT.2.1
  have t2 := hT.2.2.1
  have t3 := hT.2.2.2.1
  have he := hC.1
  unfold s_34
  by_cases c1 : (0 ≤ a1 ∧ a1 < M 169 1) ∧ q_is (P0 M) (M 169) (M 170) a1 a2 ≠ 0
  · have hkk := q_is_k c1.2
    have hs6 : 0 ≤ a1 ∧ a1 < 6 := by omega
    have tt := hT.2.2.2.2.2.2.1 a1 c1.1.1 (by omega)
    by_cases c2 : 0 ≤ a3 ∧ a3 < M 169 2
    · have hvv := ((hC.2.2.2.2.2.2.2.2.2.2.2.2.2 a1 c1.1.1 c1.1.2).2.2.2.1 a2 hkk.1 hkk.2).2.2.2.2 a3 c2.1 c2.2
      have hv := hN.1 (9 * (12 * a1 + a2) + a3) (by omega) (by omega)
      have hvx : vix a1 (a2 * 9 + a3) = 9 * (12 * a1 + a2) + a3 := by unfold vix; rw [if_pos (by omega)]; omega
      by_cases c3 : M 170 (9 * (12 * a1 + a2) + a3) < 5
      · have hN' : bN (pS (M 170) (9 * (12 * a1 + a2) + a3) (M 170 (9 * (12 * a1 + a2) + a3) + 1)) := bN_upd hN (by omega) (by omega) (by omega) (by omega) (by omega) (by omega) (by omega) (by omega) (by omega) (by omega)
        have tb1 := q_total_b hcP.1 hT hN hcP.2.1 hs6
        have tb2 := q_total_b hcP.1 hT hN' hcP.2.1 hs6
        refine stQ hI (code := 0) (val := q_total (P0 M) (M 169) (pS (M 170) (9 * (12 * a1 + a2) + a3) (M 170 (9 * (12 * a1 + a2) + a3) + 1)) a1 - q_total (P0 M) (M 169) (M 170) a1) (by omega) (fun _ => by omega) ?_ (fun M3 h8 => ?_)
        · unfold w_raise f_X9_raise f_X9_voteOfGrade
          have hps : pS (P0 M) 15 ((2 ^ (M 169 2).toNat - 1 : Nat) : Int) = P0 M := by rw [← hQ.2.1]; exact pS_self _ _
          obtain ⟨⟨t1', M13⟩, e13, u1, u2⟩ := c_totalBy (v := ((2 ^ (M 169 2).toNat - 1 : Nat) : Int)) hC rfl hQ c1.1 (by rw [hps]; exact hcP)
          dsimp only at u1 u2
          rw [hps] at u1
          have hg13 : M13 (M 1 3 + 16 + 1 + 6 * a1 + 5) = M (M 1 3 + 16 + 1 + 6 * a1 + 5) := u2 _ (by omega) (by omega)
          have hC13 := cE_fr hC u2
          generalize hM17 : jst M13 (M 1 3 + 16 + 1 + 6 * a1 + 5) (a2 * 9 + a3) (M 170 (9 * (12 * a1 + a2) + a3) + 1) = M17
          have hE17 : rE (M 1 3) M17 (M 169) (pS (M 170) (9 * (12 * a1 + a2) + a3) (M 170 (9 * (12 * a1 + a2) + a3) + 1)) := by
            rw [← hM17, ← hvx]
            have := rE_vote (v := M 170 (vix a1 (a2 * 9 + a3)) + 1) hT hC13.2.2.2.2 (sk := a1) (wh := a2 * 9 + a3) hs6 (by omega)
            exact this
          have hC17 : cE (M 1 3) M17 (M 169) (pS (M 170) (9 * (12 * a1 + a2) + a3) (M 170 (9 * (12 * a1 + a2) + a3) + 1)) := ⟨he, hT, hN', hC.2.2.2.1, hE17⟩
          have e17 : M17 1 3 = M 1 3 := by rw [← hM17, pst_c (by omega), u2 1 (by omega) (by omega)]
          obtain ⟨⟨t2', M21⟩, e21, x1, x2⟩ := c_totalBy (v := ((2 ^ (M 169 2).toNat - 1 : Nat) : Int)) hC17 e17 hQ c1.1 (by rw [hps]; exact hcP)
          dsimp only at x1 x2
          rw [hps] at x1
          have hg21 : M21 (M 1 3 + 16 + 1 + 6 * a1 + 5) = M17 (M 1 3 + 16 + 1 + 6 * a1 + 5) := x2 _ (by omega) (by omega)
          rw [c_wAt0 hC rfl hQ.2.2.1 c1, eR, if_pos rfl, c_wJu0 hC rfl c2, eR, if_pos rfl, eC (kd_e he), pw_of (z := a1) (by omega) (by omega), eC (by omega), eR, pw_of (z := a2 * 9 + a3) (by omega) (by omega), eC (by omega), hvv, pw_of (z := M 170 (9 * (12 * a1 + a2) + a3)) (by omega) (by omega), pw_of (z := 5) (by omega) (by omega), if_pos c3, c_evJ hC rfl, eR, e13, eW, eC (by omega), eC (by omega), eL, hg13, hvv, hM17, c_evJ hC17 e17, eR, e21, eW, eC (by omega), eC (by omega), eL, eT3, if_pos rfl]
          refine wQ0 (by rw [u1, x1]) (by omega) (fun a q0 q1 q2 q3 => ?_)
          by_cases ca : a = M 1 3 + 16 + 1 + 6 * a1 + 5
          · subst ca
            funext j
            rw [pst_a, hg21, ← hM17, pst_s]
            by_cases cj : j = a2 * 9 + a3
            · rw [if_pos cj, cj, hvv]; omega
            · rw [if_neg cj, pst_i cj, hg13]
          · rw [pst_f ca, x2 a q2 (by rcases he with h | h <;> omega), ← hM17, pst_f ca, u2 a q2 (by rcases he with h | h <;> omega)]
        · obtain ⟨r6, r9, r0⟩ := ref_A h8
          obtain ⟨b9, b0, b6⟩ := ref_B hP h8
          unfold f_X10_raise
          refine t_let ?_
          refine t_We (e_noTry0 (by rw [b9]; exact hT) (by rw [b0]; exact hN) b6 (by rw [b9]; exact c1.1) (by rw [r6, b9, b0]; exact c1.2)) (t_pos (by decide) ?_)
          refine t_We (e_noJu0 (by rw [r9]; exact hT) (by rw [r9]; exact c2)) (t_pos (by decide) ?_)
          refine t_Re rfl ?_
          refine t_let ?_
          rw [show 0 + 9 * (12 * a1 + a2) + a3 = 9 * (12 * a1 + a2) + a3 from by omega, pw_of (z := 9 * (12 * a1 + a2) + a3) (by omega) (by omega), r0, pw_of (z := M 170 (9 * (12 * a1 + a2) + a3)) (by omega) (by omega), pw_of (z := 5) (by omega) (by omega)]
          refine t_ck (by omega) ?_
          refine t_k ?_
          refine t_neg (by omega) ?_
          refine t_We (e_thr0 _ _) (t_pos (by decide) ?_)
          refine t_W (t_mono (e_total (by rw [r6]; exact hcP.1) (by rw [r9]; exact hT) (by rw [r0]; exact hN) (by rw [r6, r9]; exact hcP.2.1) (by rw [r9]; exact hR) hs6) (fun p hp => ?_))
          obtain ⟨p1, p2⟩ := hp
          rw [r6, r9, r0] at p1
          refine t_ck (by omega) ?_
          refine t_ck (by omega) ?_
          refine t_let ?_
          have f6 : p.2 166 = P0 M := by rw [p2 166 (by decide) (by decide)]; exact r6
          have f9 : p.2 169 = M 169 := by rw [p2 169 (by decide) (by decide)]; exact r9
          have f0 : p.2 170 = M 170 := by rw [p2 170 (by decide) (by decide)]; exact r0
          rw [f0]
          have g0 : jst p.2 170 (9 * (12 * a1 + a2) + a3) (M 170 (9 * (12 * a1 + a2) + a3) + 1) 170 = pS (M 170) (9 * (12 * a1 + a2) + a3) (M 170 (9 * (12 * a1 + a2) + a3) + 1) := by
            funext j
            rw [pst_a, f0]
            rfl
          have g6 : jst p.2 170 (9 * (12 * a1 + a2) + a3) (M 170 (9 * (12 * a1 + a2) + a3) + 1) 166 = P0 M := by rw [pst_f (by decide)]; exact f6
          have g9 : jst p.2 170 (9 * (12 * a1 + a2) + a3) (M 170 (9 * (12 * a1 + a2) + a3) + 1) 169 = M 169 := by rw [pst_f (by decide)]; exact f9
          refine t_W (t_mono (e_total (M := jst p.2 170 (9 * (12 * a1 + a2) + a3) (M 170 (9 * (12 * a1 + a2) + a3) + 1)) (by rw [g6]; exact hcP.1) (by rw [g9]; exact hT) (by rw [g0]; exact hN') (by rw [g6, g9]; exact hcP.2.1) (by rw [g9]; exact hR) hs6) (fun q hq => ?_))
          obtain ⟨q1, q2⟩ := hq
          rw [g6, g9, g0] at q1
          refine t_ck (by omega) ?_
          refine t_ck (by omega) ?_
          refine t_let ?_
          have h0 : q.2 170 = pS (M 170) (9 * (12 * a1 + a2) + a3) (M 170 (9 * (12 * a1 + a2) + a3) + 1) := by rw [q2 170 (by decide) (by decide)]; exact g0
          have h6 : q.2 166 = P0 M := by rw [q2 166 (by decide) (by decide)]; exact g6
          refine rQ ?_ (fun _ => by rw [p1, q1]) ⟨fun a x0 x1 => ?_, fun j x0 x1 => ?_⟩ (by rw [pst_f (by decide), h6]; exact hcP.1)
          · rw [pst_f (by decide), q2 166 (by decide) (by decide), pst_f (by decide), p2 166 (by decide) (by decide)]
            exact mA_0 M3
          · by_cases ca : a = 170
            · subst ca
              funext j
              rw [pst_a, h0, pS_s]
              by_cases cj : j = 9 * (12 * a1 + a2) + a3
              · rw [if_pos cj, cj, ← b0, pst_f (by decide)]; omega
              · rw [if_neg cj, pS_n cj, ← b0, pst_f (by decide)]
            · rw [pst_f ca, q2 a (by omega) (by omega), pst_f ca, p2 a (by omega) (by omega)]
              exact (frX_0A M3).1 a x0 x1
          · rw [pst_f (by decide), q2 166 (by decide) (by decide), pst_f (by decide), p2 166 (by decide) (by decide)]
            exact (frX_0A M3).2 j x0 x1
      · refine stQ hI (code := 2) (val := 0) (by omega) (fun h => by omega) ?_ (fun M3 h8 => ?_)
        · unfold w_raise f_X9_raise f_X9_voteOfGrade
          rw [c_wAt0 hC rfl hQ.2.2.1 c1, eR, if_pos rfl, c_wJu0 hC rfl c2, eR, if_pos rfl, eC (kd_e he), pw_of (z := a1) (by omega) (by omega), eC (by omega), eR, pw_of (z := a2 * 9 + a3) (by omega) (by omega), eC (by omega), hvv, pw_of (z := M 170 (9 * (12 * a1 + a2) + a3)) (by omega) (by omega), pw_of (z := 5) (by omega) (by omega), if_neg c3, eT3, if_neg (by decide), if_neg (by decide), if_pos rfl]
          exact wQ1 (by decide) (fr8_r M)
        · obtain ⟨r6, r9, r0⟩ := ref_A h8
          obtain ⟨b9, b0, b6⟩ := ref_B hP h8
          unfold f_X10_raise
          refine t_let ?_
          refine t_We (e_noTry0 (by rw [b9]; exact hT) (by rw [b0]; exact hN) b6 (by rw [b9]; exact c1.1) (by rw [r6, b9, b0]; exact c1.2)) (t_pos (by decide) ?_)
          refine t_We (e_noJu0 (by rw [r9]; exact hT) (by rw [r9]; exact c2)) (t_pos (by decide) ?_)
          refine t_Re rfl ?_
          refine t_let ?_
          rw [show 0 + 9 * (12 * a1 + a2) + a3 = 9 * (12 * a1 + a2) + a3 from by omega, pw_of (z := 9 * (12 * a1 + a2) + a3) (by omega) (by omega), r0, pw_of (z := M 170 (9 * (12 * a1 + a2) + a3)) (by omega) (by omega), pw_of (z := 5) (by omega) (by omega)]
          refine t_ck (by omega) ?_
          refine t_k ?_
          refine t_pos (by omega) ?_
          refine t_We (e_thr1 _ _) (t_neg (by decide) ?_)
          exact rQt (by decide) (frX_0A M3) (by rw [r6]; exact hcP.1)
    · refine stQ hI (code := 1) (val := 0) (by omega) (fun h => by omega) ?_ (fun M3 h8 => ?_)
      · unfold w_raise f_X9_raise
        rw [c_wAt0 hC rfl hQ.2.2.1 c1, eR, if_pos rfl, c_wJu1 hC rfl j3 c2, eR, if_neg (by decide), eT3, if_neg (by decide), if_pos rfl]
        exact wQ1 (by decide) (fr8_r M)
      · obtain ⟨r6, r9, r0⟩ := ref_A h8
        obtain ⟨b9, b0, b6⟩ := ref_B hP h8
        unfold f_X10_raise
        refine t_let ?_
        refine t_We (e_noTry0 (by rw [b9]; exact hT) (by rw [b0]; exact hN) b6 (by rw [b9]; exact c1.1) (by rw [r6, b9, b0]; exact c1.2)) (t_pos (by decide) ?_)
        refine t_We (e_noJu1 (by rw [r9]; exact hT) (jin_b j3) (by rw [r9]; exact c2)) (t_neg (by decide) ?_)
        exact rQt (by decide) (frX_0A M3) (by rw [r6]; exact hcP.1)
  · refine stQ hI (code := 1) (val := 0) (by omega) (fun h => by omega) ?_ (fun M3 h8 => ?_)
    · unfold w_raise f_X9_raise
      rw [c_wAt1 hC rfl hQ.2.2.1 j1 j2 c1, eR, if_neg (by decide), eT3, if_neg (by decide), if_pos rfl]
      exact wQ1 (by decide) (fr8_r M)
    · obtain ⟨r6, r9, r0⟩ := ref_A h8
      obtain ⟨b9, b0, b6⟩ := ref_B hP h8
      unfold f_X10_raise
      refine t_let ?_
      refine t_We (e_noTry1 (by rw [b9]; exact hT) (by rw [b0]; exact hN) b6 (jin_b j1) (jin_b j2) (by rw [r6, b9, b0]; exact c1)) (t_neg (by decide) ?_)
      exact rQt (by decide) (frX_0A M3) (by rw [r6]; exact hcP.1)
/-- the tape alone has changed -/
theorem Inv_tape {M M6 : jM} (hI : Inv M) (h1 : ∀ a, a ≠ 1 → a ≠ 2 → a ≠ 166 → a ≠ 167 → a ≠ 168 → M6 a = M a) (h2 : ∀ j, j ≠ 1 → M6 1 j = M 1 j) (h3 : ∀ j, j ≠ 0 → j ≠ 2 → M6 166 j = M 166 j) (hT : iT M6) : Inv M6 := by
  obtain ⟨-, hF, hE, hM, hW, hA, hP⟩ := hI
  have c : ∀ a, a ≠ 1 → a ≠ 2 → a ≠ 166 → a ≠ 167 → a ≠ 168 → M6 a = M a := h1
  refine ⟨hT, ?_, ?_, ?_, ?_, ?_, ?_⟩
  · unfold iF at hF ⊢
    rw [h2 2 (by decide), h3 8 (by decide) (by decide)]
    exact hF
  · unfold iE at hE ⊢
    rw [h2 3 (by decide), h2 4 (by decide), c 169 (by decide) (by decide) (by decide) (by decide) (by decide), c 170 (by decide) (by decide) (by decide) (by decide) (by decide)]
    obtain ⟨⟨q1, q2, q3, q4, q5⟩, q6⟩ := hE
    exact ⟨⟨q1, q2, q3, q4, rE_fr q2.2.1.2 q5 (fun a u0 u1 u2 => c a (by omega) (by omega) (by omega) (by omega) (by omega))⟩, q6⟩
  · unfold iM at hM ⊢
    rw [c 5 (by decide) (by decide) (by decide) (by decide) (by decide), c 16 (by decide) (by decide) (by decide) (by decide) (by decide), c 58 (by decide) (by decide) (by decide) (by decide) (by decide), c 69 (by decide) (by decide) (by decide) (by decide) (by decide)]
    exact hM
  · unfold iW at hW ⊢
    rw [c 164 (by decide) (by decide) (by decide) (by decide) (by decide), c 165 (by decide) (by decide) (by decide) (by decide) (by decide), c 179 (by decide) (by decide) (by decide) (by decide) (by decide), h3 31 (by decide) (by decide)]
    exact hW
  · unfold iA snp slo at hA ⊢
    rw [c 159 (by decide) (by decide) (by decide) (by decide) (by decide), c 160 (by decide) (by decide) (by decide) (by decide) (by decide), c 161 (by decide) (by decide) (by decide) (by decide) (by decide), c 162 (by decide) (by decide) (by decide) (by decide) (by decide), c 163 (by decide) (by decide) (by decide) (by decide) (by decide), c 169 (by decide) (by decide) (by decide) (by decide) (by decide), c 170 (by decide) (by decide) (by decide) (by decide) (by decide), c 178 (by decide) (by decide) (by decide) (by decide) (by decide), h3 29 (by decide) (by decide)]
    exact hA
  · unfold bP at hP ⊢
    rw [h3 15 (by decide) (by decide), h3 16 (by decide) (by decide), h3 17 (by decide) (by decide), h3 18 (by decide) (by decide), h3 19 (by decide) (by decide), h3 20 (by decide) (by decide), h3 21 (by decide) (by decide), h3 22 (by decide) (by decide)]
    exact hP
/-- end -/
theorem z_1 {M : jM} (hI : Inv M) {a1 : Int} (j1 : jin a1) : jT (s_1 a1 M) Inv := by
  have hb1 := jin_b j1
  obtain ⟨x1, x2, x3, x4⟩ := hI.1
  unfold s_1 f_X9_end f_X10_end
  rw [pw_of hb1.1 hb1.2, pw_of (z := M 1 1) (by omega) (by omega)]
  by_cases c1 : a1 < 0
  · rw [if_pos c1, eW, eL, if_pos c1, eW]
    exact t_ck rfl (t_some (Inv_fr hI (frQ_0 M 0) (bP_0 hI.2.2.2.2.2.2)))
  · rw [if_neg c1]
    by_cases c2 : a1 ≤ M 1 1
    · rw [if_pos c2, eL, eW, eL, if_neg c1, pst_i (show (2 : Int) ≠ 0 by decide), pst_f (show (166 : Int) ≠ 1 by decide), x3, pw_of (z := M 1 1) (by omega) (by omega), if_pos c2, eL, eW]
      refine t_ck rfl (t_some (Inv_tape hI (fun a q0 q1 q2 q3 q4 => by rw [pst_f q2, pst_f q2, pst_f q0]) (fun j hj => by rw [pst_c (by decide), pst_c (by decide), pst_i hj]) (fun j q0 q2 => by rw [pst_i q2, pst_i q0, pst_f (by decide)]) ?_))
      have e11 : jst (jst (jst M 1 1 a1) 166 0 0) 166 2 a1 1 1 = a1 := by rw [pst_c (by decide), pst_c (by decide), pst_s]
      refine ⟨by rw [e11]; omega, by rw [e11]; omega, by rw [e11, pst_s], fun i q0 q1 => ?_⟩
      rw [e11] at q1
      rw [pst_f (show (2 : Int) ≠ 166 by decide), pst_f (show (2 : Int) ≠ 166 by decide), pst_f (show (2 : Int) ≠ 1 by decide), pst_f (show (167 : Int) ≠ 166 by decide), pst_f (show (167 : Int) ≠ 166 by decide), pst_f (show (167 : Int) ≠ 1 by decide)]
      exact x4 i q0 (by omega)
    · rw [if_neg c2, eW, eL, if_neg c1, pst_i (show (2 : Int) ≠ 0 by decide), x3, pw_of (z := M 1 1) (by omega) (by omega), if_neg c2, eW]
      exact t_ck rfl (t_some (Inv_fr hI (frQ_0 M 0) (bP_0 hI.2.2.2.2.2.2)))
