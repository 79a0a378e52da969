/-! ===== steps of questions, II ===== -/
/-- element -/
theorem z_5 {M : jM} (hI : Inv M) {a1 a2 : Int} (j1 : jin a1) (j2 : jin a2) : jT (s_5 a1 a2 M) Inv := by
  obtain ⟨hC, hT, hN, hP, hR, hQ, hcP⟩ := inv_ctx hI
  have t0 := hT.1
  have t1 := hT.2.1
  have t2 := hT.2.2.1
  have t3 := hT.2.2.2.1
  unfold s_5
  by_cases c1 : 0 ≤ a1 ∧ a1 < M 169 0
  · obtain ⟨x5, x6⟩ := hC.2.2.2.2.2.2.2.2.2.2.2.1 a1 c1.1 c1.2
    have n5 := hN.2.2.2.2.1 a1 c1.1 (by omega)
    have n6 := hT.2.2.2.2.1 a1 c1.1 (by omega)
    by_cases c2 : 0 ≤ a2 ∧ a2 ≤ 1
    · refine stQ hI (code := 0) (val := if a2 = 0 then M 170 (954 + a1) else M 169 (4 + a1)) (by omega) (fun _ => by split <;> omega) ?_ (fun M3 h8 => ?_)
      · unfold w_element f_X9_element
        rw [c_wEl0 hC rfl c1, eR, if_pos rfl, pw_of (z := a2) (by omega) (by omega), pw_of (z := a1) (by omega) (by omega), eC (kd_e hC.1), eC (by omega), x5, x6]
        by_cases c3 : a2 = 0
        · rw [if_pos c3, if_pos c3, eT2, if_pos rfl]
          exact wQ0 rfl (by omega) (fr8_r M)
        · rw [if_neg c3, if_neg c3, if_pos (by omega), eC (kd_e hC.1), eC (by omega), eT2, if_pos rfl]
          exact wQ0 rfl (by omega) (fr8_r M)
      · obtain ⟨r6, r9, r0⟩ := ref_A h8
        obtain ⟨b9, b0, b6⟩ := ref_B hP h8
        unfold f_X10_element
        refine t_let ?_
        refine t_We (e_noEl0 (by rw [b9]; exact hT) (by rw [b9]; exact c1)) (t_pos (by decide) ?_)
        rw [e_in (jin_b j2) (by omega) (by omega), eR, eK, b2_t c2, if_neg (by decide)]
        refine t_We (e_thr0 _ _) (t_pos (by decide) ?_)
        rw [pw_of (z := a2) (by omega) (by omega), pw_of (z := 954 + a1) (by omega) (by omega), pw_of (z := 4 + a1) (by omega) (by omega), b9, b0, eC (by omega), eC (by omega)]
        by_cases c3 : a2 = 0
        · rw [if_pos c3, if_pos c3]
          exact rQ (pst_s _ _ _ _) (fun _ => rfl) (frX_0 M3 0) b6
        · rw [if_neg c3, if_neg c3]
          exact rQ (pst_s _ _ _ _) (fun _ => rfl) (frX_0 M3 0) b6
    · refine stQ hI (code := 2) (val := 0) (by omega) (fun h => by omega) ?_ (fun M3 h8 => ?_)
      · unfold w_element f_X9_element
        rw [c_wEl0 hC rfl c1, eR, if_pos rfl, pw_of (jin_b j2).1 (jin_b j2).2, if_neg (by omega), if_neg (by omega), eT2, if_neg (by decide), if_neg (by decide), if_pos rfl]
        exact wQ1 (by decide) (fr8_r M)
      · obtain ⟨r6, r9, r0⟩ := ref_A h8
        obtain ⟨b9, b0, b6⟩ := ref_B hP h8
        unfold f_X10_element
        refine t_let ?_
        refine t_We (e_noEl0 (by rw [b9]; exact hT) (by rw [b9]; exact c1)) (t_pos (by decide) ?_)
        rw [e_in (jin_b j2) (by omega) (by omega), eR, eK, b2_f c2, if_pos (by decide)]
        refine t_We (e_thr1 _ _) (t_neg (by decide) ?_)
        exact rQt (by decide) (frX_0 M3 0) b6
  · refine stQ hI (code := 1) (val := 0) (by omega) (fun h => by omega) ?_ (fun M3 h8 => ?_)
    · unfold w_element f_X9_element
      rw [c_wEl1 hC rfl j1 c1, eR, if_neg (by decide), eT2, if_neg (by decide), if_pos rfl]
      exact wQ1 (by decide) (fr8_r M)
    · obtain ⟨r6, r9, r0⟩ := ref_A h8
      obtain ⟨b9, b0, b6⟩ := ref_B hP h8
      unfold f_X10_element
      refine t_let ?_
      refine t_We (e_noEl1 (by rw [b9]; exact hT) (jin_b j1) (by rw [b9]; exact c1)) (t_neg (by decide) ?_)
      exact rQt (by decide) (frX_0 M3 0) b6
/-- mean -/
theorem z_8 {M : jM} (hI : Inv M) {a1 a2 : Int} (j1 : jin a1) (j2 : jin a2) : jT (s_8 a1 a2 M) Inv := by
  obtain ⟨hC, hT, hN, hP, hR, hQ, hcP⟩ := inv_ctx hI
  have t0 := hT.1
  have t1 := hT.2.1
  have t2 := hT.2.2.1
  have t3 := hT.2.2.2.1
  unfold s_8
  by_cases c1 : (0 ≤ a1 ∧ a1 < M 169 1) ∧ q_is (P0 M) (M 169) (M 170) a1 a2 ≠ 0
  · have hkk := q_is_k c1.2
    have tt := hT.2.2.2.2.2.2.1 a1 c1.1.1 (by omega)
    have hmb := q_mean_b hcP.1 hT hN hcP.2.1 (s := a1) (k := a2) (by omega) (by omega)
    refine stQ hI (code := 0) (val := q_mean (P0 M) (M 169) (M 170) a1 a2) (by omega) (fun _ => by omega) ?_ (fun M3 h8 => ?_)
    · unfold w_mean f_X9_mean
      rw [c_wAt0 hC rfl hQ.2.2.1 c1, eR, if_pos rfl]
      obtain ⟨⟨v, M4⟩, e4, u1, u2, u3, u4⟩ := c_tallied hC rfl hQ c1.1
      dsimp only at u1 u2 u3 u4
      subst u1
      have hC4 := cE_fr hC u2
      have e13 : M4 1 3 = M 1 3 := by rw [u2 1 (by omega) (by have := hC.1; omega)]
      have ht := c_gtrim hC4 c1.1 hcP hQ.2.2.2.2.1 u3 c1.2
      rw [hQ.2.1] at ht
      rw [e4, eW, eC (ln_t (by omega)).2.2, c_evJ hC4 e13, eR, ht, eR, eT3, if_pos rfl]
      exact wQ0 rfl (by omega) (fr8_7 hC.1 u2)
    · obtain ⟨r6, r9, r0⟩ := ref_A h8
      obtain ⟨b9, b0, b6⟩ := ref_B hP h8
      unfold f_X10_mean
      refine t_let ?_
      refine t_We (e_noTry0 (by rw [b9]; exact hT) (by rw [b0]; exact hN) b6 (by rw [b9]; exact c1.1) (by rw [r6, b9, b0]; exact c1.2)) (t_pos (by decide) ?_)
      refine t_W (t_mono (e_mean (by rw [r6]; exact hcP.1) (by rw [r9]; exact hT) (by rw [r0]; exact hN) (by rw [r6, r9]; exact hcP.2.1) (by omega) (by omega)) (fun q hq => ?_))
      rw [r6, r9, r0] at hq
      exact rQ (by rw [hq.2 166 (by decide)]; exact mA_0 M3) (fun _ => hq.1) (frX_t (frX_0A M3) (frX_3 hq.2)) (by rw [hq.2 166 (by decide), r6]; exact hcP.1)
  · refine stQ hI (code := 1) (val := 0) (by omega) (fun h => by omega) ?_ (fun M3 h8 => ?_)
    · unfold w_mean f_X9_mean
      rw [c_wAt1 hC rfl hQ.2.2.1 j1 j2 c1, eR, if_neg (by decide), eT3, if_neg (by decide), if_pos rfl]
      exact wQ1 (by decide) (fr8_r M)
    · obtain ⟨r6, r9, r0⟩ := ref_A h8
      obtain ⟨b9, b0, b6⟩ := ref_B hP h8
      unfold f_X10_mean
      refine t_let ?_
      refine t_We (e_noTry1 (by rw [b9]; exact hT) (by rw [b0]; exact hN) b6 (jin_b j1) (jin_b j2) (by rw [r6, b9, b0]; exact c1)) (t_neg (by decide) ?_)
      exact rQt (by decide) (frX_0A M3) (by rw [r6]; exact hcP.1)
/-- mark -/
theorem z_9 {M : jM} (hI : Inv M) {a1 a2 a3 : Int} (j1 : jin a1) (j2 : jin a2) (j3 : jin a3) : jT (s_9 a1 a2 a3 M) Inv := by
  obtain ⟨hC, hT, hN, hP, hR, hQ, hcP⟩ := inv_ctx hI
  have t0 := hT.1
  have t1 := hT.2.1
  have t2 := hT.2.2.1
  have t3 := hT.2.2.2.1
  unfold s_9
  by_cases c1 : 0 ≤ a1 ∧ a1 < M 169 1
  · by_cases c2 : 0 ≤ a2 ∧ a2 < 3
    · by_cases c3 : 0 ≤ a3 ∧ a3 < M 169 2
      · have hv := hN.2.1 (9 * (3 * a1 + a2) + a3) (by omega) (by omega)
        rw [show 648 + (9 * (3 * a1 + a2) + a3) = 648 + 9 * (3 * a1 + a2) + a3 from by omega] at hv
        refine stQ hI (code := 0) (val := M 170 (648 + 9 * (3 * a1 + a2) + a3)) (by omega) (fun _ => by omega) ?_ (fun M3 h8 => ?_)
        · have hvv := (hC.2.2.2.2.2.2.2.2.2.2.2.2.2 a1 c1.1 c1.2).2.2.2.2 a2 a3 c2.1 c2.2 c3.1 c3.2
          unfold w_mark f_X9_mark f_X9_voteOfMark
          rw [c_wSk0 hC rfl c1, eR, if_pos rfl, c_wCo0 c2, eR, if_pos rfl, c_wJu0 hC rfl c3, eR, if_pos rfl, eC (kd_e hC.1), pw_of (z := a1) (by omega) (by omega), eC (by omega), eR, pw_of (z := (12 + a2) * 9 + a3) (by omega) (by omega), eC (by omega), eT2, if_pos rfl]
          exact wQ0 hvv (by omega) (fr8_r M)
        · obtain ⟨r6, r9, r0⟩ := ref_A h8
          obtain ⟨b9, b0, b6⟩ := ref_B hP h8
          unfold f_X10_mark f_X10_markAt
          refine t_let ?_
          refine t_We (e_noSk0 (by rw [b9]; exact hT) (by rw [b9]; exact c1)) (t_pos (by decide) ?_)
          refine t_We (e_noCo0 c2) (t_pos (by decide) ?_)
          refine t_We (e_noJu0 (by rw [b9]; exact hT) (by rw [b9]; exact c3)) (t_pos (by decide) ?_)
          refine t_Re rfl ?_
          rw [pw_of (z := 648 + 9 * (3 * a1 + a2) + a3) (by omega) (by omega), b0]
          exact t_ck (by omega) (rQ (pst_s _ _ _ _) (fun _ => rfl) (frX_0 M3 0) b6)
      · refine stQ hI (code := 1) (val := 0) (by omega) (fun h => by omega) ?_ (fun M3 h8 => ?_)
        · unfold w_mark f_X9_mark
          rw [c_wSk0 hC rfl c1, eR, if_pos rfl, c_wCo0 c2, eR, if_pos rfl, c_wJu1 hC rfl j3 c3, eR, if_neg (by decide), eT2, if_neg (by decide), if_pos rfl]
          exact wQ1 (by decide) (fr8_r M)
        · obtain ⟨r6, r9, r0⟩ := ref_A h8
          obtain ⟨b9, b0, b6⟩ := ref_B hP h8
          unfold f_X10_mark
          refine t_let ?_
          refine t_We (e_noSk0 (by rw [b9]; exact hT) (by rw [b9]; exact c1)) (t_pos (by decide) ?_)
          refine t_We (e_noCo0 c2) (t_pos (by decide) ?_)
          refine t_We (e_noJu1 (by rw [b9]; exact hT) (jin_b j3) (by rw [b9]; exact c3)) (t_neg (by decide) ?_)
          exact rQt (by decide) (frX_0 M3 0) b6
    · refine stQ hI (code := 1) (val := 0) (by omega) (fun h => by omega) ?_ (fun M3 h8 => ?_)
      · unfold w_mark f_X9_mark
        rw [c_wSk0 hC rfl c1, eR, if_pos rfl, c_wCo1 j2 c2, eR, if_neg (by decide), eT2, if_neg (by decide), if_pos rfl]
        exact wQ1 (by decide) (fr8_r M)
      · obtain ⟨r6, r9, r0⟩ := ref_A h8
        obtain ⟨b9, b0, b6⟩ := ref_B hP h8
        unfold f_X10_mark
        refine t_let ?_
        refine t_We (e_noSk0 (by rw [b9]; exact hT) (by rw [b9]; exact c1)) (t_pos (by decide) ?_)
        refine t_We (e_noCo1 (jin_b j2) c2) (t_neg (by decide) ?_)
        exact rQt (by decide) (frX_0 M3 0) b6
  · refine stQ hI (code := 1) (val := 0) (by omega) (fun h => by omega) ?_ (fun M3 h8 => ?_)
    · unfold w_mark f_X9_mark
      rw [c_wSk1 hC rfl j1 c1, eR, if_neg (by decide), eT2, if_neg (by decide), if_pos rfl]
      exact wQ1 (by decide) (fr8_r M)
    · obtain ⟨r6, r9, r0⟩ := ref_A h8
      obtain ⟨b9, b0, b6⟩ := ref_B hP h8
      unfold f_X10_mark
      refine t_let ?_
      refine t_We (e_noSk1 (by rw [b9]; exact hT) (jin_b j1) (by rw [b9]; exact c1)) (t_neg (by decide) ?_)
      exact rQt (by decide) (frX_0 M3 0) b6
/-- component -/
theorem z_10 {M : jM} (hI : Inv M) {a1 a2 : Int} (j1 : jin a1) (j2 : jin a2) : jT (s_10 a1 a2 M) Inv := by
  obtain ⟨hC, hT, hN, hP, hR, hQ, hcP⟩ := inv_ctx hI
  have t0 := hT.1
  have t1 := hT.2.1
  have t2 := hT.2.2.1
  have t3 := hT.2.2.2.1
  unfold s_10
  by_cases c1 : 0 ≤ a1 ∧ a1 < M 169 1
  · by_cases c2 : 0 ≤ a2 ∧ a2 < 3
    · have hmb := q_comp_b (P := P0 M) hT hN hcP.2.1 (s := a1) (c := a2) (by omega) c2
      refine stQ hI (code := 0) (val := q_comp (P0 M) (M 169) (M 170) a1 a2) (by omega) (fun _ => by omega) ?_ (fun M3 h8 => ?_)
      · unfold w_component f_X9_component
        rw [c_wSk0 hC rfl c1, eR, if_pos rfl, c_wCo0 c2, eR, if_pos rfl]
        obtain ⟨⟨v, M4⟩, e4, u1, u2, u3, u4⟩ := c_tallied hC rfl hQ c1
        dsimp only at u1 u2 u3 u4
        subst u1
        have hC4 := cE_fr hC u2
        have e13 : M4 1 3 = M 1 3 := by rw [u2 1 (by omega) (by have := hC.1; omega)]
        have ht := c_comp hC4 c1 hcP u3 c2
        rw [hQ.2.1] at ht
        rw [e4, eW, eC (ln_t (by omega)).2.2, c_evJ hC4 e13, eR, ht, eR, eT3, if_pos rfl]
        exact wQ0 rfl (by omega) (fr8_7 hC.1 u2)
      · obtain ⟨r6, r9, r0⟩ := ref_A h8
        obtain ⟨b9, b0, b6⟩ := ref_B hP h8
        unfold f_X10_component
        refine t_let ?_
        refine t_Ve (e_all (by rw [b9]; exact hT)) ?_
        refine t_We (e_noSk0 (by rw [r9]; exact hT) (by rw [r9]; exact c1)) (t_pos (by decide) ?_)
        refine t_We (e_noCo0 c2) (t_pos (by decide) ?_)
        refine t_W (t_mono (e_comp (by rw [r6]; exact hcP.1) (by rw [r9]; exact hT) (by rw [r0]; exact hN) (by rw [r6, r9]; exact hcP.2.1) (by omega) c2) (fun q hq => ?_))
        rw [r6, r9, r0] at hq
        exact rQ (by rw [hq.2 166 (by decide)]; exact mA_0 M3) (fun _ => hq.1) (frX_t (frX_0A M3) (frX_3 hq.2)) (by rw [hq.2 166 (by decide), r6]; exact hcP.1)
    · refine stQ hI (code := 1) (val := 0) (by omega) (fun h => by omega) ?_ (fun M3 h8 => ?_)
      · unfold w_component f_X9_component
        rw [c_wSk0 hC rfl c1, eR, if_pos rfl, c_wCo1 j2 c2, eR, if_neg (by decide), eT3, if_neg (by decide), if_pos rfl]
        exact wQ1 (by decide) (fr8_r M)
      · obtain ⟨r6, r9, r0⟩ := ref_A h8
        obtain ⟨b9, b0, b6⟩ := ref_B hP h8
        unfold f_X10_component
        refine t_let ?_
        refine t_Ve (e_all (by rw [b9]; exact hT)) ?_
        refine t_We (e_noSk0 (by rw [r9]; exact hT) (by rw [r9]; exact c1)) (t_pos (by decide) ?_)
        refine t_We (e_noCo1 (jin_b j2) c2) (t_neg (by decide) ?_)
        exact rQt (by decide) (frX_0A M3) (by rw [r6]; exact hcP.1)
  · refine stQ hI (code := 1) (val := 0) (by omega) (fun h => by omega) ?_ (fun M3 h8 => ?_)
    · unfold w_component f_X9_component
      rw [c_wSk1 hC rfl j1 c1, eR, if_neg (by decide), eT3, if_neg (by decide), if_pos rfl]
      exact wQ1 (by decide) (fr8_r M)
    · obtain ⟨r6, r9, r0⟩ := ref_A h8
      obtain ⟨b9, b0, b6⟩ := ref_B hP h8
      unfold f_X10_component
      refine t_let ?_
      refine t_Ve (e_all (by rw [b9]; exact hT)) ?_
      refine t_We (e_noSk1 (by rw [r9]; exact hT) (jin_b j1) (by rw [r9]; exact c1)) (t_neg (by decide) ?_)
      exact rQt (by decide) (frX_0A M3) (by rw [r6]; exact hcP.1)
/-- rank -/
theorem ref_lays {M3 : jM} {P T N : Int → Int} (h6 : M3 166 = P) (h9 : M3 169 = T) (h0 : M3 170 = N) (hT : bT T) (hN : bN N) (hR : bR T) (hcP : cP P T) : jT (f_X10_laysTotals M3) (fun M' => frI 173 176 M3 M' ∧ M' 166 = P ∧ M' 169 = T ∧ M' 170 = N ∧ bX M' ∧ (∀ i, 0 ≤ i → i < T 1 → M' 175 i = q_total P T N i) ∧ ∀ i, 0 ≤ i → i < T 1 → M' 176 i = q_points P T N i) := by
  subst h6 h9 h0
  have t1 := hT.2.1
  refine t_mono (e_lays hcP.1 hT hN hcP.2.1 hR) (fun M' h => ?_)
  obtain ⟨q1, q2, q3⟩ := h
  refine ⟨q1, q1 166 (by decide), q1 169 (by decide), q1 170 (by decide), ⟨fun i h0 h1 => ?_, fun i h0 h1 => ?_⟩, q2, q3⟩
  · rw [q1 169 (by decide)] at h1
    rw [q2 i h0 h1]
    have := q_total_b hcP.1 hT hN hcP.2.1 (s := i) (by omega)
    omega
  · rw [q1 169 (by decide)] at h1
    rw [q3 i h0 h1]
    have := q_points_b hcP.1 hT hN hcP.2.1 (s := i) (by omega)
    omega
theorem q_at_congr {tot pts tot2 pts2 : Int → Int} {n k : Int} (h1 : ∀ i, 0 ≤ i → i < n → tot i = tot2 i) (h2 : ∀ i, 0 ≤ i → i < n → pts i = pts2 i) : q_at tot pts n k = q_at tot2 pts2 n k := by
  unfold q_at
  refine q_first_congr (fun j h3 h4 => ?_)
  rw [q_rank_congr (s := j) (by omega) h1 h2]
theorem z_13 {M : jM} (hI : Inv M) {a1 : Int} (j1 : jin a1) : jT (s_13 a1 M) Inv := by
  obtain ⟨hC, hT, hN, hP, hR, hQ, hcP⟩ := inv_ctx hI
  have t0 := hT.1
  have t1 := hT.2.1
  have t2 := hT.2.2.1
  have t3 := hT.2.2.2.1
  unfold s_13
  by_cases c1 : 0 ≤ a1 ∧ a1 < M 169 1
  · have hmb := q_rank_b (tot := q_total (P0 M) (M 169) (M 170)) (pts := q_points (P0 M) (M 169) (M 170)) (n := M 169 1) (s := a1) (by omega)
    refine stQ hI (code := 0) (val := q_rank (q_total (P0 M) (M 169) (M 170)) (q_points (P0 M) (M 169) (M 170)) (M 169 1) a1) (by omega) (fun _ => by omega) ?_ (fun M3 h8 => ?_)
    · unfold w_rank f_X9_rank
      rw [c_wSk0 hC rfl c1, eR, if_pos rfl, eC (kd_e hC.1)]
      obtain ⟨M4, e4, u1, u2, u3⟩ := c_weighAll hC hQ
      rw [e4, eV, c_rank (cE_fr hC u1) hcP u2.1 u3 c1, eR, eT3, if_pos rfl]
      exact wQ0 rfl (by omega) (fr8_7 hC.1 u1)
    · obtain ⟨r6, r9, r0⟩ := ref_A h8
      obtain ⟨b9, b0, b6⟩ := ref_B hP h8
      unfold f_X10_rank
      refine t_let ?_
      refine t_Ve (e_all (by rw [b9]; exact hT)) ?_
      refine t_We (e_noSk0 (by rw [r9]; exact hT) (by rw [r9]; exact c1)) (t_pos (by decide) ?_)
      refine t_V (t_mono (ref_lays r6 r9 r0 hT hN hR hcP) (fun M6 h6 => ?_))
      obtain ⟨g1, g2, g3, g4, g5, g6, g7⟩ := h6
      refine t_Re (e_rank (by rw [g3]; exact hT) g5 (by rw [g3]; exact c1)) ?_
      refine rQ (by rw [g1 166 (by decide)]; exact mA_0 M3) (fun _ => ?_) (frX_t (frX_0A M3) (frX_I6 g1)) (by rw [g2]; exact hcP.1)
      rw [g3]
      exact q_rank_congr c1 g6 g7
  · refine stQ hI (code := 1) (val := 0) (by omega) (fun h => by omega) ?_ (fun M3 h8 => ?_)
    · unfold w_rank f_X9_rank
      rw [c_wSk1 hC rfl j1 c1, eR, if_neg (by decide), eT3, if_neg (by decide), if_pos rfl]
      exact wQ1 (by decide) (fr8_r M)
    · obtain ⟨r6, r9, r0⟩ := ref_A h8
      obtain ⟨b9, b0, b6⟩ := ref_B hP h8
      unfold f_X10_rank
      refine t_let ?_
      refine t_Ve (e_all (by rw [b9]; exact hT)) ?_
      refine t_We (e_noSk1 (by rw [r9]; exact hT) (jin_b j1) (by rw [r9]; exact c1)) (t_neg (by decide) ?_)
      exact rQt (by decide) (frX_0A M3) (by rw [r6]; exact hcP.1)
/-- ranked -/
theorem z_14 {M : jM} (hI : Inv M) {a1 : Int} (j1 : jin a1) : jT (s_14 a1 M) Inv := by
  obtain ⟨hC, hT, hN, hP, hR, hQ, hcP⟩ := inv_ctx hI
  have t0 := hT.1
  have t1 := hT.2.1
  have t2 := hT.2.2.1
  have t3 := hT.2.2.2.1
  unfold s_14
  refine stW hI (val := q_at (q_total (P0 M) (M 169) (M 170)) (q_points (P0 M) (M 169) (M 170)) (M 169 1) a1) ?_ (fun M3 h8 => ?_)
  · unfold f_X9_ranked
    rw [eC (kd_e hC.1)]
    obtain ⟨M4, e4, u1, u2, u3⟩ := c_weighAll hC hQ
    rw [e4, eV, c_at (cE_fr hC u1) hcP u2.1 u3 (jin_b j1), eR]
    exact t_some ⟨rfl, fr8_7 hC.1 u1⟩
  · obtain ⟨r6, r9, r0⟩ := ref_A h8
    obtain ⟨b9, b0, b6⟩ := ref_B hP h8
    unfold f_X10_ranked
    refine t_let ?_
    refine t_Ve (e_all (by rw [b9]; exact hT)) ?_
    refine t_V (t_mono (ref_lays r6 r9 r0 hT hN hR hcP) (fun M6 h6 => ?_))
    obtain ⟨g1, g2, g3, g4, g5, g6, g7⟩ := h6
    refine t_Re (e_rankedAt (by rw [g3]; exact hT) g5 (jin_b j1)) ?_
    refine t_some ⟨?_, frX_t (frX_0A M3) (frX_I6 g1), ?_⟩
    · show q_at _ _ _ _ = _
      rw [g3]
      exact q_at_congr g6 g7
    · show bP (M6 166)
      rw [g2]
      exact hcP.1
