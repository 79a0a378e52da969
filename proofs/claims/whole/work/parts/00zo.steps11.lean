/-! ===== steps of acts ===== -/
theorem stA {o1 : Option (Int × jM)} {g : jM → Option (Int × jM)} {code val : Int} {R : jM → Prop} (hc : 0 ≤ code ∧ code ≤ 4) (hv : code = 0 → -2147483648 ≤ val ∧ val ≤ 2147483647)
    (h1 : jT o1 (fun p => p.1 = code ∧ (code = 0 → p.2 180 0 = val) ∧ R p.2))
    (h2 : ∀ M3, R M3 → jT (g M3) (fun q => q.2 166 0 = code ∧ (code = 0 → q.1 = val) ∧ q.2 180 = M3 180 ∧ Inv q.2)) :
    jT (jbW o1 fun v1 M3 => jbW (g M3) fun v4 M6 => jbR (f_X10_thrown M6) fun v7 => jck (jw v7 = jw v1) <| if jw v1 = 0 then (jck (jw (jcmp (M6 180 (jw 0)) (jw v4)) = 0) <| some M6) else some M6) Inv := by
  refine t_W (t_mono h1 (fun p hp => ?_))
  obtain ⟨a1, a2, a3⟩ := hp
  refine t_W (t_mono (h2 p.2 a3) (fun q hq => ?_))
  obtain ⟨b1, b2, b3, hInv⟩ := hq
  refine t_Re rfl ?_
  rw [a1, b1]
  refine t_ck rfl ?_
  rw [pw_of (z := code) (by omega) (by omega)]
  refine t_if (fun c => ?_) (fun c => t_some hInv)
  have hv' := hv c
  refine t_ck ?_ (t_some hInv)
  rw [b3, pw_of (z := 0) (by omega) (by omega), a2 c, b2 c, pw_of hv'.1 hv'.2, pcmp_of (by omega) (by omega), if_neg (by omega), if_pos rfl]
  decide
/-- the program's memory after an act -/
def aR (M M3 : jM) (cell i v srt sk wh bf : Int) : Prop := (∀ a, a < 159 ∨ 163 < a → a ≠ cell → a ≠ 180 → M3 a = M a) ∧ M3 cell = jst M cell i v cell ∧ kp M M3 srt sk wh bf
theorem aR_of {M Mk : jM} {cell i v srt sk wh bf w : Int} (hc : cell < 159) (hk1 : ∀ a, a < 159 ∨ 163 < a → Mk a = M a) (hk2 : kp M Mk srt sk wh bf) : aR M (jst (jst Mk cell i v) 180 0 w) cell i v srt sk wh bf := by
  refine ⟨fun a q0 q1 q2 => by rw [pst_f q2, pst_f q1]; exact hk1 a q0, ?_, ?_⟩
  · rw [pst_f (by omega)]
    funext j
    rw [pst_a, pst_a, hk1 cell (by omega)]
  · unfold kp at hk2 ⊢
    rw [pst_f (show (159 : Int) ≠ 180 by decide), pst_f (show (160 : Int) ≠ 180 by decide), pst_f (show (161 : Int) ≠ 180 by decide), pst_f (show (162 : Int) ≠ 180 by decide), pst_f (show (163 : Int) ≠ 180 by decide), pst_f (show (159 : Int) ≠ cell by omega), pst_f (show (160 : Int) ≠ cell by omega), pst_f (show (161 : Int) ≠ cell by omega), pst_f (show (162 : Int) ≠ cell by omega), pst_f (show (163 : Int) ≠ cell by omega)]
    exact hk2
theorem act_fin {M M3 X : jM} (hI : Inv M) {cell i v idx w srt sk wh bf : Int} (hcell : M 1 3 + 1 ≤ cell ∧ cell ≤ M 1 3 + 52) (hc0 : cell ≠ M 1 3 + 2 ∧ cell ≠ M 1 3 + 13) (hR : aR M M3 cell i v srt sk wh bf) (hX : frX M3 X) (hX0 : X 166 0 = 0) (hXP : bP (X 166)) (hidx : 0 ≤ idx ∧ idx < 971) (hN' : bN (pS (M 170) idx w)) (hE' : rE (M 1 3) (jst M cell i v) (M 169) (pS (M 170) idx w)) (hok : aok (M 169) srt sk wh bf) (hund : ∀ j, 0 ≤ j → j < 971 → M 170 j = und (M 169) srt sk wh bf (pS (M 170) idx w) j) :
    jT (f_X10_tells idx w X) (fun p => p.1 = M 170 idx ∧ p.2 166 0 = 0 ∧ p.2 180 = M3 180 ∧ Inv p.2 ∧ p.2 169 = M 169 ∧ p.2 170 = pS (M 170) idx w ∧ ∀ j, j ≠ 29 → p.2 166 j = X 166 j) := by
  obtain ⟨r1, r2, r3⟩ := hR
  have e13 := hI.2.2.1.1.1
  have hA := hI.2.2.2.2.2.1
  have x9 : X 169 = M 169 := by rw [hX.1 169 (by decide) (by decide), r1 169 (by omega) (by omega) (by decide)]
  have x0 : X 170 = M 170 := by rw [hX.1 170 (by decide) (by decide), r1 170 (by omega) (by omega) (by decide)]
  have x78 : X 178 = M 178 := by rw [hX.1 178 (by decide) (by decide), r1 178 (by omega) (by omega) (by decide)]
  have m66 : M3 166 = M 166 := r1 166 (by omega) (by omega) (by decide)
  have x29 : X 166 29 = M 166 29 := by rw [hX.2 29 (by decide) (by decide), m66]
  refine t_mono (e_tells (by rw [x29, hA.2.2.1]; exact ⟨hA.1, hA.2.1⟩) hidx) (fun p hp => ?_)
  obtain ⟨p1, p2, p3, p4, p5⟩ := hp
  rw [x0] at p1 p5
  have hks : ks M p.2 := by
    unfold ks at p4 ⊢
    rw [x29, x78, x0] at p4
    exact p4
  have hkp : kp M p.2 srt sk wh bf := by
    have : ∀ a, 159 ≤ a → a ≤ 163 → p.2 a = M3 a := fun a q0 q1 => by rw [p2 a (by omega) (by omega) (by omega), hX.1 a (by omega) (by omega)]
    unfold kp at r3 ⊢
    rw [this 159 (by decide) (by decide), this 160 (by decide) (by decide), this 161 (by decide) (by decide), this 162 (by decide) (by decide), this 163 (by decide) (by decide)]
    exact r3
  refine ⟨p1, by rw [p3 0 (by decide)]; exact hX0, by rw [p2 180 (by decide) (by decide) (by decide), hX.1 180 (by decide) (by decide)], ?_, by rw [p2 169 (by decide) (by decide) (by decide)]; exact x9, p5, p3⟩
  refine Inv_act hI (cell := cell) (i := i) (v := v) hcell hc0 (fun a q0 q1 q2 q3 q4 q5 q6 => ?_) (fun j q0 q1 q2 => ?_) ?_ hkp hks p5 hN' ?_ hE' hok hund
  · rw [p2 a q2 q3 q4, hX.1 a q2 q6, r1 a q0 q1 q5]
  · rw [p3 j q1, hX.2 j q0 q2, m66]
  · unfold bP at hXP ⊢
    rw [p3 15 (by decide), p3 16 (by decide), p3 17 (by decide), p3 18 (by decide), p3 19 (by decide), p3 20 (by decide), p3 21 (by decide), p3 22 (by decide)]
    exact hXP
  · rw [p2 cell (by omega) (by omega) (by omega), hX.1 cell (by omega) (by omega)]
    exact r2
theorem ref_C {M M3 : jM} {cell i v srt sk wh bf : Int} (hI : Inv M) (hcell : 1 < cell ∧ cell < 159) (hR : aR M M3 cell i v srt sk wh bf) : mA (jst M3 166 0 0) 166 = P0 M ∧ mA (jst M3 166 0 0) 169 = M 169 ∧ mA (jst M3 166 0 0) 170 = M 170 ∧ jst M3 166 0 0 169 = M 169 ∧ jst M3 166 0 0 170 = M 170 ∧ bP (jst M3 166 0 0 166) := by
  obtain ⟨r1, r2, r3⟩ := hR
  have h6 : M3 166 = M 166 := r1 166 (by omega) (by omega) (by decide)
  have h9 : M3 169 = M 169 := r1 169 (by omega) (by omega) (by decide)
  have h0 : M3 170 = M 170 := r1 170 (by omega) (by omega) (by decide)
  refine ⟨P0_eq h6 h9, ?_, ?_, ?_, ?_, bP_0 (by rw [h6]; exact hI.2.2.2.2.2.2)⟩
  · rw [mA_f (by decide), pst_f (by decide), h9]
  · rw [mA_f (by decide), pst_f (by decide), h0]
  · rw [pst_f (by decide), h9]
  · rw [pst_f (by decide), h0]
theorem und_self {T : Int → Int} {srt sk wh idx w : Int} {N : Int → Int} (h : ∀ j, und T srt sk wh (N idx) (pS N idx w) j = if j = idx then N idx else pS N idx w j) : ∀ j, 0 ≤ j → j < 971 → N j = und T srt sk wh (N idx) (pS N idx w) j := fun j _ _ => by
  rw [h j]
  by_cases c : j = idx
  · rw [if_pos c, c]
  · rw [if_neg c, pS_n c]
theorem w3ok {M1 : jM} {v val cell i x srt sk wh bf : Int} {M Mk : jM} (hM1 : M1 = jst Mk cell i x) (h : v = val) (hb : -2147483648 ≤ val ∧ val ≤ 2147483647) (hc : cell < 159) (hk1 : ∀ a, a < 159 ∨ 163 < a → Mk a = M a) (hk2 : kp M Mk srt sk wh bf) : jT (some ((0 : Int), jst M1 180 0 (jw v))) (fun p => p.1 = 0 ∧ ((0 : Int) = 0 → p.2 180 0 = val) ∧ aR M p.2 cell i x srt sk wh bf) := by
  subst hM1
  exact ⟨_, rfl, rfl, fun _ => by show jst (jst Mk cell i x) 180 0 (jw v) 180 0 = val; rw [pst_s, h, pw_of hb.1 hb.2], aR_of hc hk1 hk2⟩
/-- tell -/
theorem z_15 {M : jM} (hI : Inv M) {a1 a2 a3 a4 : Int} (j1 : jin a1) (j2 : jin a2) (j3 : jin a3) (j4 : jin a4) : jT (s_15 a1 a2 a3 a4 M) Inv := by
  obtain ⟨hC, hT, hN, hP, hR, hQ, hcP⟩ := inv_ctx hI
  have t0 := hT.1
  have t1 := hT.2.1
  have t2 := hT.2.2.1
  have t3 := hT.2.2.2.1
  have hb4 := jin_b j4
  have he := hC.1
  unfold s_15
  by_cases c1 : (0 ≤ a1 ∧ a1 < M 169 1) ∧ q_is (P0 M) (M 169) (M 170) a1 a2 ≠ 0
  · have hkk := q_is_k c1.2
    have tt := hT.2.2.2.2.2.2.1 a1 c1.1.1 (by omega)
    by_cases c2 : 0 ≤ a3 ∧ a3 < M 169 2
    · by_cases c3 : -5 ≤ a4 ∧ a4 ≤ 5
      · have hvv := ((hC.2.2.2.2.2.2.2.2.2.2.2.2.2 a1 c1.1.1 c1.1.2).2.2.2.1 a2 hkk.1 hkk.2).2.2.2.2 a3 c2.1 c2.2
        have hv := hN.1 (9 * (12 * a1 + a2) + a3) (by omega) (by omega)
        have hvx : vix a1 (a2 * 9 + a3) = 9 * (12 * a1 + a2) + a3 := by unfold vix; rw [if_pos (by omega)]; omega
        refine stA (code := 0) (val := M 170 (9 * (12 * a1 + a2) + a3)) (R := fun M3 => aR M M3 (M 1 3 + 16 + 1 + 6 * a1 + 5) (a2 * 9 + a3) a4 0 a1 (a2 * 9 + a3) (M 170 (9 * (12 * a1 + a2) + a3))) (by omega) (fun _ => by omega) ?_ (fun M3 hR3 => ?_)
        · unfold w_tell f_X9_tell f_X9_voteOfGrade f_X9_tellVote
          obtain ⟨Mk, ek, k1, k2⟩ := c_keep (srt := 0) (sk := a1) (wh := a2 * 9 + a3) (bf := M 170 (9 * (12 * a1 + a2) + a3)) hI.2.2.2.2.2.1
          rw [c_wAt0 hC rfl hQ.2.2.1 c1, eR, if_pos rfl, c_wJu0 hC rfl c2, eR, if_pos rfl, eK, pw_of hb4.1 hb4.2, pw_of (z := -5) (by omega) (by omega), pw_of (z := 5) (by omega) (by omega), if_neg (by omega), if_pos c3.2, eR, eC (kd_e he), pw_of (z := a1) (by omega) (by omega), eC (by omega), pw_of (z := a2 * 9 + a3) (by omega) (by omega), eC (by omega), eL, hvv, ek, eV, eC (by omega), eL, eW, eT3, if_pos rfl]
          exact w3ok rfl rfl (by omega) (by omega) k1 k2
        · obtain ⟨r6, r9, r0, b9, b0, b6⟩ := ref_C hI (by omega) hR3
          unfold f_X10_tell
          refine t_let ?_
          refine t_We (e_noTry0 (by rw [b9]; exact hT) (by rw [b0]; exact hN) b6 (by rw [b9]; exact c1.1) (by rw [r6, b9, b0]; exact c1.2)) (t_pos (by decide) ?_)
          refine t_We (e_noJu0 (by rw [r9]; exact hT) (by rw [r9]; exact c2)) (t_pos (by decide) ?_)
          refine t_Re (e_in hb4 (by omega) (by omega)) ?_
          refine t_k ?_
          rw [b2_t c3]
          refine t_neg (by decide) ?_
          refine t_We (e_thr0 _ _) (t_pos (by decide) ?_)
          refine t_Re rfl ?_
          rw [show 0 + 9 * (12 * a1 + a2) + a3 = 9 * (12 * a1 + a2) + a3 from by omega]
          have hE' := rE_vote (v := a4) hT hC.2.2.2.2 (sk := a1) (wh := a2 * 9 + a3) (by omega) (by omega)
          rw [hvx] at hE'
          refine t_W (t_mono (act_fin hI (by omega) (by omega) hR3 (frX_0A M3) (mA_0 M3) (by rw [r6]; exact hcP.1) (idx := 9 * (12 * a1 + a2) + a3) (w := a4) (by omega) (bN_upd hN (fun _ => c3) (by omega) (by omega) (by omega) (by omega) (by omega) (by omega) (by omega) (by omega) (by omega)) hE' ⟨by omega, by omega, by omega, by omega, fun _ => ⟨by omega, by omega, by omega, fun _ => hv, by omega⟩, by omega, by omega, by omega, by omega⟩ (und_self (fun j => by unfold und; rw [if_pos rfl]; show (if j = vix a1 (a2 * 9 + a3) then _ else _) = _; rw [hvx]))) (fun p hp => ?_))
          exact t_some ⟨hp.2.1, fun _ => hp.1, hp.2.2.1, hp.2.2.2.1⟩
      · refine stQ hI (code := 2) (val := 0) (by omega) (fun h => by omega) ?_ (fun M3 h8 => ?_)
        · unfold w_tell f_X9_tell
          rw [c_wAt0 hC rfl hQ.2.2.1 c1, eR, if_pos rfl, c_wJu0 hC rfl c2, eR, if_pos rfl, eK, pw_of hb4.1 hb4.2, pw_of (z := -5) (by omega) (by omega), pw_of (z := 5) (by omega) (by omega)]
          by_cases c4 : a4 < -5
          · rw [if_pos c4, eT3, if_neg (by decide), if_neg (by decide), if_pos rfl]
            exact wQ1 (by decide) (fr8_r M)
          · rw [if_neg c4, if_neg (by omega), eT3, if_neg (by decide), if_neg (by decide), if_pos rfl]
            exact wQ1 (by decide) (fr8_r M)
        · obtain ⟨r6, r9, r0⟩ := ref_A h8
          obtain ⟨b9, b0, b6⟩ := ref_B hP h8
          unfold f_X10_tell
          refine t_let ?_
          refine t_We (e_noTry0 (by rw [b9]; exact hT) (by rw [b0]; exact hN) b6 (by rw [b9]; exact c1.1) (by rw [r6, b9, b0]; exact c1.2)) (t_pos (by decide) ?_)
          refine t_We (e_noJu0 (by rw [r9]; exact hT) (by rw [r9]; exact c2)) (t_pos (by decide) ?_)
          refine t_Re (e_in hb4 (by omega) (by omega)) ?_
          refine t_k ?_
          rw [b2_f c3]
          refine t_pos (by decide) ?_
          refine t_We (e_thr1 _ _) (t_neg (by decide) ?_)
          exact rQt (by decide) (frX_0A M3) (by rw [r6]; exact hcP.1)
    · refine stQ hI (code := 1) (val := 0) (by omega) (fun h => by omega) ?_ (fun M3 h8 => ?_)
      · unfold w_tell f_X9_tell
        rw [c_wAt0 hC rfl hQ.2.2.1 c1, eR, if_pos rfl, c_wJu1 hC rfl j3 c2, eR, if_neg (by decide), eT3, if_neg (by decide), if_pos rfl]
        exact wQ1 (by decide) (fr8_r M)
      · obtain ⟨r6, r9, r0⟩ := ref_A h8
        obtain ⟨b9, b0, b6⟩ := ref_B hP h8
        unfold f_X10_tell
        refine t_let ?_
        refine t_We (e_noTry0 (by rw [b9]; exact hT) (by rw [b0]; exact hN) b6 (by rw [b9]; exact c1.1) (by rw [r6, b9, b0]; exact c1.2)) (t_pos (by decide) ?_)
        refine t_We (e_noJu1 (by rw [r9]; exact hT) (jin_b j3) (by rw [r9]; exact c2)) (t_neg (by decide) ?_)
        exact rQt (by decide) (frX_0A M3) (by rw [r6]; exact hcP.1)
  · refine stQ hI (code := 1) (val := 0) (by omega) (fun h => by omega) ?_ (fun M3 h8 => ?_)
    · unfold w_tell f_X9_tell
      rw [c_wAt1 hC rfl hQ.2.2.1 j1 j2 c1, eR, if_neg (by decide), eT3, if_neg (by decide), if_pos rfl]
      exact wQ1 (by decide) (fr8_r M)
    · obtain ⟨r6, r9, r0⟩ := ref_A h8
      obtain ⟨b9, b0, b6⟩ := ref_B hP h8
      unfold f_X10_tell
      refine t_let ?_
      refine t_We (e_noTry1 (by rw [b9]; exact hT) (by rw [b0]; exact hN) b6 (jin_b j1) (jin_b j2) (by rw [r6, b9, b0]; exact c1)) (t_neg (by decide) ?_)
      exact rQt (by decide) (frX_0A M3) (by rw [r6]; exact hcP.1)
