/-! ===== read ===== -/
theorem bP_c {P P' : Int → Int} (h : bP P) (hj : ∀ j, 15 ≤ j → j ≤ 22 → P' j = P j) : bP P' := by
  unfold bP
  rw [hj 15 (by decide) (by decide), hj 16 (by decide) (by decide), hj 17 (by decide) (by decide), hj 18 (by decide) (by decide), hj 19 (by decide) (by decide), hj 20 (by decide) (by decide), hj 21 (by decide) (by decide), hj 22 (by decide) (by decide)]
  exact h
theorem c_read0 {M Mc : jM} {e : Int} (he : e = 3 ∨ e = 56) (h3 : M 1 3 = 3 ∨ M 1 3 = 56) (he4 : M 1 4 = e) (hfo : f_X4_faultOf (M 1 1) e (jst M 1 1 0) = some (Mc 109 7, Mc)) (h7 : Mc 109 7 = -1) (hM1 : Mc 1 = jst M 1 1 0 1) (hv : 0 ≤ Mc (e + 13) 3 ∧ Mc (e + 13) 3 ≤ 6) : w_read M = some (0, jst (jst (jst (jst (jst Mc 1 2 (-1)) 1 3 e) 1 4 (M 1 3)) 159 0 0) 180 0 (Mc (e + 13) 3)) := by
  have e4 : jst M 1 1 0 1 4 = e := by rw [pst_i (by decide)]; exact he4
  have m4 : jst Mc 1 2 (-1) 1 4 = e := by rw [pst_i (by decide), hM1]; exact e4
  have m3 : jst Mc 1 2 (-1) 1 3 = M 1 3 := by rw [pst_i (by decide), hM1, pst_i (by decide)]
  have hX : f_X9_read M = some (0, Mc (e + 13) 3, jst (jst (jst (jst Mc 1 2 (-1)) 1 3 e) 1 4 (M 1 3)) 159 0 0) := by
    unfold f_X9_read
    rw [eL, eL, e4, eC (kd_e he), hfo, eW, eL, h7, pst_s, if_pos rfl, m3, m4, eC (kd_e h3), eC (kd_e he), eL, eL]
    unfold f_X0_forget
    rw [eL, eV]
    have q3 : jst (jst (jst (jst Mc 1 2 (-1)) 1 3 e) 1 4 (M 1 3)) 159 0 0 1 3 = e := by rw [pst_c (by decide), pst_i (by decide), pst_s]
    have qv : jst (jst (jst (jst Mc 1 2 (-1)) 1 3 e) 1 4 (M 1 3)) 159 0 0 (e + 13) 3 = Mc (e + 13) 3 := by rw [pst_c (by omega), pst_c (by omega), pst_c (by omega), pst_c (by omega)]
    rw [q3, eC (kd_e he), qv]
  unfold w_read jbT3
  rw [hX]
  dsimp only
  rw [if_pos rfl, pw_of (z := Mc (e + 13) 3) (by omega) (by omega)]
theorem c_read1 {M Mc : jM} {e : Int} (he : e = 3 ∨ e = 56) (he4 : M 1 4 = e) (hfo : f_X4_faultOf (M 1 1) e (jst M 1 1 0) = some (Mc 109 7, Mc)) (h7 : 0 ≤ Mc 109 7 ∧ Mc 109 7 ≤ 600) : w_read M = some (1, jst Mc 1 2 (Mc 109 7)) := by
  have e4 : jst M 1 1 0 1 4 = e := by rw [pst_i (by decide)]; exact he4
  have hX : f_X9_read M = some (1, 0, jst Mc 1 2 (Mc 109 7)) := by
    unfold f_X9_read
    rw [eL, eL, e4, eC (kd_e he), hfo, eW, eL, pst_s, pw_of (z := Mc 109 7) (by omega) (by omega), pw_of (z := -1) (by omega) (by omega), if_neg (by omega)]
  unfold w_read jbT3
  rw [hX]
  dsimp only
  rw [if_neg (by decide), if_pos rfl]
theorem z_2 {M : jM} (hI : Inv M) : jT (s_2 M) Inv := by
  obtain ⟨⟨x1, x2, x3, x4⟩, ⟨xf1, xf2, xf3⟩, ⟨hC, hev⟩, ⟨m5, m16, m58, m69⟩, hW, hA, hP⟩ := hI
  obtain ⟨e, he4⟩ : ∃ e, M 1 4 = e := ⟨_, rfl⟩
  rw [he4] at hev
  have he : e = 3 ∨ e = 56 := by omega
  have h3 : M 1 3 = 3 ∨ M 1 3 = 56 := by omega
  have hO : okT (M 2) (M 1 1) := ⟨x1, x2, fun i q0 q1 => (x4 i q0 q1).1⟩
  have ht : ∀ i, 0 ≤ i → i < M 1 1 → jst M 1 1 0 2 i = M 2 i := fun i _ _ => pst_c (by decide)
  have h10 : jst M 1 1 0 (e + 2) 0 = 10 := by
    rw [pst_c (by omega)]
    rcases he with rfl | rfl
    · exact m5
    · exact m58
  have h6 : jst M 1 1 0 (e + 13) 0 = 6 := by
    rw [pst_c (by omega)]
    rcases he with rfl | rfl
    · exact m16
    · exact m69
  obtain ⟨Mc, Mr0, l0, hfo, -⟩ := read_pair (W := M) he hO ht h10 h6 x3 (fun i q0 q1 => (x4 i q0 q1).2)
  have hfr : frC e (jst M 1 1 0) Mc := by
    rcases l0 with h | h
    · exact h.1.2.2.2
    · exact h.2.2.1
  have hMc : ∀ a, a ≠ 109 → (a < e ∨ e + 52 < a) → a ≠ 1 → Mc a = M a := fun a q0 q1 q2 => by rw [hfr.1 a q0 q1, pst_f q2]
  have hM1 : Mc 1 = jst M 1 1 0 1 := hfr.1 1 (by decide) (by omega)
  have hnm : Mc 5 0 = 10 ∧ Mc 16 0 = 6 ∧ Mc 58 0 = 10 ∧ Mc 69 0 = 6 := by
    obtain ⟨-, f2, f3⟩ := hfr
    rw [h10] at f2
    rw [h6] at f3
    rcases he with rfl | rfl
    · exact ⟨f2, f3, by rw [hMc 58 (by decide) (by decide) (by decide)]; exact m58, by rw [hMc 69 (by decide) (by decide) (by decide)]; exact m69⟩
    · exact ⟨by rw [hMc 5 (by decide) (by decide) (by decide)]; exact m5, by rw [hMc 16 (by decide) (by decide) (by decide)]; exact m16, f2, f3⟩
  have read2 : ∀ W : jM, W 166 = M 166 → W 167 = M 167 → ∃ Mr', LE e (M 2) (M 1 1) (jst M 1 1 0) (BW W) Mc Mr' ∧ ∀ P, jT (KR Mr') P → jT (f_X10_read W) P := fun W w6 w7 => by
    obtain ⟨Mc', Mr', l1, hfo', l3⟩ := read_pair (W := W) he hO ht h10 h6 (by rw [w6]; exact x3) (fun i q0 q1 => by rw [w7]; exact (x4 i q0 q1).2)
    rw [hfo] at hfo'
    have := (Prod.mk.inj (Option.some.inj hfo')).2
    subst this
    exact ⟨Mr', l1, l3⟩
  unfold s_2
  rcases l0 with h0 | h0
  · have h7 : Mc 109 7 = -1 := h0.1.2.2.1
    have hv0 : 0 ≤ Mc (e + 13) 3 ∧ Mc (e + 13) 3 ≤ 6 := by
      rw [h0.2.2.2.2.2.2.2.1.2.2.2.1]
      exact h0.2.2.2.2.1.2.1
    refine stA (code := 0) (val := Mc (e + 13) 3) (R := fun M3 => M3 = jst (jst (jst (jst (jst Mc 1 2 (-1)) 1 3 e) 1 4 (M 1 3)) 159 0 0) 180 0 (Mc (e + 13) 3)) (by decide) (fun _ => by omega) ⟨_, c_read0 he h3 he4 hfo h7 hM1 hv0, rfl, fun _ => by dsimp only; rw [pst_s], rfl⟩ (fun M3 hM3 => ?_)
    have f3 : ∀ a, a ≠ 1 → a ≠ 159 → a ≠ 180 → M3 a = Mc a := fun a q0 q1 q2 => by rw [hM3, pst_f q2, pst_f q1, pst_f q0, pst_f q0, pst_f q0]
    have f11 : M3 1 1 = 0 := by rw [hM3, pst_c (by decide), pst_c (by decide), pst_i (by decide), pst_i (by decide), pst_i (by decide), hM1, pst_s]
    have f12 : M3 1 2 = -1 := by rw [hM3, pst_c (by decide), pst_c (by decide), pst_i (by decide), pst_i (by decide), pst_s]
    have f13 : M3 1 3 = e := by rw [hM3, pst_c (by decide), pst_c (by decide), pst_i (by decide), pst_s]
    have f14 : M3 1 4 = M 1 3 := by rw [hM3, pst_c (by decide), pst_c (by decide), pst_s]
    have f15 : M3 159 0 = 0 := by rw [hM3, pst_c (by decide), pst_s]
    have f16 : M3 159 1 = M 159 1 := by rw [hM3, pst_c (by decide), pst_i (by decide), pst_c (by decide), pst_c (by decide), pst_c (by decide), hMc 159 (by decide) (by omega) (by decide)]
    clear hM3
    have g3 : ∀ a, a ≠ 109 → (a < e ∨ e + 52 < a) → a ≠ 1 → a ≠ 159 → a ≠ 180 → M3 a = M a := fun a q0 q1 q2 q3 q4 => by rw [f3 a q2 q3 q4, hMc a q0 q1 q2]
    obtain ⟨Mr, hLE, hK⟩ := read2 M3 (g3 166 (by decide) (by omega) (by decide) (by decide) (by decide)) (g3 167 (by decide) (by omega) (by decide) (by decide) (by decide))
    have hRL : rLn e (M 2) (M 1 1) (jst M 1 1 0) (BW M3) (M 1 1) Mc Mr := hLE.resolve_right (fun z => by have := z.1; omega)
    obtain ⟨r1, r2, r3, r4, hE⟩ := hRL
    have fR := r2.2.2
    refine hK _ ?_
    unfold KR
    refine t_let ?_
    have q7 : jst Mr 166 8 (Mr 166 7) 166 7 = -1 := by rw [pst_i (by decide)]; exact r2.2.1
    refine t_Re (e_failed (by rw [q7]; decide)) ?_
    rw [if_pos q7]
    refine t_We (e_thr0 _ _) (t_pos (by decide) ?_)
    refine t_V (t_mono (e_taken _) (fun M24 h24 => ?_))
    obtain ⟨k1, k2, k3⟩ := h24
    refine t_let (t_ck (by decide) (t_some ?_))
    rw [pw_of (z := 1) (by omega) (by omega)]
    have y6 : ∀ j, j ≠ 29 → j ≠ 8 → j ≠ 4 → j ≠ 5 → j ≠ 7 → j ≠ 13 → j ≠ 14 → jst M24 166 29 0 166 j = BW M3 166 j := fun j q0 q1 q2 q3 q4 q5 q6 => by rw [pst_i q0, k1 166 (by decide) (by decide), pst_i q1, fR.2 j q2 q3 q4 q5 q6]
    have ya : ∀ a, a ≠ 166 → a ≠ 169 → a ≠ 170 → a ≠ 171 → a ≠ 172 → jst M24 166 29 0 a = M3 a := fun a q0 q1 q2 q3 q4 => by rw [pst_f q0, k1 a q1 q2, pst_f q0, fR.1 a q0 q3 q4, BW_f q0]
    have y9 : ∀ j, 0 ≤ j → j < 1089 → jst M24 166 29 0 169 j = Mr 171 j := fun j q0 q1 => by rw [pst_c (by decide), k2 j q0 q1, pst_c (by decide)]
    have y0 : ∀ j, 0 ≤ j → j < 971 → jst M24 166 29 0 170 j = Mr 172 j := fun j q0 q1 => by rw [pst_c (by decide), k3 j q0 q1, pst_c (by decide)]
    have y8 : jst M24 166 29 0 166 8 = -1 := by rw [pst_i (by decide), k1 166 (by decide) (by decide), pst_s]; exact r2.2.1
    have y29 : jst M24 166 29 0 166 29 = 0 := pst_s _ _ _ _
    dsimp only
    generalize jst M24 166 29 0 = Y at y6 ya y9 y0 y8 y29 ⊢
    obtain ⟨w0, w6, w2, w4, w7, w13, w14⟩ := BW_v M3
    have g6 : ∀ j, j ≠ 29 → j ≠ 8 → j ≠ 4 → j ≠ 5 → j ≠ 7 → j ≠ 13 → j ≠ 14 → j ≠ 0 → j ≠ 6 → j ≠ 2 → Y 166 j = M 166 j := fun j q0 q1 q2 q3 q4 q5 q6 q7 q8 q9 => by rw [y6 j q0 q1 q2 q3 q4 q5 q6, BW_j ⟨q7, q8, q9, q2, q4, q5, q6⟩, g3 166 (by decide) (by omega) (by decide) (by decide) (by decide)]
    have yM : ∀ a, a ≠ 166 → a ≠ 169 → a ≠ 170 → a ≠ 171 → a ≠ 172 → a ≠ 109 → (a < e ∨ e + 52 < a) → a ≠ 1 → a ≠ 159 → a ≠ 180 → Y a = M a := fun a q0 q1 q2 q3 q4 q5 q6 q7 q8 q9 => by rw [ya a q0 q1 q2 q3 q4, g3 a q5 q6 q7 q8 q9]
    refine ⟨?_, fun _ => ?_, ya 180 (by decide) (by decide) (by decide) (by decide) (by decide), ?_, ?_, ?_, ?_, ?_, ?_, ?_⟩
    · rw [y6 0 (by decide) (by decide) (by decide) (by decide) (by decide) (by decide) (by decide)]; exact w0
    · rw [y9 1 (by decide) (by decide), hE.2.2.2.1.2.2.2.1]
    · unfold iT
      rw [ya 1 (by decide) (by decide) (by decide) (by decide) (by decide), f11, y6 2 (by decide) (by decide) (by decide) (by decide) (by decide) (by decide) (by decide), w2]
      exact ⟨by decide, by decide, rfl, fun i q0 q1 => by omega⟩
    · unfold iF
      rw [ya 1 (by decide) (by decide) (by decide) (by decide) (by decide), f12, y8]
      decide
    · unfold iE
      rw [ya 1 (by decide) (by decide) (by decide) (by decide) (by decide), f13, f14]
      refine ⟨cE_t (T := Mr 171) (N := Mr 172) ⟨he, hE.1, hE.2.1, hE.2.2.1, rE_fr hE.1.2.1.2 (evT_E hE) (fun a b0 b1 b2 => ?_)⟩ y9 y0, by omega⟩
      rw [ya a (by omega) (by omega) (by omega) (by omega) (by omega), f3 a (by omega) (by omega) (by omega)]
    · unfold iM
      rw [ya 5 (by decide) (by decide) (by decide) (by decide) (by decide), ya 16 (by decide) (by decide) (by decide) (by decide) (by decide), ya 58 (by decide) (by decide) (by decide) (by decide) (by decide), ya 69 (by decide) (by decide) (by decide) (by decide) (by decide), f3 5 (by decide) (by decide) (by decide), f3 16 (by decide) (by decide) (by decide), f3 58 (by decide) (by decide) (by decide), f3 69 (by decide) (by decide) (by decide)]
      exact hnm
    · unfold iW at hW ⊢
      rw [yM 164 (by decide) (by decide) (by decide) (by decide) (by decide) (by decide) (by omega) (by decide) (by decide) (by decide), yM 165 (by decide) (by decide) (by decide) (by decide) (by decide) (by decide) (by omega) (by decide) (by decide) (by decide), yM 179 (by decide) (by decide) (by decide) (by decide) (by decide) (by decide) (by omega) (by decide) (by decide) (by decide), g6 31 (by decide) (by decide) (by decide) (by decide) (by decide) (by decide) (by decide) (by decide) (by decide) (by decide)]
      exact hW
    · unfold iA
      rw [ya 159 (by decide) (by decide) (by decide) (by decide) (by decide), f15, f16, y29]
      exact ⟨by decide, by decide, rfl, hA.2.2.2.1, hA.2.2.2.2.1, fun i q0 q1 => by omega⟩
    · exact bP_c hP (fun j b0 b1 => g6 j (by omega) (by omega) (by omega) (by omega) (by omega) (by omega) (by omega) (by omega) (by omega) (by omega))
  · have h7 : 0 ≤ Mc 109 7 ∧ Mc 109 7 ≤ 600 := h0.1
    refine stA (code := 1) (val := 0) (R := fun M3 => M3 = jst Mc 1 2 (Mc 109 7)) (by decide) (fun _ => by decide) ⟨_, c_read1 he he4 hfo h7, rfl, fun c => absurd c (by decide), rfl⟩ (fun M3 hM3 => ?_)
    have f3 : ∀ a, a ≠ 1 → M3 a = Mc a := fun a q0 => by rw [hM3, pst_f q0]
    have f11 : M3 1 1 = 0 := by rw [hM3, pst_i (by decide), hM1, pst_s]
    have f12 : M3 1 2 = Mc 109 7 := by rw [hM3, pst_s]
    have f13 : M3 1 3 = M 1 3 := by rw [hM3, pst_i (by decide), hM1, pst_i (by decide)]
    have f14 : M3 1 4 = e := by rw [hM3, pst_i (by decide), hM1, pst_i (by decide)]; exact he4
    clear hM3
    have g3 : ∀ a, a ≠ 109 → (a < e ∨ e + 52 < a) → a ≠ 1 → M3 a = M a := fun a q0 q1 q2 => by rw [f3 a q2, hMc a q0 q1 q2]
    obtain ⟨Mr, hLE, hK⟩ := read2 M3 (g3 166 (by decide) (by omega) (by decide)) (g3 167 (by decide) (by omega) (by decide))
    have hfl : fl e (M 1 1) (jst M 1 1 0) (BW M3) Mc Mr := hLE.resolve_left (fun z => by have := z.1.2.2.1; omega)
    obtain ⟨r1, r2, r3, fR, r5⟩ := hfl
    refine hK _ ?_
    unfold KR
    refine t_let ?_
    have q7 : jst Mr 166 8 (Mr 166 7) 166 7 = Mc 109 7 := by rw [pst_i (by decide)]; exact r2
    refine t_Re (l_failed (by unfold okF; rw [q7]; exact h7)) ?_
    refine t_We (e_thr1 _ _) (t_neg (by decide) (t_some ?_))
    have y6 : ∀ j, j ≠ 0 → j ≠ 8 → j ≠ 4 → j ≠ 5 → j ≠ 7 → j ≠ 13 → j ≠ 14 → jst (jst Mr 166 8 (Mr 166 7)) 166 0 1 166 j = BW M3 166 j := fun j q0 q1 q2 q3 q4 q5 q6 => by rw [pst_i q0, pst_i q1, fR.2 j q2 q3 q4 q5 q6]
    have ya : ∀ a, a ≠ 166 → a ≠ 171 → a ≠ 172 → jst (jst Mr 166 8 (Mr 166 7)) 166 0 1 a = M3 a := fun a q0 q3 q4 => by rw [pst_f q0, pst_f q0, fR.1 a q0 q3 q4, BW_f q0]
    have y8 : jst (jst Mr 166 8 (Mr 166 7)) 166 0 1 166 8 = Mc 109 7 := by rw [pst_i (by decide), pst_s]; exact r2
    have y00 : jst (jst Mr 166 8 (Mr 166 7)) 166 0 1 166 0 = 1 := pst_s _ _ _ _
    dsimp only
    generalize jst (jst Mr 166 8 (Mr 166 7)) 166 0 1 = Y at y6 ya y8 y00 ⊢
    obtain ⟨w0, w6, w2, w4, w7, w13, w14⟩ := BW_v M3
    have g6 : ∀ j, j ≠ 8 → j ≠ 4 → j ≠ 5 → j ≠ 7 → j ≠ 13 → j ≠ 14 → j ≠ 0 → j ≠ 6 → j ≠ 2 → Y 166 j = M 166 j := fun j q1 q2 q3 q4 q5 q6 q7 q8 q9 => by rw [y6 j q7 q1 q2 q3 q4 q5 q6, BW_j ⟨q7, q8, q9, q2, q4, q5, q6⟩, g3 166 (by decide) (by omega) (by decide)]
    have yM : ∀ a, a ≠ 166 → a ≠ 171 → a ≠ 172 → a ≠ 109 → (a < e ∨ e + 52 < a) → a ≠ 1 → Y a = M a := fun a q0 q3 q4 q5 q6 q7 => by rw [ya a q0 q3 q4, g3 a q5 q6 q7]
    refine ⟨y00, fun c => absurd c (by decide), ya 180 (by decide) (by decide) (by decide), ?_, ?_, ?_, ?_, ?_, ?_, ?_⟩
    · unfold iT
      rw [ya 1 (by decide) (by decide) (by decide), f11, y6 2 (by decide) (by decide) (by decide) (by decide) (by decide) (by decide) (by decide), w2]
      exact ⟨by decide, by decide, rfl, fun i q0 q1 => by omega⟩
    · unfold iF
      rw [ya 1 (by decide) (by decide) (by decide), f12, y8]
      exact ⟨rfl, by omega, by omega⟩
    · unfold iE
      rw [ya 1 (by decide) (by decide) (by decide), f13, f14, yM 169 (by decide) (by decide) (by decide) (by decide) (by omega) (by decide), yM 170 (by decide) (by decide) (by decide) (by decide) (by omega) (by decide)]
      obtain ⟨c1, c2, c3, c4, c5⟩ := hC
      refine ⟨⟨c1, c2, c3, c4, rE_fr c2.2.1.2 c5 (fun a b0 b1 b2 => ?_)⟩, hev⟩
      exact yM a (by omega) (by omega) (by omega) (by omega) (by omega) (by omega)
    · unfold iM
      rw [ya 5 (by decide) (by decide) (by decide), ya 16 (by decide) (by decide) (by decide), ya 58 (by decide) (by decide) (by decide), ya 69 (by decide) (by decide) (by decide), f3 5 (by decide), f3 16 (by decide), f3 58 (by decide), f3 69 (by decide)]
      exact hnm
    · unfold iW at hW ⊢
      rw [yM 164 (by decide) (by decide) (by decide) (by decide) (by omega) (by decide), yM 165 (by decide) (by decide) (by decide) (by decide) (by omega) (by decide), yM 179 (by decide) (by decide) (by decide) (by decide) (by omega) (by decide), g6 31 (by decide) (by decide) (by decide) (by decide) (by decide) (by decide) (by decide) (by decide) (by decide)]
      exact hW
    · unfold iA snp slo at hA ⊢
      rw [yM 159 (by decide) (by decide) (by decide) (by decide) (by omega) (by decide), yM 160 (by decide) (by decide) (by decide) (by decide) (by omega) (by decide), yM 161 (by decide) (by decide) (by decide) (by decide) (by omega) (by decide), yM 162 (by decide) (by decide) (by decide) (by decide) (by omega) (by decide), yM 163 (by decide) (by decide) (by decide) (by decide) (by omega) (by decide), yM 169 (by decide) (by decide) (by decide) (by decide) (by omega) (by decide), yM 170 (by decide) (by decide) (by decide) (by decide) (by omega) (by decide), yM 178 (by decide) (by decide) (by decide) (by decide) (by omega) (by decide), g6 29 (by decide) (by decide) (by decide) (by decide) (by decide) (by decide) (by decide) (by decide) (by decide)]
      exact hA
    · exact bP_c hP (fun j b0 b1 => g6 j (by omega) (by omega) (by omega) (by omega) (by omega) (by omega) (by omega) (by omega) (by omega))
