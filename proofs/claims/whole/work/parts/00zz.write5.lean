/-! ===== write ===== -/
theorem Inv_Z {M M' : jM} (h : Inv M) (c : ∀ a, a ≠ 15 → a ≠ 68 → (a < 110 ∨ 158 < a) → a ≠ 164 → a ≠ 165 → a ≠ 166 → (a < 173 ∨ 177 < a) → (a ≠ 179 ∧ a ≠ 180) → M' a = M a) (hf : ∀ j, j ≠ 0 → (j < 15 ∨ 22 < j) → j ≠ 31 → M' 166 j = M 166 j) (hP : bP (M' 166)) (hW : iW M') : Inv M' := by
  obtain ⟨hT, hF, hE, hM, -, hA, -⟩ := h
  have c1 : M' 1 = M 1 := c 1 (by decide) (by decide) (by decide) (by decide) (by decide) (by decide) (by decide) (by decide)
  have c2 : M' 2 = M 2 := c 2 (by decide) (by decide) (by decide) (by decide) (by decide) (by decide) (by decide) (by decide)
  have c5 : M' 5 = M 5 := c 5 (by decide) (by decide) (by decide) (by decide) (by decide) (by decide) (by decide) (by decide)
  have c16 : M' 16 = M 16 := c 16 (by decide) (by decide) (by decide) (by decide) (by decide) (by decide) (by decide) (by decide)
  have c58 : M' 58 = M 58 := c 58 (by decide) (by decide) (by decide) (by decide) (by decide) (by decide) (by decide) (by decide)
  have c69 : M' 69 = M 69 := c 69 (by decide) (by decide) (by decide) (by decide) (by decide) (by decide) (by decide) (by decide)
  have c159 : M' 159 = M 159 := c 159 (by decide) (by decide) (by decide) (by decide) (by decide) (by decide) (by decide) (by decide)
  have c160 : M' 160 = M 160 := c 160 (by decide) (by decide) (by decide) (by decide) (by decide) (by decide) (by decide) (by decide)
  have c161 : M' 161 = M 161 := c 161 (by decide) (by decide) (by decide) (by decide) (by decide) (by decide) (by decide) (by decide)
  have c162 : M' 162 = M 162 := c 162 (by decide) (by decide) (by decide) (by decide) (by decide) (by decide) (by decide) (by decide)
  have c163 : M' 163 = M 163 := c 163 (by decide) (by decide) (by decide) (by decide) (by decide) (by decide) (by decide) (by decide)
  have c167 : M' 167 = M 167 := c 167 (by decide) (by decide) (by decide) (by decide) (by decide) (by decide) (by decide) (by decide)
  have c169 : M' 169 = M 169 := c 169 (by decide) (by decide) (by decide) (by decide) (by decide) (by decide) (by decide) (by decide)
  have c170 : M' 170 = M 170 := c 170 (by decide) (by decide) (by decide) (by decide) (by decide) (by decide) (by decide) (by decide)
  have c178 : M' 178 = M 178 := c 178 (by decide) (by decide) (by decide) (by decide) (by decide) (by decide) (by decide) (by decide)
  refine ⟨?_, ?_, ?_, ?_, hW, ?_, hP⟩
  · unfold iT at hT ⊢
    rw [c1, c2, c167, hf 2 (by decide) (by decide) (by decide)]
    exact hT
  · unfold iF at hF ⊢
    rw [c1, hf 8 (by decide) (by decide) (by decide)]
    exact hF
  · unfold iE at hE ⊢
    rw [c1, c169, c170]
    obtain ⟨⟨q1, q2, q3, q4, q5⟩, q6⟩ := hE
    refine ⟨⟨q1, q2, q3, q4, rE_fr q2.2.1.2 q5 (fun a u0 u1 u2 => ?_)⟩, q6⟩
    rcases q1 with q1 | q1 <;> exact c a (by omega) (by omega) (by omega) (by omega) (by omega) (by omega) (by omega) (by omega)
  · unfold iM at hM ⊢
    rw [c5, c16, c58, c69]
    exact hM
  · unfold iA snp slo at hA ⊢
    rw [c159, c160, c161, c162, c163, c169, c170, c178, hf 29 (by decide) (by decide) (by decide)]
    exact hA
/-- the reference's text, from the first row on -/
theorem e_text {M : jM} {P : Int → Int} {s : Int} (h : pg 166 31 179 M []) (hPe : pSm P (M 166)) (hP : bP P) (hT : bT (M 169)) (hN : bN (M 170)) (hJ : bJ P (M 169)) (hR : bR (M 169)) (hs : 0 ≤ s ∧ s < M 169 1) (hn1 : ∀ x, 0 ≤ x → x < 6 → 0 ≤ M 169 (74 + 6 * s + x) ∧ M 169 (74 + 6 * s + x) ≤ 127) (hn2 : ∀ k i, 0 ≤ k → k < M 169 (116 + s) → 0 ≤ i → i < q_many (M 169) s k → ∀ x, 0 ≤ x → x < 6 → 0 ≤ M 169 (14 + 6 * q_el (M 169) s k i + x) ∧ M 169 (14 + 6 * q_el (M 169) s k i + x) ≤ 127) :
    jT (jbV (f_X10_saysName (74 + 6 * s) M) fun M9 =>
    jbV (f_X10_says 32 M9) fun M11 =>
    jbW (f_X10_totalOf s M11) fun v14 M13 =>
    jbV (f_X10_saysHundredths v14 M13) fun M16 =>
    jlp2 (fun (self19 : Int → jM → Option (Int × jM)) (l2_17 : Int) (M18 : jM) =>
      jck (0 ≤ jw (116 + s) ∧ jw (116 + s) < 1089) <|
      if jw (M18 169 (jw (116 + s))) ≤ jw l2_17 then (
        some ((M18 166 31), M18))
      else (
        jbR (f_X10_is s l2_17 M18) fun v22 =>
        if jw v22 = 0 then (
          jlet (l2_17 + 1) fun l2_23 =>
          self19 l2_23 M18)
        else (
          jbV (f_X10_saysTry s l2_17 M18) fun M25 =>
          jlet (l2_17 + 1) fun l2_26 =>
          self19 l2_26 M25))) jfuel 0 M16) (fun q => q.1 = ((txtL P (M 169) (M 170) s).length : Int) ∧ pg 166 31 179 q.2 (txtL P (M 169) (M 170) s) ∧ fR M q.2) := by
  have t1 := hT.2.1
  have hs6 : 0 ≤ s ∧ s < 6 := by omega
  have tt := hT.2.2.2.2.2.2.1 s hs6.1 hs6.2
  have htb := q_total_b (N := M 170) hP hT hN hJ hs6
  have nlen := nmL_len (fun x => M 169 (74 + 6 * s + x)) 6
  have hdlen := hdL_len (v := q_total P (M 169) (M 170) s) (by omega)
  have env : ∀ (X : jM) (l : List Int), rW M [] l X → bP (X 166) ∧ X 169 = M 169 ∧ X 170 = M 170 ∧ pSm P (X 166) := fun X l hX => by
    have hsm : pSm P (X 166) := fun j q0 q1 => by rw [hX.2.2 j (by omega)]; exact hPe j q0 q1
    exact ⟨k_bP hsm hP, hX.2.1 169 (by decide) (by decide) (by decide), hX.2.1 170 (by decide) (by decide) (by decide), hsm⟩
  refine t_V (t_mono (e_saysName (b := 74 + 6 * s) h (by decide) (by omega) hn1) (fun M9 h9 => ?_))
  refine t_V (t_mono (e_says h9.1 (by simp only [List.length_append, List.length_nil]; omega) (by decide)) (fun M11 h11 => ?_))
  have h11 := rW_t h9 h11
  obtain ⟨v1, v2, v3, v4⟩ := env M11 _ h11
  refine t_W (t_mono (e_total v1 (by rw [v2]; exact hT) (by rw [v3]; exact hN) (by rw [v2]; exact k_bJ v4 hJ) (by rw [v2]; exact hR) hs6) (fun p hp => ?_))
  obtain ⟨p1, p2⟩ := hp
  rw [v2, v3, k_tot v4] at p1
  have h13 : rW M [] (nmL (fun x => M 169 (74 + 6 * s + x)) 6 ++ [32]) p.2 := ⟨pg_keep h11.1 (by rw [p2 166 (by decide) (by decide)]) (p2 179 (by decide) (by decide)), fR_t h11.2 (fR_34 p2)⟩
  rw [p1]
  refine t_V (t_mono (e_saysHd h13.1 (by simp only [List.length_append, List.length_nil, List.length_singleton]; omega) (by omega)) (fun M16 h16 => ?_))
  have h16 := rW_t h13 h16
  refine t_lp2 (fun k M18 => 0 ≤ k ∧ k ≤ M 169 (116 + s) ∧ rW M [] (nmL (fun x => M 169 (74 + 6 * s + x)) 6 ++ [32] ++ hdL (q_total P (M 169) (M 170) s) ++ triesL P (M 169) (M 170) s k.toNat) M18) (fun k _ => (M 169 (116 + s) - k).toNat) ?_ jfuel 0 M16 (by rw [jfuel_eq]; omega) ⟨by omega, by omega, by
    show rW _ _ (nmL (fun x => M 169 (74 + 6 * s + x)) 6 ++ [32] ++ hdL (q_total P (M 169) (M 170) s) ++ []) M16
    rw [List.append_nil]
    exact h16⟩
  rintro self k M18 ⟨hk1, hk2, h18⟩ hself
  obtain ⟨v1, v2, v3, v4⟩ := env M18 _ h18
  have hts := triesL_s (P := P) (T := M 169) (N := M 170) (s := s) hk1
  have htl := triesL_len (P := P) (N := M 170) hP hT hN hJ hs6 k.toNat (by omega)
  rw [v2, pw_of (z := 116 + s) (by omega) (by omega), pw_of (z := M 169 (116 + s)) (by omega) (by omega), pw_of (z := k) (by omega) (by omega)]
  refine t_ck (by omega) ?_
  refine t_if (fun c => ?_) (fun c => ?_)
  · rw [show k = M 169 (116 + s) from by omega] at h18
    exact t_some ⟨h18.1.1, h18.1, h18.2⟩
  · refine t_Re (e_is v1 (by rw [v2]; exact hT) (by rw [v3]; exact hN) hs6 (by omega)) ?_
    rw [v2, v3, ← g_is _ _ (k_eq v4)]
    rcases q_is_b P (M 169) (M 170) s k with q | q
    · rw [q]
      refine t_pos (by decide) ?_
      refine t_let ?_
      rw [if_pos q] at hts
      exact hself _ _ ⟨by omega, by omega, by rw [hts]; exact h18⟩ (by omega)
    · have hlt : k.toNat ≤ 11 := by omega
      rw [q]
      refine t_neg (by decide) ?_
      rw [if_neg (by omega)] at hts
      refine t_V (t_mono (e_saysTry h18.1 (by simp only [List.length_append, List.length_nil, List.length_singleton]; omega) v1 (by rw [v2]; exact hT) (by rw [v3]; exact hN) (by rw [v2]; exact k_bJ v4 hJ) hs6 (by omega) (fun i q0 q1 x q2 q3 => by rw [v2] at q1 ⊢; exact hn2 k i hk1 (by omega) q0 q1 x q2 q3)) (fun M25 h25 => ?_))
      refine t_let ?_
      refine hself _ _ ⟨by omega, by omega, ?_⟩ (by omega)
      have e1 : tryL (M18 166) (M18 169) (M18 170) s k = tryL P (M 169) (M 170) s k := by
        unfold tryL
        rw [v2, v3, ← g_calls _ (k_eq v4), ← g_late _ _ (k_eq v4), k_pts v4]
      rw [hts, ← List.append_assoc]
      rw [e1] at h25
      exact rW_t h18 h25
theorem txtL_len {P T N : Int → Int} (hP : bP P) (hT : bT T) (hN : bN N) (hJ : bJ P T) {s : Int} (hs : 0 ≤ s ∧ s < 6) : (txtL P T N s).length ≤ 420 := by
  have tt := hT.2.2.2.2.2.2.1 s hs.1 hs.2
  have h1 := triesL_len (P := P) (N := N) hP hT hN hJ hs (T (116 + s)).toNat (by omega)
  have h2 := q_total_b (N := N) hP hT hN hJ hs
  have h3 := hdL_len (v := q_total P T N s) (by omega)
  have h4 := nmL_len (fun x => T (74 + 6 * s + x)) 6
  unfold txtL
  simp only [List.length_append, List.length_singleton]
  omega
theorem rNm_b {L Z T : Int → Int} {base n i x : Int} (h : rNm L Z T base n) (hi : 0 ≤ i ∧ i < n) (hx : 0 ≤ x ∧ x < 6) : 0 ≤ T (base + 6 * i + x) ∧ T (base + 6 * i + x) ≤ 127 := by
  obtain ⟨-, z⟩ := h i hi.1 hi.2
  obtain ⟨z1, z2⟩ := z x hx.1 hx.2
  rw [z2]
  split
  · rename_i c
    have := z1 c
    omega
  · omega
set_option maxHeartbeats 1000000 in
theorem z_39 {M : jM} (hI : Inv M) {a1 : Int} (j1 : jin a1) : jT (s_39 a1 M) Inv := by
  obtain ⟨hC, hT, hN, hP, hR, hQ, hcP⟩ := inv_ctx hI
  have t0 := hT.1
  have t1 := hT.2.1
  have t2 := hT.2.2.1
  have t3 := hT.2.2.2.1
  have he := hC.1
  unfold s_39
  by_cases c1 : 0 ≤ a1 ∧ a1 < M 169 1
  · have hs6 : 0 ≤ a1 ∧ a1 < 6 := by omega
    have hE := hC.2.2.2.2
    have hlen := txtL_len (N := M 170) hcP.1 hT hN hcP.2.1 hs6
    obtain ⟨⟨u0, M4⟩, e4, u1, u2, u3, u4⟩ := c_tallied hC rfl hQ c1
    dsimp only at u1 u2 u3 u4
    obtain ⟨M9, e9, w1, w2⟩ := c_putSk (cE_fr hC u2) hQ c1 u3 u4
    have hw : w_write a1 M = some (0, jst M9 180 0 ((txtL (P0 M) (M 169) (M 170) a1).length : Int)) := by
      unfold w_write f_X9_write
      rw [c_wSk0 hC rfl c1, eR, if_pos rfl, eC (kd_e he), e4, eW, u1, eC (ln_t (by omega)).2.2, e9, eV, eT3, if_pos rfl, w1.1, pw_of (z := ((txtL (P0 M) (M 169) (M 170) a1).length : Int)) (by omega) (by omega)]
    refine t_We hw ?_
    have cM9 : ∀ a, a ≠ 15 → a ≠ 68 → (a < 110 ∨ 158 < a) → a ≠ 164 → a ≠ 165 → M9 a = M a := fun a x0 x1 x2 x3 x4 => by
      rw [w2 a x3 x4]
      exact u2 a x2 (by rcases he with he | he <;> omega)
    generalize hM3 : jst M9 180 0 ((txtL (P0 M) (M 169) (M 170) a1).length : Int) = M3
    have cM3 : ∀ a, a ≠ 15 → a ≠ 68 → (a < 110 ∨ 158 < a) → a ≠ 164 → a ≠ 165 → a ≠ 180 → M3 a = M a := fun a x0 x1 x2 x3 x4 x5 => by
      rw [← hM3, pst_f x5]
      exact cM9 a x0 x1 x2 x3 x4
    have p3 : pg 164 1 165 M3 (txtL (P0 M) (M 169) (M 170) a1) := pg_keep w1 (by rw [← hM3, pst_f (by decide)]) (by rw [← hM3, pst_f (by decide)])
    have v180 : M3 180 0 = ((txtL (P0 M) (M 169) (M 170) a1).length : Int) := by rw [← hM3, pst_s]
    have m6 : M3 166 = M 166 := cM3 166 (by decide) (by decide) (by decide) (by decide) (by decide) (by decide)
    have b9 : jst M3 166 0 0 169 = M 169 := by rw [pst_f (by decide)]; exact cM3 169 (by decide) (by decide) (by decide) (by decide) (by decide) (by decide)
    have b0 : jst M3 166 0 0 170 = M 170 := by rw [pst_f (by decide)]; exact cM3 170 (by decide) (by decide) (by decide) (by decide) (by decide) (by decide)
    have r6 : mA (jst M3 166 0 0) 166 = P0 M := P0_eq m6 (cM3 169 (by decide) (by decide) (by decide) (by decide) (by decide) (by decide))
    have r9 : mA (jst M3 166 0 0) 169 = M 169 := by rw [mA_f (by decide)]; exact b9
    have r0 : mA (jst M3 166 0 0) 170 = M 170 := by rw [mA_f (by decide)]; exact b0
    have href : jT (f_X10_write a1 M3) (fun q => q.1 = ((txtL (P0 M) (M 169) (M 170) a1).length : Int) ∧ pg 166 31 179 q.2 (txtL (P0 M) (M 169) (M 170) a1) ∧ q.2 166 0 = 0 ∧ bP (q.2 166) ∧ (∀ a, a ≠ 166 → (a < 173 ∨ 177 < a) → a ≠ 179 → q.2 a = M3 a) ∧ ∀ j, j ≠ 0 → (j < 15 ∨ 22 < j) → j ≠ 31 → q.2 166 j = M3 166 j) := by
      unfold f_X10_write
      refine t_let ?_
      refine t_Ve (e_all (by rw [b9]; exact hT)) ?_
      refine t_We (e_noSk0 (by rw [r9]; exact hT) (by rw [r9]; exact c1)) (t_pos (by decide) ?_)
      refine t_let ?_
      have x9 : jst (mA (jst M3 166 0 0)) 166 31 0 169 = M 169 := by rw [pst_f (by decide)]; exact r9
      have x0 : jst (mA (jst M3 166 0 0)) 166 31 0 170 = M 170 := by rw [pst_f (by decide)]; exact r0
      have hsm : pSm (P0 M) (jst (mA (jst M3 166 0 0)) 166 31 0 166) := fun j q0 q1 => by rw [pst_i (by omega), r6]
      have ht := e_text (M := jst (mA (jst M3 166 0 0)) 166 31 0) (P := P0 M) (s := a1) ⟨pst_s _ _ _ _, fun i hi => absurd hi (Nat.not_lt_zero _)⟩ hsm hcP.1 (by rw [x9]; exact hT) (by rw [x0]; exact hN) (by rw [x9]; exact hcP.2.1) (by rw [x9]; exact hR) (by rw [x9]; exact c1) (fun x q0 q1 => by rw [x9]; exact rNm_b hE.2.2.2.2.2.2.1 c1 ⟨q0, q1⟩) (fun k i q0 q1 q2 q3 x q4 q5 => by
        rw [x9] at q1 q3 ⊢
        have tt := hT.2.2.2.2.2.2.1 a1 hs6.1 hs6.2
        have hbl := hC.2.2.2.1 a1 k c1.1 c1.2 q0 q1
        have hmb := q_many_b hT hs6 (k := k) (by omega)
        have heb := q_el_b hT hs6 (k := k) (i := i) (by omega) (by omega)
        exact rNm_b hE.2.2.2.2.2.1 ⟨heb.1, hbl.2 i q2 q3⟩ ⟨q4, q5⟩)
      rw [x9, x0] at ht
      refine t_mono ht (fun q hq => ?_)
      obtain ⟨y1, y2, y3⟩ := hq
      refine ⟨y1, y2, ?_, ?_, fun a z0 z1 z2 => ?_, fun j z0 z1 z2 => ?_⟩
      · rw [y3.2 0 (by decide), pst_i (by decide)]
        exact mA_0 M3
      · exact k_bP (fun j q0 q1 => by rw [y3.2 j (by omega)]; exact hsm j q0 q1) hcP.1
      · rw [y3.1 a z0 z1 z2, pst_f z0, mA_f z0, pst_f z0]
      · rw [y3.2 j z2, pst_i z2, mA_j z1, pst_i z0]
    refine t_W (t_mono href (fun q hq => ?_))
    obtain ⟨y1, y2, y3, y4, y5, y6⟩ := hq
    have hInv : Inv q.2 := by
      refine Inv_Z hI (fun a x0 x1 x2 x3 x4 x5 x6 x7 => ?_) (fun j x0 x1 x2 => ?_) y4 ?_
      · rw [y5 a x5 x6 x7.1]
        exact cM3 a x0 x1 x2 x3 x4 x7.2
      · rw [y6 j x0 x1 x2, m6]
      · have z164 : q.2 164 = M3 164 := y5 164 (by decide) (by decide) (by decide)
        have z165 : q.2 165 = M3 165 := y5 165 (by decide) (by decide) (by decide)
        unfold iW
        rw [z164, z165, y2.1, p3.1]
        refine ⟨rfl, by omega, by omega, fun i i0 i1 => ?_⟩
        obtain ⟨n, rfl⟩ := Int.eq_ofNat_of_zero_le i0
        have g1 := p3.2 n (by omega)
        have g2 := y2.2 n (by omega)
        rw [g1.1, g2.1]
        exact ⟨rfl, g1.2⟩
    refine t_Re rfl ?_
    rw [y3]
    refine t_ck rfl ?_
    refine t_pos (by decide) ?_
    refine t_ck ?_ (t_some hInv)
    rw [y5 180 (by decide) (by decide) (by decide), pw_of (z := 0) (by omega) (by omega), v180, y1, pw_of (z := ((txtL (P0 M) (M 169) (M 170) a1).length : Int)) (by omega) (by omega), pcmp_of (by omega) (by omega), if_neg (by omega), if_pos rfl]
    decide
  · refine stQ hI (code := 1) (val := 0) (by omega) (fun h => by omega) ?_ (fun M3 h8 => ?_)
    · unfold w_write f_X9_write
      rw [c_wSk1 hC rfl j1 c1, eR, if_neg (by decide), eT3, if_neg (by decide), if_pos rfl]
      exact wQ1 (by decide) (fr8_r M)
    · obtain ⟨r6, r9, r0⟩ := ref_A h8
      obtain ⟨b9, b0, b6⟩ := ref_B hP h8
      unfold f_X10_write
      refine t_let ?_
      refine t_Ve (e_all (by rw [b9]; exact hT)) ?_
      refine t_We (e_noSk1 (by rw [r9]; exact hT) (jin_b j1) (by rw [r9]; exact c1)) (t_neg (by decide) ?_)
      exact rQt (by decide) (frX_0A M3) (by rw [r6]; exact hcP.1)
