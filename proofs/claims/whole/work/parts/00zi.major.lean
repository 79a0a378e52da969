/-! ===== majorities of the program ===== -/
theorem c_bk {e : Int} {M : jM} {T N : Int → Int} {pl : Int → Int → Int} {s p : Int} (hC : cE e M T N) (h110 : M 110 0 = e) (hpl : ∀ j, 0 ≤ j → j < T 2 → M 113 (s * 9 + j) = pl s j) (hb : ∀ j, 0 ≤ j → j < T 2 → 0 ≤ pl s j ∧ pl s j < 6) (hs : 0 ≤ s ∧ s < 6) (hp : 0 ≤ p ∧ p ≤ 1000) : f_X7_backersFor s p M = some (q_bk pl (T 2) s p) := by
  have t2 := hC.2.1.2.2.1
  apply t_get
  unfold f_X7_backersFor
  refine t_lp2 (fun n j => 0 ≤ j ∧ j ≤ T 2 ∧ n = sZ (fun j => b2 (pl s j ≤ p)) j) (fun _ j => (T 2 - j).toNat) ?_ jfuel 0 0 (by rw [jfuel_eq]; omega) ⟨by omega, by omega, rfl⟩
  rintro self n j ⟨hj1, hj2, hn⟩ hself
  rw [h110, hC.2.2.2.2.1, pw_of (z := T 2) (by omega) (by omega), pw_of (z := j) (by omega) (by omega)]
  refine t_ck (kd_e hC.1) ?_
  refine t_if (fun hc => ?_) (fun hc => ?_)
  · refine t_some ?_
    rw [hn, show j = T 2 from by omega]
    rfl
  · have hsz := sZ_s (f := fun j => b2 (pl s j ≤ p)) hj1
    have hbj := hb j hj1 (by omega)
    rw [pw_of (z := s * 9 + j) (by omega) (by omega), hpl j hj1 (by omega), pw_of (z := p) (by omega) (by omega), pw_of (z := pl s j) (by omega) (by omega)]
    refine t_ck (by omega) ?_
    refine t_if (fun c => ?_) (fun c => ?_)
    · refine t_let ?_
      refine hself _ _ ⟨by omega, by omega, ?_⟩ (by omega)
      rw [hsz, hn, b2_f (by omega)]
      omega
    · refine t_let ?_
      refine t_let ?_
      refine hself _ _ ⟨by omega, by omega, ?_⟩ (by omega)
      rw [hsz, hn, b2_t (by omega)]
theorem c_findM {e : Int} {M : jM} {T N : Int → Int} {pl : Int → Int → Int} {s : Int} (hC : cE e M T N) (h110 : M 110 0 = e) (hpl : ∀ j, 0 ≤ j → j < T 2 → M 113 (s * 9 + j) = pl s j) (hb : ∀ j, 0 ≤ j → j < T 2 → 0 ≤ pl s j ∧ pl s j < T 1) (hs : 0 ≤ s ∧ s < T 1) :
    jT (f_X7_findMajority s M) (fun M' => (∀ a, a ≠ 114 → a ≠ 115 → a ≠ 116 → M' a = M a) ∧ (M' 114 s = q_mj pl (T 2) (T 1) s ∧ M' 115 s = q_bk pl (T 2) s (q_mj pl (T 2) (T 1) s) ∧ M' 116 s = q_sm pl (T 2) s) ∧ ∀ o, o ≠ s → M' 114 o = M 114 o ∧ M' 115 o = M 115 o ∧ M' 116 o = M 116 o) := by
  have t1 := hC.2.1.2.1
  have t2 := hC.2.1.2.2.1
  have he := hC.1
  have hmj := q_mj_in (pl := pl) (J := T 2) (n := T 1) (s := s) (by omega) (by omega) hb
  unfold f_X7_findMajority
  rw [pw_of (z := s) (by omega) (by omega)]
  refine t_ck (by omega) ?_
  refine t_let ?_
  refine t_lp2 (fun j M4 => 0 ≤ j ∧ j ≤ T 2 ∧ (∀ a, a ≠ 116 → M4 a = M a) ∧ M4 116 s = sZ (pl s) j ∧ ∀ o, o ≠ s → M4 116 o = M 116 o) (fun j _ => (T 2 - j).toNat) ?_ jfuel 0 _ (by rw [jfuel_eq]; omega) ⟨by omega, by omega, fun a ha => by rw [pst_f ha], pst_s _ _ _ _, fun o ho => pst_i ho⟩
  rintro self j M4 ⟨hj1, hj2, hfr, h116, ho⟩ hself
  have fr4 : fr7 e M M4 := fun a q0 q1 => hfr a (by omega)
  have hC4 := cE_fr hC fr4
  have h4 : M4 110 0 = e := by rw [hfr 110 (by decide)]; exact h110
  rw [h4, hC4.2.2.2.2.1, pw_of (z := T 2) (by omega) (by omega), pw_of (z := j) (by omega) (by omega)]
  refine t_ck (kd_e he) ?_
  refine t_if (fun hc => ?_) (fun hc => ?_)
  · have ej : j = T 2 := by omega
    subst ej
    refine t_lp1 (fun p => 0 ≤ p ∧ p < T 1 ∧ q_first (fun p => b2 (T 2 < 2 * q_bk pl (T 2) s p)) (T 1 - p).toNat p = q_mj pl (T 2) (T 1) s) (fun p => (T 1 - p).toNat) ?_ jfuel 0 (by rw [jfuel_eq]; omega) ⟨by omega, by omega, by rw [Int.sub_zero]; rfl⟩
    rintro self2 p ⟨hp1, hp2, hq⟩ hself2
    refine t_Re (c_skaters hC4 h4) ?_
    rw [pw_of (z := T 1) (by omega) (by omega), pw_of (z := p) (by omega) (by omega)]
    refine t_neg (by omega) ?_
    refine t_Re (c_bk (pl := pl) hC4 h4 (fun j q0 q1 => by rw [hfr 113 (by decide)]; exact hpl j q0 q1) (fun j q0 q1 => by have := hb j q0 q1; omega) (by omega) (by omega)) ?_
    have hbb := q_bk_b (pl := pl) (J := T 2) (s := s) (p := p) (by omega)
    rw [pw_of (z := 2 * q_bk pl (T 2) s p) (by omega) (by omega)]
    rw [show (T 1 - p).toNat = (T 1 - (p + 1)).toNat + 1 from by omega] at hq
    unfold q_first at hq
    refine t_if (fun c => ?_) (fun c => ?_)
    · rw [b2_f (by omega), if_pos rfl] at hq
      refine t_let ?_
      refine hself2 _ ⟨by omega, ?_, hq⟩ (by omega)
      have : p ≠ T 1 - 1 := fun q => by
        have h1 := q_bk_all (pl := pl) (J := T 2) (n := T 1) (s := s) (by omega) hb
        rw [← q] at h1
        omega
      omega
    · rw [b2_t (by omega), if_neg (by decide)] at hq
      refine t_ck (by omega) ?_
      refine t_let ?_
      refine t_ck (by omega) ?_
      refine t_let ?_
      refine t_some ⟨fun a q0 q1 q2 => by rw [pst_f q1, pst_f q0]; exact hfr a q2, ⟨?_, ?_, ?_⟩, fun o hos => ⟨?_, ?_, ?_⟩⟩
      · rw [pst_c (by decide), pst_s]; exact hq
      · rw [pst_s, hq]
      · rw [pst_c (by decide), pst_c (by decide), h116]; rfl
      · rw [pst_c (by decide), pst_i hos, hfr 114 (by decide)]
      · rw [pst_i hos, pst_c (by decide), hfr 115 (by decide)]
      · rw [pst_c (by decide), pst_c (by decide)]; exact ho o hos
  · refine t_ck (by omega) ?_
    rw [pw_of (z := s * 9 + j) (by omega) (by omega), hfr 113 (by decide), hpl j hj1 (by omega)]
    refine t_ck (by omega) ?_
    refine t_ck (by omega) ?_
    refine t_let ?_
    refine t_let ?_
    refine hself _ _ ⟨by omega, by omega, fun a ha => by rw [pst_f ha]; exact hfr a ha, by rw [pst_s, sZ_s hj1, h116], fun o hos => by rw [pst_i hos]; exact ho o hos⟩ (by omega)
set_option maxHeartbeats 1000000 in
theorem c_majs {e : Int} {M : jM} {P T N : Int → Int} (hC : cE e M T N) (hQ : cQ P T 600 0) (hW : aW e M P T N) :
    jT (f_X7_findMajorities M) (fun M' => fr7 e M M' ∧ M' 110 0 = e ∧ ∀ s, 0 ≤ s → s < T 1 → M' 114 s = q_mj (q_pl P T N) (T 2) (T 1) s ∧ M' 115 s = q_bk (q_pl P T N) (T 2) s (q_mj (q_pl P T N) (T 2) (T 1) s) ∧ M' 116 s = q_sm (q_pl P T N) (T 2) s) := by
  have hT := hC.2.1
  have hN := hC.2.2.1
  have t1 := hT.2.1
  have t2 := hT.2.2.1
  have he := hC.1
  unfold f_X7_findMajorities
  refine t_lp2 (fun j M2 => 0 ≤ j ∧ j ≤ T 2 ∧ fr7 e M M2 ∧ aW e M2 P T N ∧ ∀ s i, 0 ≤ s → s < T 1 → 0 ≤ i → i < j → M2 113 (s * 9 + i) = q_pl P T N s i) (fun j _ => (T 2 - j).toNat) ?_ jfuel 0 M (by rw [jfuel_eq]; omega) ⟨by omega, by omega, fr7_r e M, hW, fun s i _ _ q2 q3 => by omega⟩
  rintro self j M2 ⟨hj1, hj2, hfr, hW2, hpl⟩ hself
  have hC2 := cE_fr hC hfr
  rw [hW2.1, hC2.2.2.2.2.1, pw_of (z := T 2) (by omega) (by omega), pw_of (z := j) (by omega) (by omega)]
  refine t_ck (kd_e he) ?_
  refine t_if (fun hc => ?_) (fun hc => ?_)
  · have ej : j = T 2 := by omega
    subst ej
    refine t_lp2 (fun s M6 => 0 ≤ s ∧ s ≤ T 1 ∧ fr7 e M M6 ∧ M6 110 0 = e ∧ (∀ s' i, 0 ≤ s' → s' < T 1 → 0 ≤ i → i < T 2 → M6 113 (s' * 9 + i) = q_pl P T N s' i) ∧ ∀ o, 0 ≤ o → o < s → M6 114 o = q_mj (q_pl P T N) (T 2) (T 1) o ∧ M6 115 o = q_bk (q_pl P T N) (T 2) o (q_mj (q_pl P T N) (T 2) (T 1) o) ∧ M6 116 o = q_sm (q_pl P T N) (T 2) o) (fun s _ => (T 1 - s).toNat) ?_ jfuel 0 M2 (by rw [jfuel_eq]; omega) ⟨by omega, by omega, hfr, hW2.1, hpl, fun o q0 q1 => by omega⟩
    rintro self2 s M6 ⟨hs1, hs2, hfr6, h6, hpl6, hdone⟩ hself2
    have hC6 := cE_fr hC hfr6
    refine t_Re (c_skaters hC6 h6) ?_
    rw [pw_of (z := T 1) (by omega) (by omega), pw_of (z := s) (by omega) (by omega)]
    refine t_if (fun hc2 => ?_) (fun hc2 => ?_)
    · have es : s = T 1 := by omega
      subst es
      exact t_some ⟨hfr6, h6, hdone⟩
    · refine t_V (t_mono (c_findM (pl := q_pl P T N) hC6 h6 (fun i q0 q1 => hpl6 s i hs1 (by omega) q0 q1) (fun i q0 q1 => q_pl_b (by omega)) (by omega)) (fun M7 h7 => ?_))
      obtain ⟨u1, u2, u3⟩ := h7
      refine t_let ?_
      refine hself2 _ _ ⟨by omega, by omega, fr7_t hfr6 (fun a q0 q1 => u1 a (by omega) (by omega) (by omega)), by rw [u1 110 (by decide) (by decide) (by decide)]; exact h6, fun s' i q0 q1 q2 q3 => by rw [u1 113 (by decide) (by decide) (by decide)]; exact hpl6 s' i q0 q1 q2 q3, fun o q0 q1 => ?_⟩ (by omega)
      by_cases co : o = s
      · subst co; exact u2
      · obtain ⟨v1, v2, v3⟩ := u3 o co
        rw [v1, v2, v3]
        exact hdone o q0 (by omega)
  · obtain ⟨p1, p2, p3⟩ := pan_one hT (j := j) (by omega)
    have hv := cP_of hT hQ p2 (j := j) (by omega) p3
    rw [p1]
    have hj := c_judgeAll hC2 hv (by rw [pS_n (by decide)]; exact hQ.2.2.2.2.1) ⟨hW2.1, fun o h0 h1 => wT_congr pS_eq (hW2.2 o h0 h1)⟩
    rw [pS_s] at hj
    refine t_V (t_mono hj (fun M4 h4 => ?_))
    obtain ⟨u1, u2, u3⟩ := h4
    have pSb : pEq (pS P 15 ((2 ^ j.toNat : Nat) : Int)) P := ⟨pS_n (by decide), pS_n (by decide), pS_n (by decide), pS_n (by decide)⟩
    refine t_lp2 (fun s M5 => 0 ≤ s ∧ s ≤ T 1 ∧ (∀ a, a ≠ 113 → M5 a = M4 a) ∧ (∀ s' i, 0 ≤ s' → s' < T 1 → 0 ≤ i → i < j → M5 113 (s' * 9 + i) = q_pl P T N s' i) ∧ ∀ s', 0 ≤ s' → s' < s → M5 113 (s' * 9 + j) = q_pl P T N s' j) (fun s _ => (T 1 - s).toNat) ?_ jfuel 0 M4 (by rw [jfuel_eq]; omega) ⟨by omega, by omega, fun _ _ => rfl, fun s' i q0 q1 q2 q3 => by rw [u1 113 (by decide)]; exact hpl s' i q0 q1 q2 q3, fun s' q0 q1 => by omega⟩
    rintro self2 s M5 ⟨hs1, hs2, hfr5, hold, hnew⟩ hself2
    have fr5 : fr7 e M M5 := fr7_t hfr (fr7_t (fun a q0 q1 => u1 a (by omega)) (fun a q0 q1 => hfr5 a (by omega)))
    have hC5 := cE_fr hC fr5
    have h5 : M5 110 0 = e := by rw [hfr5 110 (by decide)]; exact u2.1
    refine t_Re (c_skaters hC5 h5) ?_
    rw [pw_of (z := T 1) (by omega) (by omega), pw_of (z := s) (by omega) (by omega)]
    refine t_if (fun hc2 => ?_) (fun hc2 => ?_)
    · refine t_let ?_
      refine hself _ _ ⟨by omega, by omega, fr5, ⟨h5, fun o h0 h1 => wT_keep (wT_congr pSb (u2.2 o h0 h1)) (fun a q0 q1 => hfr5 a (by omega))⟩, fun s' i q0 q1 q2 q3 => ?_⟩ (by omega)
      by_cases ci : i = j
      · subst ci; exact hnew s' q0 (by omega)
      · exact hold s' i q0 q1 q2 (by omega)
    · refine t_Re (c_rank hC5 hv h5 (fun o h0 h1 => jgd_keep (u3 o h0 h1) (hfr5 _ (by omega))) (by omega)) ?_
      rw [pw_of (z := s * 9 + j) (by omega) (by omega)]
      refine t_ck (by omega) ?_
      refine t_let ?_
      refine t_let ?_
      refine hself2 _ _ ⟨by omega, by omega, fun a ha => by rw [pst_f ha]; exact hfr5 a ha, fun s' i q0 q1 q2 q3 => by rw [pst_i (by omega)]; exact hold s' i q0 q1 q2 q3, fun s' q0 q1 => ?_⟩ (by omega)
      by_cases cs : s' = s
      · subst cs; rw [pst_s]; rfl
      · rw [pst_i (by omega)]; exact hnew s' q0 (by omega)
/-- majority -/
theorem z_28 {M : jM} (hI : Inv M) {a1 : Int} (j1 : jin a1) : jT (s_28 a1 M) Inv := by
  obtain ⟨hC, hT, hN, hP, hR, hQ, hcP⟩ := inv_ctx hI
  have t0 := hT.1
  have t1 := hT.2.1
  have t2 := hT.2.2.1
  have t3 := hT.2.2.2.1
  unfold s_28
  by_cases c1 : 0 ≤ a1 ∧ a1 < M 169 1
  · have hmb := q_mj_in (pl := q_pl (P0 M) (M 169) (M 170)) (J := M 169 2) (n := M 169 1) (s := a1) (by omega) (by omega) (fun j q0 q1 => q_pl_b c1)
    refine stQ hI (code := 0) (val := q_mj (q_pl (P0 M) (M 169) (M 170)) (M 169 2) (M 169 1) a1) (by omega) (fun _ => by omega) ?_ (fun M3 h8 => ?_)
    · unfold w_majority f_X9_majority
      obtain ⟨M4, e4, u1, u2, u3⟩ := c_weighAll hC hQ
      obtain ⟨M5, e5, x1, x2, x3⟩ := c_majs (cE_fr hC u1) hQ u2
      rw [c_wSk0 hC rfl c1, eR, if_pos rfl, eC (kd_e hC.1), e4, eV, e5, eV, pw_of (z := a1) (by omega) (by omega), eC (by omega), eT3, if_pos rfl]
      exact wQ0 (x3 a1 c1.1 c1.2).1 (by omega) (fr8_7 hC.1 (fr7_t u1 x1))
    · obtain ⟨r6, r9, r0⟩ := ref_A h8
      obtain ⟨b9, b0, b6⟩ := ref_B hP h8
      unfold f_X10_majority
      refine t_let ?_
      refine t_We (e_noSk0 (by rw [b9]; exact hT) (by rw [b9]; exact c1)) (t_pos (by decide) ?_)
      refine t_V (t_mono (e_places r6 b9 b0 hT hN hR hQ) (fun M6 h6 => ?_))
      obtain ⟨g1, g2, g3, g4, g5, g6⟩ := h6
      refine t_Re (e_mj (pl := q_pl (P0 M) (M 169) (M 170)) (by rw [g4]; exact hT) (fun j q0 q1 => by rw [g4] at q1; exact g6 a1 j c1.1 c1.2 q0 q1) (fun j q0 q1 => by rw [g4]; exact q_pl_b c1) (by rw [g4]; exact c1)) ?_
      exact rQ (by rw [g2, pst_s]) (fun _ => by rw [g4]) (frX_t (frX_0 M3 0) g1) g3
  · refine stQ hI (code := 1) (val := 0) (by omega) (fun h => by omega) ?_ (fun M3 h8 => ?_)
    · unfold w_majority f_X9_majority
      rw [c_wSk1 hC rfl j1 c1, eR, if_neg (by decide), eT3, if_neg (by decide), if_pos rfl]
      exact wQ1 (by decide) (fr8_r M)
    · obtain ⟨r6, r9, r0⟩ := ref_A h8
      obtain ⟨b9, b0, b6⟩ := ref_B hP h8
      unfold f_X10_majority
      refine t_let ?_
      refine t_We (e_noSk1 (by rw [b9]; exact hT) (jin_b j1) (by rw [b9]; exact c1)) (t_neg (by decide) ?_)
      exact rQt (by decide) (frX_0 M3 0) b6
theorem c_mah {M : jM} {mj bk sm : Int → Int} {n a b : Int} (hn : n ≤ 6) (h : ∀ s, 0 ≤ s → s < n → M 114 s = mj s ∧ M 115 s = bk s ∧ M 116 s = sm s) (hb : ∀ s, 0 ≤ s → s < n → (0 ≤ mj s ∧ mj s ≤ 1000) ∧ (0 ≤ bk s ∧ bk s ≤ 1000) ∧ (0 ≤ sm s ∧ sm s ≤ 1000)) (ha : 0 ≤ a ∧ a < n) (hbb : 0 ≤ b ∧ b < n) : f_X7_isAheadByMajorities a b M = some (q_mah mj bk sm a b) := by
  obtain ⟨a1, a2, a3⟩ := h a ha.1 ha.2
  obtain ⟨b1, b2_, b3⟩ := h b hbb.1 hbb.2
  obtain ⟨c1, c2, c3⟩ := hb a ha.1 ha.2
  obtain ⟨d1, d2, d3⟩ := hb b hbb.1 hbb.2
  unfold f_X7_isAheadByMajorities q_mah
  rw [pw_of (z := a) (by omega) (by omega), pw_of (z := b) (by omega) (by omega), a1, a2, a3, b1, b2_, b3, pw_of (z := mj a) (by omega) (by omega), pw_of (z := mj b) (by omega) (by omega), pw_of (z := bk a) (by omega) (by omega), pw_of (z := bk b) (by omega) (by omega), pw_of (z := sm a) (by omega) (by omega), pw_of (z := sm b) (by omega) (by omega)]
  repeat rw [eC (by omega)]
  by_cases x1 : mj a = mj b
  · rw [if_pos x1]
    by_cases x2 : bk a = bk b
    · rw [if_pos x2]
      by_cases x3 : sm a = sm b
      · rw [if_pos x3]
        by_cases x4 : b ≤ a
        · rw [if_pos x4, b2_f (by omega)]
        · rw [if_neg x4, b2_t (by omega)]
      · rw [if_neg x3]
        by_cases x4 : sm b ≤ sm a
        · rw [if_pos x4, b2_f (by omega)]
        · rw [if_neg x4, b2_t (by omega)]
    · rw [if_neg x2]
      by_cases x4 : bk a ≤ bk b
      · rw [if_pos x4, b2_f (by omega)]
      · rw [if_neg x4, b2_t (by omega)]
  · rw [if_neg x1]
    by_cases x4 : mj b ≤ mj a
    · rw [if_pos x4, b2_f (by omega)]
    · rw [if_neg x4, b2_t (by omega)]
/-- the k-th by majorities -/
def q_mat (f : Int → Int → Int) (n k : Int) : Int := q_first (fun s => b2 (sZ (fun o => if o = s then 0 else f o s) n = k)) n.toNat 0
/-- major -/
theorem z_29 {M : jM} (hI : Inv M) {a1 : Int} (j1 : jin a1) : jT (s_29 a1 M) Inv := by
  obtain ⟨hC, hT, hN, hP, hR, hQ, hcP⟩ := inv_ctx hI
  have t0 := hT.1
  have t1 := hT.2.1
  have t2 := hT.2.2.1
  have t3 := hT.2.2.2.1
  have hb1 := jin_b j1
  unfold s_29
  have hplb : ∀ s j, 0 ≤ s → s < M 169 1 → 0 ≤ j → j < M 169 2 → 0 ≤ q_pl (P0 M) (M 169) (M 170) s j ∧ q_pl (P0 M) (M 169) (M 170) s j < M 169 1 := fun s j q0 q1 _ _ => q_pl_b ⟨q0, q1⟩
  generalize hf : q_mah (q_mj (q_pl (P0 M) (M 169) (M 170)) (M 169 2) (M 169 1)) (fun s => q_bk (q_pl (P0 M) (M 169) (M 170)) (M 169 2) s (q_mj (q_pl (P0 M) (M 169) (M 170)) (M 169 2) (M 169 1) s)) (q_sm (q_pl (P0 M) (M 169) (M 170)) (M 169 2)) = f
  have hfb : ∀ a b, f a b = 0 ∨ f a b = 1 := fun a b => by rw [← hf]; exact q_mah_b _ _ _ a b
  have hsb : ∀ s k : Int, 0 ≤ k → k ≤ M 169 1 → 0 ≤ sZ (fun o => if o = s then 0 else f o s) k ∧ sZ (fun o => if o = s then 0 else f o s) k ≤ 6 := fun s k h0 h1 => by
    have := sZ_b (f := fun o => if o = s then 0 else f o s) (lo := 0) (hi := 1) h0 (fun o _ _ => by rcases hfb o s with q | q <;> split <;> omega)
    omega
  refine stW hI (val := q_mat f (M 169 1) a1) ?_ (fun M3 h8 => ?_)
  · unfold f_X9_major
    rw [eC (kd_e hC.1)]
    obtain ⟨M4, e4, u1, u2, u3⟩ := c_weighAll hC hQ
    obtain ⟨M5, e5, x1, x2, x3⟩ := c_majs (cE_fr hC u1) hQ u2
    have fr5 := fr7_t u1 x1
    have hC5 := cE_fr hC fr5
    have hah : ∀ a b, 0 ≤ a ∧ a < M 169 1 → 0 ≤ b ∧ b < M 169 1 → f_X7_isAheadByMajorities a b M5 = some (f a b) := fun a b ha hb => by
      rw [← hf]
      exact c_mah t1.2 x3 (fun s q0 q1 => ⟨by have := q_mj_in (pl := q_pl (P0 M) (M 169) (M 170)) (J := M 169 2) (n := M 169 1) (s := s) (by omega) (by omega) (fun j q2 q3 => hplb s j q0 q1 q2 q3); omega, by have := q_bk_b (pl := q_pl (P0 M) (M 169) (M 170)) (J := M 169 2) (s := s) (p := q_mj (q_pl (P0 M) (M 169) (M 170)) (M 169 2) (M 169 1) s) (by omega); omega, by have := q_sm_b (pl := q_pl (P0 M) (M 169) (M 170)) (J := M 169 2) (n := M 169 1) (s := s) (by omega) (by omega) (fun j q2 q3 => hplb s j q0 q1 q2 q3); omega⟩) ha hb
    have hbm : f_X7_skaterByMajorities a1 M5 = some (q_mat f (M 169 1) a1) := by
      apply t_get
      unfold f_X7_skaterByMajorities
      refine t_lp1 (fun s => 0 ≤ s ∧ s ≤ M 169 1 ∧ q_first (fun s => b2 (sZ (fun o => if o = s then 0 else f o s) (M 169 1) = a1)) (M 169 1 - s).toNat s = q_mat f (M 169 1) a1) (fun s => (M 169 1 - s).toNat) ?_ jfuel 0 (by rw [jfuel_eq]; omega) ⟨by omega, by omega, by rw [Int.sub_zero]; rfl⟩
      rintro self s ⟨hs1, hs2, hq⟩ hself
      refine t_Re (c_skaters hC5 x2) ?_
      rw [pw_of (z := M 169 1) (by omega) (by omega), pw_of (z := s) (by omega) (by omega)]
      refine t_if (fun hc => ?_) (fun hc => ?_)
      · rw [show (M 169 1 - s).toNat = 0 from by omega] at hq
        exact t_some hq
      · rw [show (M 169 1 - s).toNat = (M 169 1 - (s + 1)).toNat + 1 from by omega] at hq
        unfold q_first at hq
        refine t_lp2 (fun n o => 0 ≤ o ∧ o ≤ M 169 1 ∧ n = sZ (fun o => if o = s then 0 else f o s) o) (fun _ o => (M 169 1 - o).toNat) ?_ jfuel 0 0 (by rw [jfuel_eq]; omega) ⟨by omega, by omega, rfl⟩
        rintro self2 n o ⟨ho1, ho2, hn⟩ hself2
        have hnb := hsb s o ho1 ho2
        rw [← hn] at hnb
        refine t_Re (c_skaters hC5 x2) ?_
        rw [pw_of (z := M 169 1) (by omega) (by omega), pw_of (z := o) (by omega) (by omega)]
        refine t_if (fun hc2 => ?_) (fun hc2 => ?_)
        · have eo : o = M 169 1 := by omega
          subst eo
          rw [pw_of (z := n) (by omega) (by omega), pw_of hb1.1 hb1.2]
          refine t_if (fun c3 => ?_) (fun c3 => ?_)
          · rw [b2_t (by rw [← hn]; exact c3), if_neg (by decide)] at hq
            exact t_some hq
          · rw [b2_f (by rw [← hn]; exact c3), if_pos rfl] at hq
            refine t_let ?_
            exact hself _ ⟨by omega, by omega, hq⟩ (by omega)
        · have hsz := sZ_s (f := fun o => if o = s then 0 else f o s) ho1
          refine t_if (fun c3 => ?_) (fun c3 => ?_)
          · refine t_let ?_
            refine hself2 _ _ ⟨by omega, by omega, ?_⟩ (by omega)
            rw [hsz, if_pos c3, hn, Int.add_zero]
          · refine t_Re (hah o s (by omega) (by omega)) ?_
            rcases hfb o s with q | q
            · rw [q]
              refine t_pos (by decide) ?_
              refine t_let ?_
              refine hself2 _ _ ⟨by omega, by omega, ?_⟩ (by omega)
              rw [hsz, if_neg c3, hn, q, Int.add_zero]
            · rw [q]
              refine t_neg (by decide) ?_
              refine t_let ?_
              refine t_let ?_
              refine hself2 _ _ ⟨by omega, by omega, ?_⟩ (by omega)
              rw [hsz, if_neg c3, hn, q]
    rw [e4, eV, e5, eV, hbm, eR]
    exact t_some ⟨rfl, fr8_7 hC.1 fr5⟩
  · obtain ⟨r6, r9, r0⟩ := ref_A h8
    obtain ⟨b9, b0, b6⟩ := ref_B hP h8
    unfold f_X10_major
    refine t_let ?_
    refine t_V (t_mono (e_places r6 b9 b0 hT hN hR hQ) (fun M6 h6 => ?_))
    obtain ⟨g1, g2, g3, g4, g5, g6⟩ := h6
    have hah : ∀ a b, 0 ≤ a ∧ a < M 169 1 → 0 ≤ b ∧ b < M 169 1 → f_X10_isMajor a b M6 = some (f a b) := fun a b ha hb => by
      rw [← hf]
      have := e_isMj (M := M6) (pl := q_pl (P0 M) (M 169) (M 170)) (a := a) (b := b) (by rw [g4]; exact hT) (fun s j q0 q1 q2 q3 => by rw [g4] at q1 q3; exact g6 s j q0 q1 q2 q3) (fun s j q0 q1 q2 q3 => by rw [g4] at q1 q3 ⊢; exact hplb s j q0 q1 q2 q3) (by rw [g4]; exact ha) (by rw [g4]; exact hb)
      rw [g4] at this
      exact this
    refine t_lp1 (fun s => 0 ≤ s ∧ s ≤ M 169 1 ∧ q_first (fun s => b2 (sZ (fun o => if o = s then 0 else f o s) (M 169 1) = a1)) (M 169 1 - s).toNat s = q_mat f (M 169 1) a1) (fun s => (M 169 1 - s).toNat) ?_ jfuel 0 (by rw [jfuel_eq]; omega) ⟨by omega, by omega, by rw [Int.sub_zero]; rfl⟩
    rintro self s ⟨hs1, hs2, hq⟩ hself
    have fin : frX M3 M6 := frX_t (frX_0 M3 0) g1
    rw [g4, pw_of (z := 1) (by omega) (by omega), pw_of (z := M 169 1) (by omega) (by omega), pw_of (z := s) (by omega) (by omega)]
    refine t_ck (by omega) ?_
    refine t_if (fun hc => ?_) (fun hc => ?_)
    · rw [show (M 169 1 - s).toNat = 0 from by omega] at hq
      exact t_some ⟨hq, fin, g3⟩
    · rw [show (M 169 1 - s).toNat = (M 169 1 - (s + 1)).toNat + 1 from by omega] at hq
      unfold q_first at hq
      refine t_lp2 (fun n o => 0 ≤ o ∧ o ≤ M 169 1 ∧ n = sZ (fun o => if o = s then 0 else f o s) o) (fun _ o => (M 169 1 - o).toNat) ?_ jfuel 0 0 (by rw [jfuel_eq]; omega) ⟨by omega, by omega, rfl⟩
      rintro self2 n o ⟨ho1, ho2, hn⟩ hself2
      have hnb := hsb s o ho1 ho2
      rw [← hn] at hnb
      rw [pw_of (z := o) (by omega) (by omega)]
      refine t_ck (by omega) ?_
      refine t_if (fun hc2 => ?_) (fun hc2 => ?_)
      · have eo : o = M 169 1 := by omega
        subst eo
        rw [pw_of (z := n) (by omega) (by omega), pw_of hb1.1 hb1.2]
        refine t_if (fun c3 => ?_) (fun c3 => ?_)
        · rw [b2_t (by rw [← hn]; exact c3), if_neg (by decide)] at hq
          exact t_some ⟨hq, fin, g3⟩
        · rw [b2_f (by rw [← hn]; exact c3), if_pos rfl] at hq
          refine t_let ?_
          exact hself _ ⟨by omega, by omega, hq⟩ (by omega)
      · have hsz := sZ_s (f := fun o => if o = s then 0 else f o s) ho1
        refine t_k ?_
        refine t_k ?_
        refine t_if (fun c3 => ?_) (fun c3 => ?_)
        · refine t_let ?_
          refine t_let ?_
          refine hself2 _ _ ⟨by omega, by omega, ?_⟩ (by omega)
          rw [hsz, if_pos c3, hn]
        · refine t_Re (hah o s (by omega) (by omega)) ?_
          rcases hfb o s with q | q
          · rw [q]
            refine t_pos (by decide) ?_
            refine t_let ?_
            refine t_let ?_
            refine hself2 _ _ ⟨by omega, by omega, ?_⟩ (by omega)
            rw [hsz, if_neg c3, hn, q]
          · rw [q]
            refine t_neg (by decide) ?_
            refine t_let ?_
            refine t_let ?_
            refine hself2 _ _ ⟨by omega, by omega, ?_⟩ (by omega)
            rw [hsz, if_neg c3, hn, q]
