/-! ===== places, majorities ===== -/
theorem pS_pS (P : Int → Int) (i v w : Int) : pS (pS P i v) i w = pS P i w := by
  funext j
  unfold pS
  by_cases c : j = i
  · rw [if_pos c, if_pos c]
  · rw [if_neg c, if_neg c, if_neg c]
theorem pS_self (P : Int → Int) (i : Int) : pS P i (P i) = P := by
  funext j
  unfold pS
  by_cases c : j = i
  · rw [if_pos c, c]
  · rw [if_neg c]
def q_pl (P T N : Int → Int) (s j : Int) : Int := q_rank (q_total (pS P 15 ((2 ^ j.toNat : Nat) : Int)) T N) (q_points (pS P 15 ((2 ^ j.toNat : Nat) : Int)) T N) (T 1) s
theorem q_rank_lt {tot pts : Int → Int} {n s : Int} (hs : 0 ≤ s ∧ s < n) : q_rank tot pts n s < n := by
  rw [rank_sum]
  have h1 := sS_lt (f := fun o => q_ahead tot pts o s) (g := fun _ => 1) (n := n.toNat) (j := s) (fun i _ _ => by
    rcases q_ahead_b tot pts i s with q | q <;> omega) hs.1 (by omega) (by rw [ah_irr]; decide)
  have h2 := sS_b (f := fun _ => (1 : Int)) (lo := 1) (hi := 1) (n := n.toNat) (fun _ _ _ => by omega)
  unfold sZ
  omega
theorem q_pl_b {P T N : Int → Int} {s j : Int} (hs : 0 ≤ s ∧ s < T 1) : 0 ≤ q_pl P T N s j ∧ q_pl P T N s j < T 1 := ⟨(q_rank_b (by omega)).1, q_rank_lt hs⟩
set_option maxHeartbeats 1000000 in
theorem e_places {M1 : jM} {P T N : Int → Int} (hA : mA M1 166 = P) (h9 : M1 169 = T) (h0 : M1 170 = N) (hT : bT T) (hN : bN N) (hR : bR T) (hQ : cQ P T 600 0) :
    jT (f_X10_laysPlaces M1) (fun M' => frX M1 M' ∧ M' 166 0 = M1 166 0 ∧ bP (M' 166) ∧ M' 169 = T ∧ M' 170 = N ∧ ∀ s j, 0 ≤ s → s < T 1 → 0 ≤ j → j < T 2 → M' 177 (9 * s + j) = q_pl P T N s j) := by
  have t1 := hT.2.1
  have t2 := hT.2.2.1
  have p0 := hQ.1.1
  unfold f_X10_laysPlaces
  refine t_Ve (e_all (by rw [h9]; exact hT)) ?_
  refine t_lp2 (fun j M4 => 0 ≤ j ∧ j ≤ T 2 ∧ frX M1 M4 ∧ M4 166 0 = M1 166 0 ∧ (∃ v, (0 ≤ v ∧ v ≤ 511) ∧ M4 166 = pS P 15 v) ∧ M4 169 = T ∧ M4 170 = N ∧ ∀ s i, 0 ≤ s → s < T 1 → 0 ≤ i → i < j → M4 177 (9 * s + i) = q_pl P T N s i) (fun j _ => (T 2 - j).toNat) ?_ jfuel 0 _ (by rw [jfuel_eq]; omega) ⟨by omega, by omega, frX_A M1, mA_j (by decide), ⟨P 15, p0, by rw [pS_self]; exact hA⟩, by rw [mA_f (by decide)]; exact h9, by rw [mA_f (by decide)]; exact h0, fun s i _ _ q2 q3 => by omega⟩
  rintro self j M4 ⟨hj1, hj2, hx, hx0, ⟨w, hwb, hw⟩, f9, f0, hpl⟩ hself
  rw [f9, pw_of (z := 2) (by omega) (by omega), pw_of (z := T 2) (by omega) (by omega), pw_of (z := j) (by omega) (by omega)]
  refine t_ck (by omega) ?_
  refine t_if (fun hc => ?_) (fun hc => ?_)
  · have ej : j = T 2 := by omega
    subst ej
    exact t_some ⟨hx, hx0, by rw [hw]; exact pS_15 hQ hwb, f9, f0, hpl⟩
  · obtain ⟨p1, p2, p3⟩ := pan_one hT (j := j) (by omega)
    have hv := cP_of hT hQ p2 (j := j) (by omega) p3
    refine t_let ?_
    rw [p1]
    have h512 : 2 ^ j.toNat ≤ 2 ^ 8 := Nat.pow_le_pow_right (by decide) (by omega)
    refine t_V (t_mono (ref_lays (P := pS P 15 ((2 ^ j.toNat : Nat) : Int)) (by rw [pS_jst hw, pS_pS]) (by rw [pst_f (by decide)]; exact f9) (by rw [pst_f (by decide)]; exact f0) hT hN hR hv) (fun M9 h => ?_))
    obtain ⟨g1, g2, g3, g4, g5, g6, g7⟩ := h
    have fr9 : frX M1 M9 := frX_t (frX_j hx (by decide)) (frX_I6 g1)
    refine t_lp2 (fun s M5 => 0 ≤ s ∧ s ≤ T 1 ∧ (∀ a, a ≠ 177 → M5 a = M9 a) ∧ (∀ s' i, 0 ≤ s' → s' < T 1 → 0 ≤ i → i < j → M5 177 (9 * s' + i) = q_pl P T N s' i) ∧ ∀ s', 0 ≤ s' → s' < s → M5 177 (9 * s' + j) = q_pl P T N s' j) (fun s _ => (T 1 - s).toNat) ?_ jfuel 0 M9 (by rw [jfuel_eq]; omega) ⟨by omega, by omega, fun _ _ => rfl, fun s' i q0 q1 q2 q3 => by
      rw [g1 177 (by decide), pst_f (by decide)]; exact hpl s' i q0 q1 q2 q3, fun s' q0 q1 => by omega⟩
    rintro self2 s M5 ⟨hs1, hs2, hfr, hold, hnew⟩ hself2
    have e9 : M5 169 = T := by rw [hfr 169 (by decide)]; exact g3
    have e75 : M5 175 = M9 175 := hfr 175 (by decide)
    have e76 : M5 176 = M9 176 := hfr 176 (by decide)
    rw [e9, pw_of (z := 1) (by omega) (by omega), pw_of (z := T 1) (by omega) (by omega), pw_of (z := s) (by omega) (by omega)]
    refine t_ck (by omega) ?_
    refine t_if (fun hc2 => ?_) (fun hc2 => ?_)
    · refine t_let ?_
      refine hself _ _ ⟨by omega, by omega, frX_t fr9 ⟨fun a q0 q1 => hfr a (by omega), fun i _ _ => by rw [hfr 166 (by decide)]⟩, ?_, ⟨((2 ^ j.toNat : Nat) : Int), by omega, by rw [hfr 166 (by decide)]; exact g2⟩, e9, by rw [hfr 170 (by decide)]; exact g4, fun s' i q0 q1 q2 q3 => ?_⟩ (by omega)
      · rw [hfr 166 (by decide), g1 166 (by decide), pst_i (by decide)]; exact hx0
      · by_cases ci : i = j
        · subst ci; exact hnew s' q0 (by omega)
        · exact hold s' i q0 q1 q2 (by omega)
    · have hbX : bX M5 := by
        unfold bX at g5 ⊢
        rw [e9, e75, e76]
        rw [g3] at g5
        exact g5
      refine t_Re (e_rank (by rw [e9]; exact hT) hbX (by rw [e9]; omega)) ?_
      rw [pw_of (z := 9 * s + j) (by omega) (by omega)]
      refine t_ck (by omega) ?_
      refine t_let ?_
      refine t_let ?_
      refine hself2 _ _ ⟨by omega, by omega, fun a ha => by rw [pst_f ha]; exact hfr a ha, fun s' i q0 q1 q2 q3 => by rw [pst_i (by omega)]; exact hold s' i q0 q1 q2 q3, fun s' q0 q1 => ?_⟩ (by omega)
      by_cases cs : s' = s
      · subst cs
        rw [pst_s, e9, e75, e76]
        exact q_rank_congr (by omega) g6 g7
      · rw [pst_i (by omega)]; exact hnew s' q0 (by omega)
/-- place -/
theorem z_27 {M : jM} (hI : Inv M) {a1 a2 : Int} (j1 : jin a1) (j2 : jin a2) : jT (s_27 a1 a2 M) Inv := by
  obtain ⟨hC, hT, hN, hP, hR, hQ, hcP⟩ := inv_ctx hI
  have t0 := hT.1
  have t1 := hT.2.1
  have t2 := hT.2.2.1
  have t3 := hT.2.2.2.1
  unfold s_27
  by_cases c1 : 0 ≤ a1 ∧ a1 < M 169 1
  · by_cases c2 : 0 ≤ a2 ∧ a2 < M 169 2
    · obtain ⟨p1, p2, p3⟩ := pan_one hT c2
      have hv := cP_of hT hQ p2 c2 p3
      have hpb := q_pl_b (P := P0 M) (N := M 170) (j := a2) c1
      refine stQ hI (code := 0) (val := q_pl (P0 M) (M 169) (M 170) a1 a2) (by omega) (fun _ => by omega) ?_ (fun M3 h8 => ?_)
      · unfold w_place f_X9_place
        obtain ⟨M4, e4, u1, u2, u3⟩ := c_weighAll hC hQ
        have hC4 := cE_fr hC u1
        obtain ⟨M5, e5, x1, x2, x3⟩ := c_judgeAll hC4 hv (by rw [pS_n (by decide)]; exact hQ.2.2.2.2.1) ⟨u2.1, fun o h0 h1 => wT_congr pS_eq (u2.2 o h0 h1)⟩
        rw [pS_s] at e5
        have fr5 : fr7 (M 1 3) M M5 := fr7_t u1 (fun a q0 q1 => x1 a (by omega))
        rw [c_wSk0 hC rfl c1, eR, if_pos rfl, c_wJu0 hC rfl c2, eR, if_pos rfl, eC (kd_e hC.1), e4, eV, p1, e5, eV, c_rank (cE_fr hC fr5) hv x2.1 x3 c1, eR, eT3, if_pos rfl]
        exact wQ0 rfl (by omega) (fr8_7 hC.1 fr5)
      · obtain ⟨r6, r9, r0⟩ := ref_A h8
        obtain ⟨b9, b0, b6⟩ := ref_B hP h8
        unfold f_X10_place
        refine t_let ?_
        refine t_We (e_noSk0 (by rw [b9]; exact hT) (by rw [b9]; exact c1)) (t_pos (by decide) ?_)
        refine t_We (e_noJu0 (by rw [b9]; exact hT) (by rw [b9]; exact c2)) (t_pos (by decide) ?_)
        refine t_V (t_mono (e_places r6 b9 b0 hT hN hR hQ) (fun M6 h6 => ?_))
        obtain ⟨g1, g2, g3, g4, g5, g6⟩ := h6
        rw [pw_of (z := 9 * a1 + a2) (by omega) (by omega)]
        refine t_ck (by omega) ?_
        exact rQ (by rw [g2, pst_s]) (fun _ => g6 a1 a2 c1.1 c1.2 c2.1 c2.2) (frX_t (frX_0 M3 0) g1) g3
    · refine stQ hI (code := 1) (val := 0) (by omega) (fun h => by omega) ?_ (fun M3 h8 => ?_)
      · unfold w_place f_X9_place
        rw [c_wSk0 hC rfl c1, eR, if_pos rfl, c_wJu1 hC rfl j2 c2, eR, if_neg (by decide), eT3, if_neg (by decide), if_pos rfl]
        exact wQ1 (by decide) (fr8_r M)
      · obtain ⟨r6, r9, r0⟩ := ref_A h8
        obtain ⟨b9, b0, b6⟩ := ref_B hP h8
        unfold f_X10_place
        refine t_let ?_
        refine t_We (e_noSk0 (by rw [b9]; exact hT) (by rw [b9]; exact c1)) (t_pos (by decide) ?_)
        refine t_We (e_noJu1 (by rw [b9]; exact hT) (jin_b j2) (by rw [b9]; exact c2)) (t_neg (by decide) ?_)
        exact rQt (by decide) (frX_0 M3 0) b6
  · refine stQ hI (code := 1) (val := 0) (by omega) (fun h => by omega) ?_ (fun M3 h8 => ?_)
    · unfold w_place f_X9_place
      rw [c_wSk1 hC rfl j1 c1, eR, if_neg (by decide), eT3, if_neg (by decide), if_pos rfl]
      exact wQ1 (by decide) (fr8_r M)
    · obtain ⟨r6, r9, r0⟩ := ref_A h8
      obtain ⟨b9, b0, b6⟩ := ref_B hP h8
      unfold f_X10_place
      refine t_let ?_
      refine t_We (e_noSk1 (by rw [b9]; exact hT) (jin_b j1) (by rw [b9]; exact c1)) (t_neg (by decide) ?_)
      exact rQt (by decide) (frX_0 M3 0) b6
/-! backers, majorities -/
def q_bk (pl : Int → Int → Int) (J s p : Int) : Int := sZ (fun j => b2 (pl s j ≤ p)) J
def q_mj (pl : Int → Int → Int) (J n s : Int) : Int := q_first (fun p => b2 (J < 2 * q_bk pl J s p)) n.toNat 0
def q_sm (pl : Int → Int → Int) (J s : Int) : Int := sZ (pl s) J
theorem q_bk_b {pl : Int → Int → Int} {J s p : Int} (hJ : 0 ≤ J) : 0 ≤ q_bk pl J s p ∧ q_bk pl J s p ≤ J := by
  have := sZ_b (f := fun j => b2 (pl s j ≤ p)) (lo := 0) (hi := 1) hJ (fun j _ _ => b2_b _)
  unfold q_bk
  omega
theorem q_sm_b {pl : Int → Int → Int} {J n s : Int} (hJ : 0 ≤ J ∧ J ≤ 9) (hn : n ≤ 6) (h : ∀ j, 0 ≤ j → j < J → 0 ≤ pl s j ∧ pl s j < n) : 0 ≤ q_sm pl J s ∧ q_sm pl J s ≤ 54 := by
  have := sZ_b (f := pl s) (lo := 0) (hi := 6) hJ.1 (fun j h0 h1 => by have := h j h0 h1; omega)
  unfold q_sm
  omega
theorem q_bk_all {pl : Int → Int → Int} {J n s : Int} (hJ : 0 ≤ J) (h : ∀ j, 0 ≤ j → j < J → 0 ≤ pl s j ∧ pl s j < n) : q_bk pl J s (n - 1) = J := by
  have : q_bk pl J s (n - 1) = sZ (fun _ => 1) J := sZ_congr (fun j h0 h1 => b2_t (by have := h j h0 h1; omega))
  rw [this]
  have := sZ_b (f := fun _ => (1 : Int)) (lo := 1) (hi := 1) hJ (fun _ _ _ => by omega)
  omega
/-- a first one that is there -/
theorem q_first_in {p : Int → Int} : ∀ {m : Nat} {i k : Int}, i ≤ k → k < i + m → p k ≠ 0 → i ≤ q_first p m i ∧ q_first p m i ≤ k ∧ p (q_first p m i) ≠ 0 := by
  intro m
  induction m with
  | zero => intro i k h0 h1; omega
  | succ m ih =>
    intro i k h0 h1 h2
    unfold q_first
    by_cases c : p i = 0
    · rw [if_pos c]
      have hik : i ≠ k := fun q => h2 (by rw [← q]; exact c)
      have := ih (i := i + 1) (k := k) (by omega) (by omega) h2
      omega
    · rw [if_neg c]
      exact ⟨Int.le_refl _, h0, c⟩
theorem q_mj_in {pl : Int → Int → Int} {J n s : Int} (hJ : 1 ≤ J) (hn : 1 ≤ n) (h : ∀ j, 0 ≤ j → j < J → 0 ≤ pl s j ∧ pl s j < n) : 0 ≤ q_mj pl J n s ∧ q_mj pl J n s < n := by
  have := q_first_in (p := fun p => b2 (J < 2 * q_bk pl J s p)) (m := n.toNat) (i := 0) (k := n - 1) (by omega) (by omega) (by
    rw [q_bk_all (by omega) h, b2_t (by omega)]
    decide)
  unfold q_mj
  omega
theorem e_bk {M : jM} {pl : Int → Int → Int} {s p : Int} (hT : bT (M 169)) (hpl : ∀ j, 0 ≤ j → j < M 169 2 → M 177 (9 * s + j) = pl s j) (hb : ∀ j, 0 ≤ j → j < M 169 2 → 0 ≤ pl s j ∧ pl s j < 6) (hs : 0 ≤ s ∧ s < 6) (hp : 0 ≤ p ∧ p ≤ 1000) : f_X10_atOrAhead s p M = some (q_bk pl (M 169 2) s p) := by
  have t2 := hT.2.2.1
  apply t_get
  unfold f_X10_atOrAhead
  refine t_lp2 (fun n j => 0 ≤ j ∧ j ≤ M 169 2 ∧ n = sZ (fun j => b2 (pl s j ≤ p)) j) (fun _ j => (M 169 2 - j).toNat) ?_ jfuel 0 0 (by rw [jfuel_eq]; omega) ⟨by omega, by omega, rfl⟩
  rintro self n j ⟨hj1, hj2, hn⟩ hself
  rw [pw_of (z := 2) (by omega) (by omega), pw_of (z := M 169 2) (by omega) (by omega), pw_of (z := j) (by omega) (by omega)]
  refine t_ck (by omega) ?_
  refine t_if (fun hc => ?_) (fun hc => ?_)
  · refine t_some ?_
    rw [hn, show j = M 169 2 from by omega]
    rfl
  · have hsz := sZ_s (f := fun j => b2 (pl s j ≤ p)) hj1
    have hbj := hb j hj1 (by omega)
    rw [pw_of (z := 9 * s + j) (by omega) (by omega), hpl j hj1 (by omega), pw_of (z := p) (by omega) (by omega), pw_of (z := pl s j) (by omega) (by omega)]
    refine t_ck (by omega) ?_
    refine t_k ?_
    refine t_if (fun c => ?_) (fun c => ?_)
    · refine t_let ?_
      refine t_let ?_
      refine hself _ _ ⟨by omega, by omega, ?_⟩ (by omega)
      rw [hsz, hn, b2_f (by omega)]
    · refine t_let ?_
      refine t_let ?_
      refine hself _ _ ⟨by omega, by omega, ?_⟩ (by omega)
      rw [hsz, hn, b2_t (by omega)]
theorem e_mj {M : jM} {pl : Int → Int → Int} {s : Int} (hT : bT (M 169)) (hpl : ∀ j, 0 ≤ j → j < M 169 2 → M 177 (9 * s + j) = pl s j) (hb : ∀ j, 0 ≤ j → j < M 169 2 → 0 ≤ pl s j ∧ pl s j < M 169 1) (hs : 0 ≤ s ∧ s < M 169 1) : f_X10_majorityOf s M = some (q_mj pl (M 169 2) (M 169 1) s) := by
  have t1 := hT.2.1
  have t2 := hT.2.2.1
  apply t_get
  unfold f_X10_majorityOf
  refine t_lp1 (fun p => 0 ≤ p ∧ p < M 169 1 ∧ q_first (fun p => b2 (M 169 2 < 2 * q_bk pl (M 169 2) s p)) (M 169 1 - p).toNat p = q_mj pl (M 169 2) (M 169 1) s) (fun p => (M 169 1 - p).toNat) ?_ jfuel 0 (by rw [jfuel_eq]; omega) ⟨by omega, by omega, by rw [Int.sub_zero]; rfl⟩
  rintro self p ⟨hp1, hp2, hq⟩ hself
  refine t_Re (e_bk hT hpl (fun j q0 q1 => by have := hb j q0 q1; omega) (by omega) (by omega)) ?_
  have hbb := q_bk_b (pl := pl) (J := M 169 2) (s := s) (p := p) (by omega)
  rw [pw_of (z := 2) (by omega) (by omega), pw_of (z := M 169 2) (by omega) (by omega), pw_of (z := 2 * q_bk pl (M 169 2) s p) (by omega) (by omega)]
  refine t_ck (by omega) ?_
  rw [show (M 169 1 - p).toNat = (M 169 1 - (p + 1)).toNat + 1 from by omega] at hq
  unfold q_first at hq
  refine t_if (fun c => ?_) (fun c => ?_)
  · rw [b2_t c, if_neg (by decide)] at hq
    exact t_some hq
  · rw [b2_f c, if_pos rfl] at hq
    refine t_let ?_
    refine hself _ ⟨by omega, ?_, hq⟩ (by omega)
    have : p ≠ M 169 1 - 1 := fun q => by
      have h1 := q_bk_all (pl := pl) (J := M 169 2) (n := M 169 1) (s := s) (by omega) hb
      rw [← q] at h1
      omega
    omega
theorem e_sm {M : jM} {pl : Int → Int → Int} {s : Int} (hT : bT (M 169)) (hpl : ∀ j, 0 ≤ j → j < M 169 2 → M 177 (9 * s + j) = pl s j) (hs : 0 ≤ s ∧ s < 6) : f_X10_placesOf s M = some (q_sm pl (M 169 2) s) := by
  have t2 := hT.2.2.1
  apply t_get
  unfold f_X10_placesOf
  refine t_lp2 (fun n j => 0 ≤ j ∧ j ≤ M 169 2 ∧ n = sZ (pl s) j) (fun _ j => (M 169 2 - j).toNat) ?_ jfuel 0 0 (by rw [jfuel_eq]; omega) ⟨by omega, by omega, rfl⟩
  rintro self n j ⟨hj1, hj2, hn⟩ hself
  rw [pw_of (z := 2) (by omega) (by omega), pw_of (z := M 169 2) (by omega) (by omega), pw_of (z := j) (by omega) (by omega)]
  refine t_ck (by omega) ?_
  refine t_if (fun hc => ?_) (fun hc => ?_)
  · refine t_some ?_
    rw [hn, show j = M 169 2 from by omega]
    rfl
  · rw [pw_of (z := 9 * s + j) (by omega) (by omega), hpl j hj1 (by omega)]
    refine t_ck (by omega) ?_
    refine t_let ?_
    refine t_let ?_
    refine hself _ _ ⟨by omega, by omega, ?_⟩ (by omega)
    rw [sZ_s hj1, hn]
def q_mah (mj bk sm : Int → Int) (a b : Int) : Int := b2 (mj a < mj b ∨ mj a = mj b ∧ (bk b < bk a ∨ bk a = bk b ∧ (sm a < sm b ∨ sm a = sm b ∧ a < b)))
theorem q_mah_b (mj bk sm : Int → Int) (a b : Int) : q_mah mj bk sm a b = 0 ∨ q_mah mj bk sm a b = 1 := b2_01 _
theorem e_isMj {M : jM} {pl : Int → Int → Int} {a b : Int} (hT : bT (M 169)) (hpl : ∀ s j, 0 ≤ s → s < M 169 1 → 0 ≤ j → j < M 169 2 → M 177 (9 * s + j) = pl s j) (hb : ∀ s j, 0 ≤ s → s < M 169 1 → 0 ≤ j → j < M 169 2 → 0 ≤ pl s j ∧ pl s j < M 169 1) (ha : 0 ≤ a ∧ a < M 169 1) (hbb : 0 ≤ b ∧ b < M 169 1) :
    f_X10_isMajor a b M = some (q_mah (q_mj pl (M 169 2) (M 169 1)) (fun s => q_bk pl (M 169 2) s (q_mj pl (M 169 2) (M 169 1) s)) (q_sm pl (M 169 2)) a b) := by
  have t1 := hT.2.1
  have t2 := hT.2.2.1
  have ma := q_mj_in (pl := pl) (J := M 169 2) (n := M 169 1) (s := a) (by omega) (by omega) (fun j q0 q1 => hb a j ha.1 ha.2 q0 q1)
  have mb := q_mj_in (pl := pl) (J := M 169 2) (n := M 169 1) (s := b) (by omega) (by omega) (fun j q0 q1 => hb b j hbb.1 hbb.2 q0 q1)
  have ba := q_bk_b (pl := pl) (J := M 169 2) (s := a) (p := q_mj pl (M 169 2) (M 169 1) a) (by omega)
  have bb := q_bk_b (pl := pl) (J := M 169 2) (s := b) (p := q_mj pl (M 169 2) (M 169 1) b) (by omega)
  have sa := q_sm_b (pl := pl) (J := M 169 2) (n := M 169 1) (s := a) (by omega) (by omega) (fun j q0 q1 => hb a j ha.1 ha.2 q0 q1)
  have sb := q_sm_b (pl := pl) (J := M 169 2) (n := M 169 1) (s := b) (by omega) (by omega) (fun j q0 q1 => hb b j hbb.1 hbb.2 q0 q1)
  have e1 := e_mj hT (fun j q0 q1 => hpl a j ha.1 ha.2 q0 q1) (fun j q0 q1 => hb a j ha.1 ha.2 q0 q1) ha
  have e2 := e_mj hT (fun j q0 q1 => hpl b j hbb.1 hbb.2 q0 q1) (fun j q0 q1 => hb b j hbb.1 hbb.2 q0 q1) hbb
  apply t_get
  unfold f_X10_isMajor
  refine t_Re e1 ?_
  refine t_Re e2 ?_
  refine t_let ?_
  have fin : ∀ z : Int, -1000 ≤ z ∧ z ≤ 1000 → (z < 0 ∨ z = 0 ∧ a < b ↔ (q_mj pl (M 169 2) (M 169 1) a < q_mj pl (M 169 2) (M 169 1) b ∨ q_mj pl (M 169 2) (M 169 1) a = q_mj pl (M 169 2) (M 169 1) b ∧ (q_bk pl (M 169 2) b (q_mj pl (M 169 2) (M 169 1) b) < q_bk pl (M 169 2) a (q_mj pl (M 169 2) (M 169 1) a) ∨ q_bk pl (M 169 2) a (q_mj pl (M 169 2) (M 169 1) a) = q_bk pl (M 169 2) b (q_mj pl (M 169 2) (M 169 1) b) ∧ (q_sm pl (M 169 2) a < q_sm pl (M 169 2) b ∨ q_sm pl (M 169 2) a = q_sm pl (M 169 2) b ∧ a < b)))) → jT ((fun (l3_8 : Int) =>
      if jw l3_8 < 0 then (
        some 1)
      else (
        if jw l3_8 = 0 then (
          if jw b ≤ jw a then (
            some 0)
          else (
            some 1))
        else (
          some 0))) z) (fun r => r = q_mah (q_mj pl (M 169 2) (M 169 1)) (fun s => q_bk pl (M 169 2) s (q_mj pl (M 169 2) (M 169 1) s)) (q_sm pl (M 169 2)) a b) := by
    intro z hz hiff
    show jT (ite _ _ _) _
    rw [pw_of (z := z) (by omega) (by omega), pw_of (z := a) (by omega) (by omega), pw_of (z := b) (by omega) (by omega)]
    unfold q_mah
    refine t_if (fun c => ?_) (fun c => ?_)
    · exact t_some (b2_t (hiff.mp (by omega))).symm
    · refine t_if (fun c2 => ?_) (fun c2 => ?_)
      · refine t_if (fun c3 => ?_) (fun c3 => ?_)
        · exact t_some (b2_f (fun q => by have := hiff.mpr q; omega)).symm
        · exact t_some (b2_t (hiff.mp (by omega))).symm
      · exact t_some (b2_f (fun q => by have := hiff.mpr q; omega)).symm
  refine t_k ?_
  have mid : ∀ z : Int, -1000 ≤ z ∧ z ≤ 1000 → (z < 0 ↔ (q_mj pl (M 169 2) (M 169 1) a < q_mj pl (M 169 2) (M 169 1) b ∨ q_mj pl (M 169 2) (M 169 1) a = q_mj pl (M 169 2) (M 169 1) b ∧ q_bk pl (M 169 2) b (q_mj pl (M 169 2) (M 169 1) b) < q_bk pl (M 169 2) a (q_mj pl (M 169 2) (M 169 1) a))) → (z = 0 ↔ (q_mj pl (M 169 2) (M 169 1) a = q_mj pl (M 169 2) (M 169 1) b ∧ q_bk pl (M 169 2) a (q_mj pl (M 169 2) (M 169 1) a) = q_bk pl (M 169 2) b (q_mj pl (M 169 2) (M 169 1) b))) → jT ((fun (l3_6 : Int) =>
    jk (fun (l3_8 : Int) =>
      if jw l3_8 < 0 then (
        some 1)
      else (
        if jw l3_8 = 0 then (
          if jw b ≤ jw a then (
            some 0)
          else (
            some 1))
        else (
          some 0))) fun (k9 : Int → Option (Int)) =>
    if jw l3_6 = 0 then (
      jbR (f_X10_placesOf a M) fun v11 =>
      jbR (f_X10_placesOf b M) fun v13 =>
      jlet ((v11 - v13)) fun l3_14 =>
      k9 l3_14)
    else (
      k9 l3_6)) z) (fun r => r = q_mah (q_mj pl (M 169 2) (M 169 1)) (fun s => q_bk pl (M 169 2) s (q_mj pl (M 169 2) (M 169 1) s)) (q_sm pl (M 169 2)) a b) := by
    intro z hz h1 h2
    refine t_k ?_
    rw [pw_of (z := z) (by omega) (by omega)]
    refine t_if (fun c => ?_) (fun c => ?_)
    · refine t_Re (e_sm hT (fun j q0 q1 => hpl a j ha.1 ha.2 q0 q1) (by omega)) ?_
      refine t_Re (e_sm hT (fun j q0 q1 => hpl b j hbb.1 hbb.2 q0 q1) (by omega)) ?_
      refine t_let ?_
      refine fin _ (by omega) ?_
      have := h2.mp c
      omega
    · refine fin z hz ?_
      omega
  rw [pw_of (z := q_mj pl (M 169 2) (M 169 1) a - q_mj pl (M 169 2) (M 169 1) b) (by omega) (by omega)]
  refine t_if (fun c => ?_) (fun c => ?_)
  · refine t_Re e2 ?_
    refine t_Re (e_bk hT (fun j q0 q1 => hpl b j hbb.1 hbb.2 q0 q1) (fun j q0 q1 => by have := hb b j hbb.1 hbb.2 q0 q1; omega) (by omega) (by omega)) ?_
    refine t_Re e1 ?_
    refine t_Re (e_bk hT (fun j q0 q1 => hpl a j ha.1 ha.2 q0 q1) (fun j q0 q1 => by have := hb a j ha.1 ha.2 q0 q1; omega) (by omega) (by omega)) ?_
    refine t_let ?_
    refine mid _ (by omega) (by omega) (by omega)
  · exact mid _ (by omega) (by omega) (by omega)
