/-! ===== attempt, doubt ===== -/
theorem c_elAt {g s k i : Int} {M : jM} {T N : Int → Int} (hT : bT T) (h : rSk g M T N s) (hs : 0 ≤ s ∧ s < 6) (hk : 0 ≤ k ∧ k < T (116 + s)) (hi : 0 ≤ i ∧ i < 3) : f_X6_elementAt g k i M = some (if q_many T s k ≤ i then -1 else q_el T s k i) := by
  have tt := hT.2.2.2.2.2.2.1 s hs.1 hs.2
  obtain ⟨y1, y2, y3, y4, y5⟩ := h.2.2.2.1 k hk.1 hk.2
  have hm := q_many_b hT hs (k := k) (by omega)
  have y2' : M (g + 2) k = q_many T s k := y2
  unfold f_X6_elementAt
  rw [pw_of (z := k) (by omega) (by omega), eC (by omega), y2', pw_of (z := q_many T s k) (by omega) (by omega), pw_of (z := i) (by omega) (by omega)]
  by_cases c : q_many T s k ≤ i
  · rw [if_pos c, if_pos c]
  · rw [if_neg c, if_neg c, pw_of (z := k * 3 + i) (by omega) (by omega), eC (by omega), y3 i hi.1 (by unfold q_many at c; omega)]
    rfl
def q_att (P T N : Int → Int) (s k w : Int) : Int := if w = 0 then T (122 + (12 * s + k)) else if w = 1 then q_many T s k else if w ≤ 4 then (if q_many T s k ≤ w - 2 then -1 else q_el T s k (w - 2)) else if w = 5 then q_calls P N s k else if w = 6 then q_late P T N s k else if w = 7 then ((q_or (q_struck P T N s k) (q_many T s k).toNat : Nat) : Int) else if w = 8 then q_worth P T N s k else if w = 9 then q_gain P T N s k else q_ptsAt P T N s k
theorem c_late {t e s k : Int} {M : jM} {P T N : Int → Int} (hT : bT T) (hs : 0 ≤ s ∧ s < 6) (hw : wT t e s M P T N) (hk : q_is P T N s k ≠ 0) : ∃ n : Nat, M t 3 = (n : Int) ∧ n < 4096 ∧ q_in (n : Int) k = q_late P T N s k := by
  have tt := hT.2.2.2.2.2.2.1 s hs.1 hs.2
  have hkk := q_is_k hk
  refine ⟨_, hw.2.2.2.1, ?_, ?_⟩
  · have h1 := q_or_lt (fun k => if q_is P T N s k = 0 then 0 else q_late P T N s k) (T (116 + s)).toNat
    have h2 : 2 ^ (T (116 + s)).toNat ≤ 2 ^ 12 := Nat.pow_le_pow_right (by decide) (by omega)
    omega
  · rw [q_or_in (by omega), if_neg hk]
    rcases q_late_b P T N s k with h | h
    · rw [h]; exact b2_f (by decide)
    · rw [h]; exact b2_t (by decide)
theorem c_pts {t e s k : Int} {M : jM} {P T N : Int → Int} (hC : cE e M T N) (hs : 0 ≤ s ∧ s < T 1) (hP : cP P T) (h19 : P 19 = -1) (hw : wT t e s M P T N) (hk : q_is P T N s k ≠ 0) : f_X8_worthOf t k M = some (q_worth P T N s k) ∧ f_X8_pointsOf t k (P 15) M = some (q_ptsAt P T N s k) := by
  have hT := hC.2.1
  have hN := hC.2.2.1
  have t1 := hT.2.1
  have hs6 : 0 ≤ s ∧ s < 6 := by omega
  have hkk := q_is_k hk
  have tt := hT.2.2.2.2.2.2.1 s hs6.1 hs6.2
  obtain ⟨n, n1, n2, n3⟩ := c_late hT hs6 hw hk
  have h2 := (hw.2.2.2.2.2.2.1 k hk).2.1
  have y966 := hC.2.2.2.2.2.1 2 (by omega) (by omega)
  rw [show (964 : Int) + 2 = 966 from rfl] at y966
  have hwo : f_X8_worthOf t k M = some (q_worth P T N s k) := by
    rw [c_worth (kd_e hC.1) hw.1 n1 n2 (by omega) (by rw [h2]; exact q_plain_b hT hN hs6 (by omega)) (by rw [y966]; exact hN.2.2.2.2.2.2.2.1), n3, h2, y966]
    rfl
  refine ⟨hwo, ?_⟩
  unfold f_X8_pointsOf
  rw [hwo, eR, c_gain hC hs hP h19 hw hk, eR]
  rfl
theorem q_att_b {P T N : Int → Int} (hP : bP P) (hT : bT T) (hN : bN N) (hJ : bJ P T) {s k w : Int} (hs : 0 ≤ s ∧ s < 6) (hk : 0 ≤ k ∧ k < 12) (hw : 0 ≤ w ∧ w ≤ 10) : -1000 ≤ q_att P T N s k w ∧ q_att P T N s k w ≤ 20000 := by
  have htm := hT.2.2.2.2.2.2.2.1 (12 * s + k) (by omega) (by omega)
  have h1 := q_many_b hT hs hk
  have h3 := q_calls_b (P := P) hN hs hk
  have h4 := q_late_b P T N s k
  have h5 := q_worth_b (P := P) hT hN hs hk
  have h6 := q_gain_b hP hT hN hJ hs hk
  have h7 := q_ptsAt_b hP hT hN hJ hs hk
  have h8 := q_or_lt (q_struck P T N s k) (q_many T s k).toNat
  have h9 : 2 ^ (q_many T s k).toNat ≤ 2 ^ 3 := Nat.pow_le_pow_right (by decide) (by omega)
  unfold q_att
  by_cases c : 2 ≤ w ∧ w ≤ 4
  · have h2 := q_el_b hT hs hk (i := w - 2) (by omega)
    rw [if_neg (by omega), if_neg (by omega), if_pos (by omega)]
    split <;> omega
  · by_cases c0 : w = 0
    · rw [if_pos c0]; omega
    · by_cases c1 : w = 1
      · rw [if_neg c0, if_pos c1]; omega
      · rw [if_neg c0, if_neg c1, if_neg (by omega)]
        repeat' split
        all_goals omega

set_option maxHeartbeats 1000000 in
theorem z_6 {M : jM} (hI : Inv M) {a1 a2 a3 : Int} (j1 : jin a1) (j2 : jin a2) (j3 : jin a3) : jT (s_6 a1 a2 a3 M) Inv := by
  obtain ⟨hC, hT, hN, hP, hR, hQ, hcP⟩ := inv_ctx hI
  have t0 := hT.1
  have t1 := hT.2.1
  have t2 := hT.2.2.1
  have t3 := hT.2.2.2.1
  have hb3 := jin_b j3
  have he := hC.1
  unfold s_6
  by_cases c1 : (0 ≤ a1 ∧ a1 < M 169 1) ∧ q_is (P0 M) (M 169) (M 170) a1 a2 ≠ 0
  · have hkk := q_is_k c1.2
    have tt := hT.2.2.2.2.2.2.1 a1 c1.1.1 (by omega)
    have hs6 : 0 ≤ a1 ∧ a1 < 6 := by omega
    have hk12 : 0 ≤ a2 ∧ a2 < 12 := by omega
    by_cases c2 : 0 ≤ a3 ∧ a3 ≤ 10
    · have hab := q_att_b hcP.1 hT hN hcP.2.1 hs6 hk12 c2
      have h11 : a3 = 0 ∨ a3 = 1 ∨ a3 = 2 ∨ a3 = 3 ∨ a3 = 4 ∨ a3 = 5 ∨ a3 = 6 ∨ a3 = 7 ∨ a3 = 8 ∨ a3 = 9 ∨ a3 = 10 := by omega
      refine stQ hI (code := 0) (val := q_att (P0 M) (M 169) (M 170) a1 a2 a3) (by omega) (fun _ => by omega) ?_ (fun M3 h8 => ?_)
      · unfold w_attempt f_X9_attempt
        obtain ⟨⟨v, M4⟩, e4, u1, u2, u3, u4⟩ := c_tallied hC rfl hQ c1.1
        dsimp only at u1 u2 u3 u4
        subst u1
        have hC4 := cE_fr hC u2
        have e13 : M4 1 3 = M 1 3 := by rw [u2 1 (by omega) (by omega)]
        have sk4 := hC4.2.2.2.2.2.2.2.2.2.2.2.2.2 a1 c1.1.1 c1.1.2
        obtain ⟨y1, y2, y3, y4, y5⟩ := sk4.2.2.2.1 a2 hkk.1 hkk.2
        obtain ⟨n, n1, n2, n3⟩ := c_late hT hs6 u3 c1.2
        obtain ⟨w1, w2⟩ := c_pts hC4 c1.1 hcP hQ.2.2.2.2.1 u3 c1.2
        have w3 := c_gain hC4 c1.1 hcP hQ.2.2.2.2.1 u3 c1.2
        rw [hQ.2.1] at w2 w3
        have h22 := hQ.2.2.2.2.2
        rw [c_wAt0 hC rfl hQ.2.2.1 c1, eR, if_pos rfl, eC (kd_e he), pw_of (z := a1) (by omega) (by omega), eC (by omega), e4, eW, eC (ln_t (by omega)).2.2, pw_of (z := a2) (by omega) (by omega)]
        rcases h11 with h | h | h | h | h | h | h | h | h | h | h <;> subst h
        · repeat rw [if_neg (by decide)]
          rw [if_pos (by decide)]
          rw [eC (by omega), y1, eT3, if_pos rfl]
          exact wQ0 rfl (by omega) (fr8_7 he u2)
        · repeat rw [if_neg (by decide)]
          rw [if_pos (by decide)]
          rw [eC (by omega), y2, eT3, if_pos rfl]
          exact wQ0 rfl (by omega) (fr8_7 he u2)
        · repeat rw [if_neg (by decide)]
          rw [if_pos (by decide)]
          rw [c_elAt hT sk4 hs6 hkk (by omega), eR, eT3, if_pos rfl]
          exact wQ0 rfl (by omega) (fr8_7 he u2)
        · repeat rw [if_neg (by decide)]
          rw [if_pos (by decide)]
          rw [c_elAt hT sk4 hs6 hkk (by omega), eR, eT3, if_pos rfl]
          exact wQ0 rfl (by omega) (fr8_7 he u2)
        · repeat rw [if_neg (by decide)]
          rw [if_pos (by decide)]
          rw [c_elAt hT sk4 hs6 hkk (by omega), eR, eT3, if_pos rfl]
          exact wQ0 rfl (by omega) (fr8_7 he u2)
        · repeat rw [if_neg (by decide)]
          rw [if_pos (by decide)]
          rw [eC (by omega), y4, eT3, if_pos rfl]
          exact wQ0 (by unfold q_att q_calls; rw [h22]; rfl) (by omega) (fr8_7 he u2)
        · have hab2 : -2147483648 ≤ q_att (P0 M) (M 169) (M 170) a1 a2 6 ∧ q_att (P0 M) (M 169) (M 170) a1 a2 6 ≤ 2147483647 := by omega
          repeat rw [if_neg (by decide)]
          rw [if_pos (by decide)]
          rw [c_isLate n1 n2 hk12, eR, n3]
          rcases q_late_b (P0 M) (M 169) (M 170) a1 a2 with hl | hl
          · rw [hl, if_pos (by decide), eT3, if_pos rfl]
            exact wQ0 hl.symm hab2 (fr8_7 he u2)
          · rw [hl, if_neg (by decide), eT3, if_pos rfl]
            exact wQ0 hl.symm hab2 (fr8_7 he u2)
        · repeat rw [if_neg (by decide)]
          rw [if_pos (by decide)]
          rw [eC (by omega), (u3.2.2.2.2.2.2.1 a2 c1.2).1, eT3, if_pos rfl]
          exact wQ0 rfl (by omega) (fr8_7 he u2)
        · repeat rw [if_neg (by decide)]
          rw [if_pos (by decide)]
          rw [w1, eR, eT3, if_pos rfl]
          exact wQ0 rfl (by omega) (fr8_7 he u2)
        · repeat rw [if_neg (by decide)]
          rw [if_pos (by decide)]
          rw [c_evJ hC4 e13, eR, w3, eR, eT3, if_pos rfl]
          exact wQ0 rfl (by omega) (fr8_7 he u2)
        · repeat rw [if_neg (by decide)]
          rw [c_evJ hC4 e13, eR, w2, eR, eT3, if_pos rfl]
          exact wQ0 rfl (by omega) (fr8_7 he u2)
      · obtain ⟨r6, r9, r0⟩ := ref_A h8
        obtain ⟨b9, b0, b6⟩ := ref_B hP h8
        unfold f_X10_attempt
        refine t_let ?_
        refine t_We (e_noTry0 (by rw [b9]; exact hT) (by rw [b0]; exact hN) b6 (by rw [b9]; exact c1.1) (by rw [r6, b9, b0]; exact c1.2)) (t_pos (by decide) ?_)
        refine t_Re (e_in hb3 (by omega) (by omega)) ?_
        refine t_k ?_
        rw [b2_t c2]
        refine t_neg (by decide) ?_
        refine t_We (e_thr0 _ _) (t_pos (by decide) ?_)
        have hm := q_many_b hT hs6 hk12
        rcases h11 with h | h | h | h | h | h | h | h | h | h | h <;> subst h
        · repeat rw [if_neg (by decide)]
          rw [if_pos (by decide)]
          refine t_Re rfl ?_
          rw [pw_of (z := 122 + (12 * a1 + a2)) (by omega) (by omega), r9]
          exact t_ck (by omega) (rQ (mA_0 M3) (fun _ => rfl) (frX_0A M3) (by rw [r6]; exact hcP.1))
        · repeat rw [if_neg (by decide)]
          rw [if_pos (by decide)]
          refine t_Re (e_many hs6 hk12) ?_
          exact rQ (mA_0 M3) (fun _ => by rw [r9]; rfl) (frX_0A M3) (by rw [r6]; exact hcP.1)
        · repeat rw [if_neg (by decide)]
          rw [if_pos (by decide)]
          refine t_Re (e_many hs6 hk12) ?_
          rw [r9, pw_of (z := q_many (M 169) a1 a2) (by omega) (by omega), pw_of (z := 2 - 2) (by omega) (by omega)]
          refine t_if (fun c3 => ?_) (fun c3 => ?_)
          · exact rQ (mA_0 M3) (fun _ => (if_pos c3).symm) (frX_0A M3) (by rw [r6]; exact hcP.1)
          · refine t_Re (e_el hs6 hk12 (by decide)) ?_
            exact rQ (mA_0 M3) (fun _ => by rw [r9]; exact (if_neg c3).symm) (frX_0A M3) (by rw [r6]; exact hcP.1)
        · repeat rw [if_neg (by decide)]
          rw [if_pos (by decide)]
          refine t_Re (e_many hs6 hk12) ?_
          rw [r9, pw_of (z := q_many (M 169) a1 a2) (by omega) (by omega), pw_of (z := 3 - 2) (by omega) (by omega)]
          refine t_if (fun c3 => ?_) (fun c3 => ?_)
          · exact rQ (mA_0 M3) (fun _ => (if_pos c3).symm) (frX_0A M3) (by rw [r6]; exact hcP.1)
          · refine t_Re (e_el hs6 hk12 (by decide)) ?_
            exact rQ (mA_0 M3) (fun _ => by rw [r9]; exact (if_neg c3).symm) (frX_0A M3) (by rw [r6]; exact hcP.1)
        · repeat rw [if_neg (by decide)]
          rw [if_pos (by decide)]
          refine t_Re (e_many hs6 hk12) ?_
          rw [r9, pw_of (z := q_many (M 169) a1 a2) (by omega) (by omega), pw_of (z := 4 - 2) (by omega) (by omega)]
          refine t_if (fun c3 => ?_) (fun c3 => ?_)
          · exact rQ (mA_0 M3) (fun _ => (if_pos c3).symm) (frX_0A M3) (by rw [r6]; exact hcP.1)
          · refine t_Re (e_el hs6 hk12 (by decide)) ?_
            exact rQ (mA_0 M3) (fun _ => by rw [r9]; exact (if_neg c3).symm) (frX_0A M3) (by rw [r6]; exact hcP.1)
        · repeat rw [if_neg (by decide)]
          rw [if_pos (by decide)]
          refine t_Re (e_calls (by rw [r6]; exact hcP.1) hs6 hk12) ?_
          exact rQ (mA_0 M3) (fun _ => by rw [r6, r0]; rfl) (frX_0A M3) (by rw [r6]; exact hcP.1)
        · repeat rw [if_neg (by decide)]
          rw [if_pos (by decide)]
          refine t_Re (e_late (by rw [r6]; exact hcP.1) (by rw [r9]; exact hT) (by rw [r0]; exact hN) hs6 hk12) ?_
          rw [r6, r9, r0]
          rcases q_late_b (P0 M) (M 169) (M 170) a1 a2 with hl | hl
          · rw [hl]
            exact t_pos (by decide) (rQ (mA_0 M3) (fun _ => hl.symm) (frX_0A M3) (by rw [r6]; exact hcP.1))
          · rw [hl]
            exact t_neg (by decide) (rQ (mA_0 M3) (fun _ => hl.symm) (frX_0A M3) (by rw [r6]; exact hcP.1))
        · repeat rw [if_neg (by decide)]
          rw [if_pos (by decide)]
          refine t_Re (e_struckOf (by rw [r6]; exact hcP.1) (by rw [r9]; exact hT) (by rw [r0]; exact hN) hs6 hk12) ?_
          exact rQ (mA_0 M3) (fun _ => by rw [r6, r9, r0]; rfl) (frX_0A M3) (by rw [r6]; exact hcP.1)
        · repeat rw [if_neg (by decide)]
          rw [if_pos (by decide)]
          refine t_Re (e_worth (by rw [r6]; exact hcP.1) (by rw [r9]; exact hT) (by rw [r0]; exact hN) hs6 hk12) ?_
          exact rQ (mA_0 M3) (fun _ => by rw [r6, r9, r0]; rfl) (frX_0A M3) (by rw [r6]; exact hcP.1)
        · repeat rw [if_neg (by decide)]
          refine t_W (t_mono (e_gain (by rw [r6]; exact hcP.1) (by rw [r9]; exact hT) (by rw [r0]; exact hN) (by rw [r6, r9]; exact hcP.2.1) hs6 hk12) (fun q hq => ?_))
          rw [r6, r9, r0] at hq
          exact rQ (by rw [hq.2 166 (by decide)]; exact mA_0 M3) (fun _ => hq.1) (frX_t (frX_0A M3) (frX_3 hq.2)) (by rw [hq.2 166 (by decide), r6]; exact hcP.1)
        · refine t_pos (by decide) ?_
          refine t_W (t_mono (e_ptsAt (by rw [r6]; exact hcP.1) (by rw [r9]; exact hT) (by rw [r0]; exact hN) (by rw [r6, r9]; exact hcP.2.1) hs6 hk12) (fun q hq => ?_))
          rw [r6, r9, r0] at hq
          exact rQ (by rw [hq.2 166 (by decide)]; exact mA_0 M3) (fun _ => hq.1) (frX_t (frX_0A M3) (frX_3 hq.2)) (by rw [hq.2 166 (by decide), r6]; exact hcP.1)
    · refine stQ hI (code := 2) (val := 0) (by omega) (fun h => by omega) ?_ (fun M3 h8 => ?_)
      · unfold w_attempt f_X9_attempt
        obtain ⟨⟨v, M4⟩, e4, u1, u2, u3, u4⟩ := c_tallied hC rfl hQ c1.1
        dsimp only at u1 u2 u3 u4
        subst u1
        rw [c_wAt0 hC rfl hQ.2.2.1 c1, eR, if_pos rfl, eC (kd_e he), pw_of (z := a1) (by omega) (by omega), eC (by omega), e4, eW, eC (ln_t (by omega)).2.2, pw_of hb3.1 hb3.2, if_pos (by omega), eT3, if_neg (by decide), if_neg (by decide), if_pos rfl]
        exact wQ1 (by decide) (fr8_7 he u2)
      · obtain ⟨r6, r9, r0⟩ := ref_A h8
        obtain ⟨b9, b0, b6⟩ := ref_B hP h8
        unfold f_X10_attempt
        refine t_let ?_
        refine t_We (e_noTry0 (by rw [b9]; exact hT) (by rw [b0]; exact hN) b6 (by rw [b9]; exact c1.1) (by rw [r6, b9, b0]; exact c1.2)) (t_pos (by decide) ?_)
        refine t_Re (e_in hb3 (by omega) (by omega)) ?_
        refine t_k ?_
        rw [b2_f c2]
        refine t_pos (by decide) ?_
        refine t_We (e_thr1 _ _) (t_neg (by decide) ?_)
        exact rQt (by decide) (frX_0A M3) (by rw [r6]; exact hcP.1)
  · refine stQ hI (code := 1) (val := 0) (by omega) (fun h => by omega) ?_ (fun M3 h8 => ?_)
    · unfold w_attempt f_X9_attempt
      rw [c_wAt1 hC rfl hQ.2.2.1 j1 j2 c1, eR, if_neg (by decide), eT3, if_neg (by decide), if_pos rfl]
      exact wQ1 (by decide) (fr8_r M)
    · obtain ⟨r6, r9, r0⟩ := ref_A h8
      obtain ⟨b9, b0, b6⟩ := ref_B hP h8
      unfold f_X10_attempt
      refine t_let ?_
      refine t_We (e_noTry1 (by rw [b9]; exact hT) (by rw [b0]; exact hN) b6 (jin_b j1) (jin_b j2) (by rw [r6, b9, b0]; exact c1)) (t_neg (by decide) ?_)
      exact rQt (by decide) (frX_0A M3) (by rw [r6]; exact hcP.1)
