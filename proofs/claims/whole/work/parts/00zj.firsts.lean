/-! ===== firsts ===== -/
theorem c_leads {e s v : Int} {M : jM} {P T N : Int → Int} (hC : cE e M T N) (hQ : cQ P T 600 0) (hW : aW e M P T N) (hv : cP (pS P 15 v) T) (hs : 0 ≤ s ∧ s < T 1) :
    jT (f_X7_leadsBy s v M) (fun p => p.1 = b2 (q_rank (q_total (pS P 15 v) T N) (q_points (pS P 15 v) T N) (T 1) s = 0) ∧ fr7 e M p.2 ∧ aW e p.2 P T N) := by
  have hT := hC.2.1
  have hN := hC.2.2.1
  have t1 := hT.2.1
  have h19 : pS P 15 v 19 = -1 := by rw [pS_n (by decide)]; exact hQ.2.2.2.2.1
  have step : ∀ (M5 : jM) (i : Int), fr7 e M M5 → aW e M5 P T N → 0 ≤ i ∧ i < T 1 → jT (f_X8_judgeBy (111 + 6 + 7 * i) v M5) (fun M6 => fr7 e M M6 ∧ aW e M6 P T N ∧ jgd (111 + 6 + 7 * i) i M6 (pS P 15 v) T N ∧ ∀ a, a ≠ 111 + 6 + 7 * i → M6 a = M5 a) := fun M5 i hf hw hi => by
    have := c_judge (t := 111 + 6 + 7 * i) (by omega) (cE_fr hC hf) hi hv h19 (wT_congr pS_eq (hw.2 i hi.1 hi.2))
    rw [pS_s] at this
    refine t_mono this (fun M6 h6 => ?_)
    obtain ⟨u1, u2, u3⟩ := h6
    refine ⟨fr7_t hf (fun a q0 q1 => u1 a (by omega)), ⟨by rw [u1 110 (by omega)]; exact hw.1, fun o q0 q1 => ?_⟩, u3, u1⟩
    by_cases co : o = i
    · subst co
      exact wT_fr (hw.2 o q0 q1) (fun j x0 x1 => u2 j (by omega)) (fun a x0 x1 => u1 a (by omega))
    · exact wT_keep (hw.2 o q0 q1) (fun a x0 x1 => u1 a (by omega))
  unfold f_X7_leadsBy
  rw [pw_of (z := s) (by omega) (by omega)]
  refine t_ck (by omega) ?_
  refine t_V (t_mono (step M s (fr7_r e M) hW hs) (fun M3 h3 => ?_))
  obtain ⟨f3, w3, j3, -⟩ := h3
  refine t_lp2 (fun i M5 => 0 ≤ i ∧ i ≤ T 1 ∧ fr7 e M M5 ∧ aW e M5 P T N ∧ jgd (111 + 6 + 7 * s) s M5 (pS P 15 v) T N ∧ sZ (fun o => if o = s then 0 else q_ahead (q_total (pS P 15 v) T N) (q_points (pS P 15 v) T N) o s) i = 0) (fun i _ => (T 1 - i).toNat) ?_ jfuel 0 M3 (by rw [jfuel_eq]; omega) ⟨by omega, by omega, f3, w3, j3, rfl⟩
  rintro self i M5 ⟨hi1, hi2, hf5, hw5, hj5, hz⟩ hself
  refine t_Re (c_skaters (cE_fr hC hf5) hw5.1) ?_
  rw [pw_of (z := T 1) (by omega) (by omega), pw_of (z := i) (by omega) (by omega)]
  refine t_if (fun hc => ?_) (fun hc => ?_)
  · refine t_some ⟨?_, hf5, hw5⟩
    have ei : i = T 1 := by omega
    subst ei
    exact (b2_t hz).symm
  · have hsz := sZ_s (f := fun o => if o = s then 0 else q_ahead (q_total (pS P 15 v) T N) (q_points (pS P 15 v) T N) o s) hi1
    refine t_if (fun c1 => ?_) (fun c1 => ?_)
    · refine t_let ?_
      refine hself _ _ ⟨by omega, by omega, hf5, hw5, hj5, ?_⟩ (by omega)
      rw [hsz, hz, if_pos c1]
      rfl
    · refine t_ck (by omega) ?_
      refine t_V (t_mono (step M5 i hf5 hw5 (by omega)) (fun M6 h6 => ?_))
      obtain ⟨f6, w6, j6, k6⟩ := h6
      have js : jgd (111 + 6 + 7 * s) s M6 (pS P 15 v) T N := jgd_keep hj5 (k6 _ (by omega))
      refine t_Re (c_ahead hv.1 hT hN hv.2.1 j6.2.2 j6.1 js.2.2 js.1 (by omega) hs) ?_
      rcases q_ahead_b (q_total (pS P 15 v) T N) (q_points (pS P 15 v) T N) i s with q | q
      · rw [q]
        refine t_pos (by decide) ?_
        refine t_let ?_
        refine hself _ _ ⟨by omega, by omega, f6, w6, js, ?_⟩ (by omega)
        rw [hsz, hz, if_neg c1, q]
        rfl
      · rw [q]
        refine t_neg (by decide) ?_
        refine t_some ⟨?_, f6, w6⟩
        refine (b2_f (fun h0 => ?_)).symm
        have := sS_ge (f := fun o => if o = s then 0 else q_ahead (q_total (pS P 15 v) T N) (q_points (pS P 15 v) T N) o s) (n := (T 1).toNat) (i := i) (fun o => by
          rcases q_ahead_b (q_total (pS P 15 v) T N) (q_points (pS P 15 v) T N) o s with x | x <;> split <;> omega) hi1 (by omega)
        rw [if_neg c1, q] at this
        have h0' : sS (fun o => if o = s then 0 else q_ahead (q_total (pS P 15 v) T N) (q_points (pS P 15 v) T N) o s) (T 1).toNat = 0 := h0
        omega
theorem e_bits {v : Int} (hv : 0 ≤ v ∧ v ≤ 2147483647) : f_X10_bits v = some (sS (q_in v) 12) := by
  apply t_get
  unfold f_X10_bits
  refine t_lp2 (fun n k => 0 ≤ k ∧ k ≤ 12 ∧ n = sZ (q_in v) k) (fun _ k => (12 - k).toNat) ?_ jfuel 0 0 (by rw [jfuel_eq]; omega) ⟨by omega, by omega, rfl⟩
  rintro self n k ⟨hk1, hk2, hn⟩ hself
  rw [pw_of (z := 12) (by omega) (by omega), pw_of (z := k) (by omega) (by omega)]
  refine t_if (fun hc => ?_) (fun hc => ?_)
  · refine t_some ?_
    rw [hn, show k = 12 from by omega]
    rfl
  · rw [e_bit (by omega) (by omega)]
    refine t_let ?_
    refine t_let ?_
    refine hself _ _ ⟨by omega, by omega, ?_⟩ (by omega)
    rw [sZ_s hk1, hn]
theorem bits_b (v : Int) : 0 ≤ sS (q_in v) 12 ∧ sS (q_in v) 12 ≤ 12 := by
  have := sS_b (f := q_in v) (lo := 0) (hi := 1) (n := 12) (fun i _ _ => by rcases q_in_b v i with h | h <;> omega)
  omega
theorem c_bits {v : Int} (hv : 0 ≤ v ∧ v < 4096) : f_J6_bitCount_0f7a4 v = some (sS (q_in v) 12) := by
  have := pb_pc (n := v.toNat) (by omega)
  rw [pc_sum, ← pn_nat hv.1] at this
  exact this
/-- by how many panels of n a skater leads -/
def q_fst (P T N : Int → Int) (s n v : Int) : Int := if v = 0 then 0 else if sS (q_in v) 12 = n then b2 (q_rank (q_total (pS P 15 v) T N) (q_points (pS P 15 v) T N) (T 1) s = 0) else 0
theorem q_fst_b (P T N : Int → Int) (s n v : Int) : 0 ≤ q_fst P T N s n v ∧ q_fst P T N s n v ≤ 1 := by
  unfold q_fst
  have := b2_b (q_rank (q_total (pS P 15 v) T N) (q_points (pS P 15 v) T N) (T 1) s = 0)
  split
  · omega
  · split <;> omega
theorem c_wPn {e : Int} {M : jM} {T N : Int → Int} (hC : cE e M T N) (he : M 1 3 = e) {n : Int} (hn : jin n) : f_X9_wantPanelSize n M = some (if 1 ≤ n ∧ n ≤ T 2 then 0 else 1) := by
  have t2 := hC.2.1.2.2.1
  have hb := jin_b hn
  unfold f_X9_wantPanelSize
  rw [eK, he, hC.2.2.2.2.1, eC (kd_e hC.1), pw_of hb.1 hb.2, pw_of (z := 1) (by omega) (by omega), pw_of (z := T 2) (by omega) (by omega)]
  by_cases c : n < 1
  · rw [if_pos c, if_neg (by omega)]
  · rw [if_neg c]
    by_cases c2 : n ≤ T 2
    · rw [if_pos c2, if_pos (by omega)]
    · rw [if_neg c2, if_neg (by omega)]
set_option maxHeartbeats 1000000 in
theorem z_32 {M : jM} (hI : Inv M) {a1 a2 : Int} (j1 : jin a1) (j2 : jin a2) : jT (s_32 a1 a2 M) Inv := by
  obtain ⟨hC, hT, hN, hP, hR, hQ, hcP⟩ := inv_ctx hI
  have t0 := hT.1
  have t1 := hT.2.1
  have t2 := hT.2.2.1
  have t3 := hT.2.2.2.1
  have hb2 := jin_b j2
  have h1p : 1 ≤ 2 ^ (M 169 2).toNat := Nat.one_le_two_pow
  have h512 : 2 ^ (M 169 2).toNat ≤ 2 ^ 9 := Nat.pow_le_pow_right (by decide) (by omega)
  unfold s_32
  by_cases c1 : 0 ≤ a1 ∧ a1 < M 169 1
  · by_cases c2 : 1 ≤ a2 ∧ a2 ≤ M 169 2
    · have hvv : ∀ v : Int, 1 ≤ v → v < ((2 ^ (M 169 2).toNat : Nat) : Int) → cP (pS (P0 M) 15 v) (M 169) := fun v h0 h1 => by
        obtain ⟨pj, pj1, pj2⟩ := pan_bit (J := (M 169 2).toNat) (v := v.toNat) (by omega) (by omega)
        rw [← pn_nat (by omega)] at pj2
        exact cP_of hT hQ (v := v) (by omega) (show 0 ≤ pj ∧ pj < M 169 2 by omega) pj2
      have hzb : ∀ v : Int, 0 ≤ v → v ≤ 512 → 0 ≤ sZ (q_fst (P0 M) (M 169) (M 170) a1 a2) v ∧ sZ (q_fst (P0 M) (M 169) (M 170) a1 a2) v ≤ 512 := fun v h0 h1 => by
        have := sZ_b (f := q_fst (P0 M) (M 169) (M 170) a1 a2) (lo := 0) (hi := 1) h0 (fun i _ _ => q_fst_b _ _ _ _ _ _)
        omega
      have hz1 : sZ (q_fst (P0 M) (M 169) (M 170) a1 a2) 1 = 0 := by
        rw [show (1 : Int) = 0 + 1 from rfl, sZ_s (by omega), sZ_0]
        have : q_fst (P0 M) (M 169) (M 170) a1 a2 0 = 0 := if_pos rfl
        omega
      have hfb := hzb ((2 ^ (M 169 2).toNat : Nat) : Int) (by omega) (by omega)
      refine stQ hI (code := 0) (val := sZ (q_fst (P0 M) (M 169) (M 170) a1 a2) ((2 ^ (M 169 2).toNat : Nat) : Int)) (by omega) (fun _ => by omega) ?_ (fun M3 h8 => ?_)
      · unfold w_firsts f_X9_firsts
        obtain ⟨M4, e4, u1, u2, u3⟩ := c_weighAll hC hQ
        have hlp : jT (jlp3 (fun (self11 : Int → Int → jM → Option (Int × Int × jM)) (l3_8 : Int) (l4_9 : Int) (M10 : jM) =>
    jbR (f_X9_everyJudge M10) fun v13 =>
    if jw v13 < jw l4_9 then (
      some (0, l3_8, M10))
    else (
      jbR (f_J6_bitCount_0f7a4 l4_9) fun v15 =>
      if jw v15 = jw a2 then (
        jbW (f_X7_leadsBy a1 l4_9 M10) fun v19 M18 =>
        if jw v19 = 0 then (
          jlet (l4_9 + 1) fun l4_20 =>
          self11 l3_8 l4_20 M18)
        else (
          jlet (l3_8 + 1) fun l3_21 =>
          jlet (l4_9 + 1) fun l4_22 =>
          self11 l3_21 l4_22 M18))
      else (
        jlet (l4_9 + 1) fun l4_16 =>
        self11 l3_8 l4_16 M10))) jfuel 0 1 M4) (fun r => r.1 = 0 ∧ r.2.1 = sZ (q_fst (P0 M) (M 169) (M 170) a1 a2) ((2 ^ (M 169 2).toNat : Nat) : Int) ∧ fr7 (M 1 3) M r.2.2) := by
          refine t_lp3 (fun n v M5 => 1 ≤ v ∧ v ≤ ((2 ^ (M 169 2).toNat : Nat) : Int) ∧ n = sZ (q_fst (P0 M) (M 169) (M 170) a1 a2) v ∧ fr7 (M 1 3) M M5 ∧ aW (M 1 3) M5 (P0 M) (M 169) (M 170)) (fun _ v _ => (((2 ^ (M 169 2).toNat : Nat) : Int) - v).toNat) ?_ jfuel 0 1 M4 (by rw [jfuel_eq]; omega) ⟨by omega, by omega, hz1.symm, u1, u2⟩
          rintro self n v M5 ⟨hv1, hv2, hn, hf5, hw5⟩ hself
          have hC5 := cE_fr hC hf5
          have e13 : M5 1 3 = M 1 3 := by rw [hf5 1 (by omega) (by have := hC.1; omega)]
          refine t_Re (c_evJ hC5 e13) ?_
          rw [pw_of (z := ((2 ^ (M 169 2).toNat - 1 : Nat) : Int)) (by omega) (by omega), pw_of (z := v) (by omega) (by omega)]
          refine t_if (fun hc => ?_) (fun hc => ?_)
          · exact t_some ⟨rfl, by show n = _; rw [hn, show v = ((2 ^ (M 169 2).toNat : Nat) : Int) from by omega], hf5⟩
          · have hsz := sZ_s (f := q_fst (P0 M) (M 169) (M 170) a1 a2) (z := v) (by omega)
            have hbb := bits_b v
            refine t_Re (c_bits (by omega)) ?_
            rw [pw_of (z := sS (q_in v) 12) (by omega) (by omega), pw_of hb2.1 hb2.2]
            refine t_if (fun c3 => ?_) (fun c3 => ?_)
            · refine t_W (t_mono (c_leads hC5 hQ hw5 (hvv v hv1 (by omega)) c1) (fun p hp => ?_))
              obtain ⟨q1, q2, q3⟩ := hp
              have hfs : q_fst (P0 M) (M 169) (M 170) a1 a2 v = p.1 := by
                unfold q_fst
                rw [if_neg (by omega), if_pos c3, q1]
              have hpb := q_fst_b (P0 M) (M 169) (M 170) a1 a2 v
              rw [hfs] at hpb
              rw [pw_of (z := p.1) (by omega) (by omega)]
              refine t_if (fun c4 => ?_) (fun c4 => ?_)
              · refine t_let ?_
                refine hself _ _ _ ⟨by omega, by omega, ?_, fr7_t hf5 q2, q3⟩ (by omega)
                rw [hsz, hfs, c4, hn]; omega
              · refine t_let ?_
                refine t_let ?_
                refine hself _ _ _ ⟨by omega, by omega, ?_, fr7_t hf5 q2, q3⟩ (by omega)
                rw [hsz, hfs, hn]; omega
            · refine t_let ?_
              have hfs : q_fst (P0 M) (M 169) (M 170) a1 a2 v = 0 := by
                unfold q_fst
                rw [if_neg (by omega), if_neg c3]
              refine hself _ _ _ ⟨by omega, by omega, ?_, hf5, hw5⟩ (by omega)
              rw [hsz, hfs, hn]; omega
        obtain ⟨⟨c, w, M5⟩, e5, y1, y2, y3⟩ := hlp
        dsimp only at y1 y2 y3
        subst y1
        rw [c_wSk0 hC rfl c1, eR, if_pos rfl, c_wPn hC rfl j2, eR, if_pos c2, if_pos rfl, eC (kd_e hC.1), e4, eV, e5, eT3, if_pos rfl]
        exact wQ0 y2 (by omega) (fr8_7 hC.1 y3)
      · obtain ⟨r6, r9, r0⟩ := ref_A h8
        obtain ⟨b9, b0, b6⟩ := ref_B hP h8
        unfold f_X10_firsts
        refine t_let ?_
        refine t_Ve (e_all (by rw [b9]; exact hT)) ?_
        refine t_We (e_noSk0 (by rw [r9]; exact hT) (by rw [r9]; exact c1)) (t_pos (by decide) ?_)
        rw [r9, pw_of (z := 2) (by omega) (by omega)]
        refine t_ck (by omega) ?_
        refine t_Re (e_in hb2 (by omega) (by omega)) ?_
        refine t_k ?_
        rw [b2_t c2]
        refine t_neg (by decide) ?_
        refine t_We (e_thr0 _ _) (t_pos (by decide) ?_)
        have p0 := hQ.1.1
        refine t_lp3 (fun n v M5 => 1 ≤ v ∧ v ≤ ((2 ^ (M 169 2).toNat : Nat) : Int) ∧ n = sZ (q_fst (P0 M) (M 169) (M 170) a1 a2) v ∧ frX M3 M5 ∧ M5 166 0 = 0 ∧ (∃ w, (0 ≤ w ∧ w ≤ 511) ∧ M5 166 = pS (P0 M) 15 w) ∧ M5 169 = M 169 ∧ M5 170 = M 170) (fun _ v _ => (((2 ^ (M 169 2).toNat : Nat) : Int) - v).toNat) ?_ jfuel 0 1 _ (by rw [jfuel_eq]; omega) ⟨by omega, by omega, hz1.symm, frX_0A M3, mA_0 M3, ⟨P0 M 15, p0, by rw [pS_self]; exact r6⟩, r9, r0⟩
        rintro self n v M5 ⟨hv1, hv2, hn, hx, hx0, ⟨w, hwb, hw⟩, f9, f0⟩ hself
        have hsl := pb_sl (M 169 2).toNat (by omega)
        rw [← pn_nat (by omega)] at hsl
        rw [f9, hsl, pw_of (z := ((2 ^ (M 169 2).toNat : Nat) : Int)) (by omega) (by omega), pw_of (z := v) (by omega) (by omega)]
        refine t_ck (by omega) ?_
        refine t_if (fun hc => ?_) (fun hc => ?_)
        · refine rQ hx0 (fun _ => ?_) hx (by rw [hw]; exact pS_15 hQ hwb)
          rw [hn, show v = ((2 ^ (M 169 2).toNat : Nat) : Int) from by omega]
        · have hsz := sZ_s (f := q_fst (P0 M) (M 169) (M 170) a1 a2) (z := v) (by omega)
          have hbb := bits_b v
          refine t_Re (e_bits (by omega)) ?_
          rw [pw_of (z := sS (q_in v) 12) (by omega) (by omega), pw_of hb2.1 hb2.2]
          refine t_if (fun c3 => ?_) (fun c3 => ?_)
          · refine t_let ?_
            refine t_V (t_mono (ref_lays (P := pS (P0 M) 15 v) (by rw [pS_jst hw, pS_pS]) (by rw [pst_f (by decide)]; exact f9) (by rw [pst_f (by decide)]; exact f0) hT hN hR (hvv v hv1 (by omega))) (fun M6 h6 => ?_))
            obtain ⟨g1, g2, g3, g4, g5, g6, g7⟩ := h6
            refine t_Re (e_rank (by rw [g3]; exact hT) g5 (by rw [g3]; exact c1)) ?_
            have hrk : q_rank (M6 175) (M6 176) (M6 169 1) a1 = q_rank (q_total (pS (P0 M) 15 v) (M 169) (M 170)) (q_points (pS (P0 M) 15 v) (M 169) (M 170)) (M 169 1) a1 := by
              rw [g3]; exact q_rank_congr c1 g6 g7
            rw [hrk]
            have hrb := q_rank_b (tot := q_total (pS (P0 M) 15 v) (M 169) (M 170)) (pts := q_points (pS (P0 M) 15 v) (M 169) (M 170)) (n := M 169 1) (s := a1) (by omega)
            rw [pw_of (z := q_rank (q_total (pS (P0 M) 15 v) (M 169) (M 170)) (q_points (pS (P0 M) 15 v) (M 169) (M 170)) (M 169 1) a1) (by omega) (by omega)]
            have hfs : q_fst (P0 M) (M 169) (M 170) a1 a2 v = b2 (q_rank (q_total (pS (P0 M) 15 v) (M 169) (M 170)) (q_points (pS (P0 M) 15 v) (M 169) (M 170)) (M 169 1) a1 = 0) := by
              unfold q_fst
              rw [if_neg (by omega), if_pos c3]
            have x1 : frX M3 M6 := frX_t (frX_j hx (by decide)) (frX_I6 g1)
            have x2 : M6 166 0 = 0 := by rw [g1 166 (by decide), pst_i (by decide)]; exact hx0
            refine t_k ?_
            refine t_if (fun c4 => ?_) (fun c4 => ?_)
            · refine t_let ?_
              refine t_let ?_
              refine hself _ _ _ ⟨by omega, by omega, ?_, x1, x2, ⟨v, by omega, g2⟩, g3, g4⟩ (by omega)
              rw [hsz, hfs, hn, b2_t c4]
            · refine t_let ?_
              refine t_let ?_
              refine hself _ _ _ ⟨by omega, by omega, ?_, x1, x2, ⟨v, by omega, g2⟩, g3, g4⟩ (by omega)
              rw [hsz, hfs, hn, b2_f c4]
          · refine t_let ?_
            have hfs : q_fst (P0 M) (M 169) (M 170) a1 a2 v = 0 := by
              unfold q_fst
              rw [if_neg (by omega), if_neg c3]
            refine hself _ _ _ ⟨by omega, by omega, ?_, hx, hx0, ⟨w, hwb, hw⟩, f9, f0⟩ (by omega)
            rw [hsz, hfs, hn]; omega
    · refine stQ hI (code := 2) (val := 0) (by omega) (fun h => by omega) ?_ (fun M3 h8 => ?_)
      · unfold w_firsts f_X9_firsts
        rw [c_wSk0 hC rfl c1, eR, if_pos rfl, c_wPn hC rfl j2, eR, if_neg c2, if_neg (by decide), eT3, if_neg (by decide), if_neg (by decide), if_pos rfl]
        exact wQ1 (by decide) (fr8_r M)
      · obtain ⟨r6, r9, r0⟩ := ref_A h8
        obtain ⟨b9, b0, b6⟩ := ref_B hP h8
        unfold f_X10_firsts
        refine t_let ?_
        refine t_Ve (e_all (by rw [b9]; exact hT)) ?_
        refine t_We (e_noSk0 (by rw [r9]; exact hT) (by rw [r9]; exact c1)) (t_pos (by decide) ?_)
        rw [r9, pw_of (z := 2) (by omega) (by omega)]
        refine t_ck (by omega) ?_
        refine t_Re (e_in hb2 (by omega) (by omega)) ?_
        refine t_k ?_
        rw [b2_f c2]
        refine t_pos (by decide) ?_
        refine t_We (e_thr1 _ _) (t_neg (by decide) ?_)
        exact rQt (by decide) (frX_0A M3) (by rw [r6]; exact hcP.1)
  · refine stQ hI (code := 1) (val := 0) (by omega) (fun h => by omega) ?_ (fun M3 h8 => ?_)
    · unfold w_firsts f_X9_firsts
      rw [c_wSk1 hC rfl j1 c1, eR, if_neg (by decide), eT3, if_neg (by decide), if_pos rfl]
      exact wQ1 (by decide) (fr8_r M)
    · obtain ⟨r6, r9, r0⟩ := ref_A h8
      obtain ⟨b9, b0, b6⟩ := ref_B hP h8
      unfold f_X10_firsts
      refine t_let ?_
      refine t_Ve (e_all (by rw [b9]; exact hT)) ?_
      refine t_We (e_noSk1 (by rw [r9]; exact hT) (jin_b j1) (by rw [r9]; exact c1)) (t_neg (by decide) ?_)
      exact rQt (by decide) (frX_0A M3) (by rw [r6]; exact hcP.1)
