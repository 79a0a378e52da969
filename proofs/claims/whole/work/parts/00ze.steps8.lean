/-! ===== bias, odd ===== -/
def q_bt (P T N : Int → Int) (j s k : Int) : Int := if q_is P T N s k = 0 then 0 else 100 * q_grade P N s k j - q_mean P T N s k
def q_bias (P T N : Int → Int) (j : Int) : Int := sZ (fun s => sZ (q_bt P T N j s) (T (116 + s))) (T 1)
theorem q_bt_z {P T N : Int → Int} (hP : bP P) (hT : bT T) (hN : bN N) (hJ : bJ P T) {j s k : Int} (hj : 0 ≤ j ∧ j < 9) (hs : 0 ≤ s ∧ s < 6) (hk : 0 ≤ k ∧ k ≤ 12) : -12000 ≤ sZ (q_bt P T N j s) k ∧ sZ (q_bt P T N j s) k ≤ 12000 := by
  have := sZ_b (f := q_bt P T N j s) (lo := -1000) (hi := 1000) hk.1 (fun i h0 h1 => by
    have h2 := q_grade_b hP hN hs (k := i) (by omega) hj
    have h3 := q_mean_b hP hT hN hJ hs (k := i) (by omega)
    unfold q_bt
    split <;> omega)
  omega
theorem q_bias_z {P T N : Int → Int} (hP : bP P) (hT : bT T) (hN : bN N) (hJ : bJ P T) {j s : Int} (hj : 0 ≤ j ∧ j < 9) (hs : 0 ≤ s ∧ s ≤ T 1) : -72000 ≤ sZ (fun s => sZ (q_bt P T N j s) (T (116 + s))) s ∧ sZ (fun s => sZ (q_bt P T N j s) (T (116 + s))) s ≤ 72000 := by
  have t1 := hT.2.1
  have := sZ_b (f := fun s => sZ (q_bt P T N j s) (T (116 + s))) (lo := -12000) (hi := 12000) hs.1 (fun i h0 h1 => by
    have tt := hT.2.2.2.2.2.2.1 i h0 (by omega)
    exact q_bt_z hP hT hN hJ hj (by omega) tt)
  omega
theorem q_bias_b {P T N : Int → Int} (hP : bP P) (hT : bT T) (hN : bN N) (hJ : bJ P T) {j : Int} (hj : 0 ≤ j ∧ j < 9) : -72000 ≤ q_bias P T N j ∧ q_bias P T N j ≤ 72000 :=
  q_bias_z hP hT hN hJ hj ⟨hT.2.1.1, Int.le_refl _⟩
theorem e_bias {M : jM} {P T N : Int → Int} {j : Int} (h6 : M 166 = P) (h9 : M 169 = T) (h0 : M 170 = N) (hT : bT T) (hN : bN N) (hcP : cP P T) (hj : 0 ≤ j ∧ j < 9) : jT (f_X10_biasOf j M) (fun p => p.1 = q_bias P T N j ∧ fr3 M p.2) := by
  have t1 := hT.2.1
  unfold f_X10_biasOf
  refine t_lp3 (fun n s M3 => 0 ≤ s ∧ s ≤ T 1 ∧ n = sZ (fun s => sZ (q_bt P T N j s) (T (116 + s))) s ∧ fr3 M M3) (fun _ s _ => (T 1 - s).toNat) ?_ jfuel 0 0 M (by rw [jfuel_eq]; omega) ⟨by omega, by omega, rfl, fun _ _ => rfl⟩
  rintro self n s M3 ⟨hs1, hs2, hn, hfr⟩ hself
  have e9 : M3 169 = T := by rw [hfr 169 (by decide)]; exact h9
  rw [e9, pw_of (z := 1) (by omega) (by omega), pw_of (z := T 1) (by omega) (by omega), pw_of (z := s) (by omega) (by omega)]
  refine t_ck (by omega) ?_
  refine t_if (fun hc => ?_) (fun hc => ?_)
  · refine t_some ⟨?_, hfr⟩
    show n = _
    rw [hn, show s = T 1 from by omega]
    rfl
  · have hs6 : 0 ≤ s ∧ s < 6 := by omega
    have tt := hT.2.2.2.2.2.2.1 s hs6.1 hs6.2
    have hsz := sZ_s (f := fun s => sZ (q_bt P T N j s) (T (116 + s))) hs1
    refine t_lp3 (fun m k M4 => 0 ≤ k ∧ k ≤ T (116 + s) ∧ m = n + sZ (q_bt P T N j s) k ∧ fr3 M M4) (fun _ k _ => (T (116 + s) - k).toNat) ?_ jfuel n 0 M3 (by rw [jfuel_eq]; omega) ⟨by omega, by omega, by rw [sZ_0]; omega, hfr⟩
    rintro self2 m k M4 ⟨hk1, hk2, hm, hfr4⟩ hself2
    have f9 : M4 169 = T := by rw [hfr4 169 (by decide)]; exact h9
    have f6 : M4 166 = P := by rw [hfr4 166 (by decide)]; exact h6
    have f0 : M4 170 = N := by rw [hfr4 170 (by decide)]; exact h0
    rw [f9, pw_of (z := 116 + s) (by omega) (by omega), pw_of (z := T (116 + s)) (by omega) (by omega), pw_of (z := k) (by omega) (by omega)]
    refine t_ck (by omega) ?_
    refine t_if (fun hc2 => ?_) (fun hc2 => ?_)
    · refine t_let ?_
      refine hself _ _ _ ⟨by omega, by omega, ?_, hfr4⟩ (by omega)
      rw [hsz, hm, hn, show k = T (116 + s) from by omega]
    · have hsk := sZ_s (f := q_bt P T N j s) hk1
      refine t_Re (e_is (by rw [f6]; exact hcP.1) (by rw [f9]; exact hT) (by rw [f0]; exact hN) hs6 (by omega)) ?_
      rw [f6, f9, f0]
      refine t_k ?_
      rcases q_is_b P T N s k with h | h
      · rw [h]
        refine t_pos (by decide) ?_
        refine t_let ?_
        refine t_let ?_
        refine hself2 _ _ _ ⟨by omega, by omega, ?_, hfr4⟩ (by omega)
        rw [hsk, hm]
        unfold q_bt
        rw [if_pos h]
        omega
      · rw [h]
        refine t_neg (by decide) ?_
        refine t_Re (e_grade (by rw [f6]; exact hcP.1) hs6 (by omega) hj) ?_
        refine t_W (t_mono (e_mean (by rw [f6]; exact hcP.1) (by rw [f9]; exact hT) (by rw [f0]; exact hN) (by rw [f6, f9]; exact hcP.2.1) hs6 (by omega)) (fun p hp => ?_))
        refine t_let ?_
        refine t_let ?_
        refine hself2 _ _ _ ⟨by omega, by omega, ?_, fun a ha => by rw [hp.2 a ha]; exact hfr4 a ha⟩ (by omega)
        rw [hsk, hm, hp.1, f6, f9, f0]
        have hbt : q_bt P T N j s k = 100 * q_grade P N s k j - q_mean P T N s k := by
          unfold q_bt
          rw [if_neg (by omega)]
        rw [hbt]
        omega
theorem c_lean {e j : Int} {M : jM} {P T N : Int → Int} (hC : cE e M T N) (hQ : cQ P T 600 0) (hW : aW e M P T N) (hj : 0 ≤ j ∧ j < T 2) : f_X7_leaning j M = some (q_bias P T N j) := by
  have hT := hC.2.1
  have hN := hC.2.2.1
  have hcP := cQ_cP hT hQ
  have t1 := hT.2.1
  have t2 := hT.2.2.1
  have hE := hC.2.2.2.2
  apply t_get
  unfold f_X7_leaning
  rw [hW.1]
  refine t_ck (kd_e hC.1) ?_
  refine t_Re (c_every (J := (T 2).toNat) (by rw [hE.1]; omega) (by omega)) ?_
  rw [← hQ.2.1]
  refine t_lp2 (fun n s => 0 ≤ s ∧ s ≤ T 1 ∧ n = sZ (fun s => sZ (q_bt P T N j s) (T (116 + s))) s) (fun _ s => (T 1 - s).toNat) ?_ jfuel 0 0 (by rw [jfuel_eq]; omega) ⟨by omega, by omega, rfl⟩
  rintro self n s ⟨hs1, hs2, hn⟩ hself
  refine t_Re (c_skaters hC hW.1) ?_
  rw [pw_of (z := T 1) (by omega) (by omega), pw_of (z := s) (by omega) (by omega)]
  refine t_if (fun hc => ?_) (fun hc => ?_)
  · refine t_some ?_
    rw [hn, show s = T 1 from by omega]
    rfl
  · have hs6 : 0 ≤ s ∧ s < 6 := by omega
    have tt := hT.2.2.2.2.2.2.1 s hs6.1 hs6.2
    have hsz := sZ_s (f := fun s => sZ (q_bt P T N j s) (T (116 + s))) hs1
    have sk := hE.2.2.2.2.2.2.2.2.2 s hs1 (by omega)
    refine t_ck (by omega) ?_
    refine t_lp2 (fun m k => 0 ≤ k ∧ k ≤ T (116 + s) ∧ m = n + sZ (q_bt P T N j s) k) (fun _ k => (T (116 + s) - k).toNat) ?_ jfuel n 0 (by rw [jfuel_eq]; omega) ⟨by omega, by omega, by rw [sZ_0]; omega⟩
    rintro self2 m k ⟨hk1, hk2, hm⟩ hself2
    rw [sk.1, pw_of (z := T (116 + s)) (by omega) (by omega), pw_of (z := k) (by omega) (by omega)]
    refine t_if (fun hc2 => ?_) (fun hc2 => ?_)
    · refine t_let ?_
      refine hself _ _ ⟨by omega, by omega, ?_⟩ (by omega)
      rw [hsz, hm, hn, show k = T (116 + s) from by omega]
    · have hsk := sZ_s (f := q_bt P T N j s) hk1
      have htm := hT.2.2.2.2.2.2.2.1 (12 * s + k) (by omega) (by omega)
      refine t_Re (c_has hT hN hs6 sk (by omega)) ?_
      by_cases cg : N (882 + (12 * s + k)) = 0
      · have hq : q_is P T N s k = 1 := by
          unfold q_is
          rw [hQ.2.2.1]
          exact b2_t ⟨hk1, by omega, cg, by omega⟩
        rw [b2_t ⟨hk1, by omega, cg⟩]
        refine t_neg (by decide) ?_
        refine t_Re rfl ?_
        rw [pw_of (z := k * 9 + j) (by omega) (by omega)]
        refine t_ck (by omega) ?_
        refine t_ck (by omega) ?_
        refine t_Re (c_gtrim hC ⟨hs1, by omega⟩ hcP hQ.2.2.2.2.1 (hW.2 s hs1 (by omega)) (by omega)) ?_
        refine t_let ?_
        refine t_let ?_
        refine hself2 _ _ ⟨by omega, by omega, ?_⟩ (by omega)
        have hbt : q_bt P T N j s k = 100 * N (9 * (12 * s + k) + j) - q_mean P T N s k := by
          unfold q_bt q_grade
          rw [if_neg (by omega), hQ.2.2.2.2.1, if_neg (by omega)]
        rw [hsk, hm, hbt, (sk.2.2.2.1 k hk1 (by omega)).2.2.2.2 j hj.1 hj.2]
        omega
      · have hq : q_is P T N s k = 0 := by
          unfold q_is
          exact b2_f (fun q => cg q.2.2.1)
        rw [b2_f (fun q => cg q.2.2)]
        refine t_pos (by decide) ?_
        refine t_let ?_
        refine hself2 _ _ ⟨by omega, by omega, ?_⟩ (by omega)
        have hbt : q_bt P T N j s k = 0 := by
          unfold q_bt
          rw [if_pos hq]
        rw [hsk, hm, hbt]
        omega
/-- bias -/
theorem z_22 {M : jM} (hI : Inv M) {a1 : Int} (j1 : jin a1) : jT (s_22 a1 M) Inv := by
  obtain ⟨hC, hT, hN, hP, hR, hQ, hcP⟩ := inv_ctx hI
  have t0 := hT.1
  have t1 := hT.2.1
  have t2 := hT.2.2.1
  have t3 := hT.2.2.2.1
  unfold s_22
  by_cases c1 : 0 ≤ a1 ∧ a1 < M 169 2
  · have hbb := q_bias_b hcP.1 hT hN hcP.2.1 (j := a1) (by omega)
    refine stQ hI (code := 0) (val := q_bias (P0 M) (M 169) (M 170) a1) (by omega) (fun _ => by omega) ?_ (fun M3 h8 => ?_)
    · unfold w_bias f_X9_bias
      obtain ⟨M4, e4, u1, u2, u3⟩ := c_weighAll hC hQ
      rw [c_wJu0 hC rfl c1, eR, if_pos rfl, eC (kd_e hC.1), e4, eV, c_lean (cE_fr hC u1) hQ u2 c1, eR, eT3, if_pos rfl]
      exact wQ0 rfl (by omega) (fr8_7 hC.1 u1)
    · obtain ⟨r6, r9, r0⟩ := ref_A h8
      obtain ⟨b9, b0, b6⟩ := ref_B hP h8
      unfold f_X10_bias
      refine t_let ?_
      refine t_Ve (e_all (by rw [b9]; exact hT)) ?_
      refine t_We (e_noJu0 (by rw [r9]; exact hT) (by rw [r9]; exact c1)) (t_pos (by decide) ?_)
      refine t_W (t_mono (e_bias r6 r9 r0 hT hN hcP (by omega)) (fun q hq => ?_))
      exact rQ (by rw [hq.2 166 (by decide)]; exact mA_0 M3) (fun _ => hq.1) (frX_t (frX_0A M3) (frX_3 hq.2)) (by rw [hq.2 166 (by decide), r6]; exact hcP.1)
  · refine stQ hI (code := 1) (val := 0) (by omega) (fun h => by omega) ?_ (fun M3 h8 => ?_)
    · unfold w_bias f_X9_bias
      rw [c_wJu1 hC rfl j1 c1, eR, if_neg (by decide), eT3, if_neg (by decide), if_pos rfl]
      exact wQ1 (by decide) (fr8_r M)
    · obtain ⟨r6, r9, r0⟩ := ref_A h8
      obtain ⟨b9, b0, b6⟩ := ref_B hP h8
      unfold f_X10_bias
      refine t_let ?_
      refine t_Ve (e_all (by rw [b9]; exact hT)) ?_
      refine t_We (e_noJu1 (by rw [r9]; exact hT) (jin_b j1) (by rw [r9]; exact c1)) (t_neg (by decide) ?_)
      exact rQt (by decide) (frX_0A M3) (by rw [r6]; exact hcP.1)
def iabs (v : Int) : Int := if 0 ≤ v then v else -v
theorem iabs_b {v b : Int} (h : -b ≤ v ∧ v ≤ b) : 0 ≤ iabs v ∧ iabs v ≤ b := by
  unfold iabs
  split <;> omega
/-- the first of the farthest -/
def q_far (f : Int → Int) : Nat → Int
  | 0 => 0
  | n + 1 => if iabs (f (q_far f n)) < iabs (f ((n : Int) + 1)) then (n : Int) + 1 else q_far f n
theorem q_far_b {f : Int → Int} : ∀ n : Nat, 0 ≤ q_far f n ∧ q_far f n ≤ n := by
  intro n
  induction n with
  | zero => exact ⟨Int.le_refl _, Int.le_refl _⟩
  | succ n ih => unfold q_far; split <;> omega
/-- odd -/
theorem z_23 {M : jM} (hI : Inv M) : jT (s_23 M) Inv := by
  obtain ⟨hC, hT, hN, hP, hR, hQ, hcP⟩ := inv_ctx hI
  have t0 := hT.1
  have t1 := hT.2.1
  have t2 := hT.2.2.1
  have t3 := hT.2.2.2.1
  unfold s_23
  have hbb : ∀ j : Int, 0 ≤ j → j < 9 → -72000 ≤ q_bias (P0 M) (M 169) (M 170) j ∧ q_bias (P0 M) (M 169) (M 170) j ≤ 72000 := fun j h0 h1 => q_bias_b hcP.1 hT hN hcP.2.1 ⟨h0, h1⟩
  have farS : ∀ j : Int, 1 ≤ j → q_far (q_bias (P0 M) (M 169) (M 170)) j.toNat = if iabs (q_bias (P0 M) (M 169) (M 170) (q_far (q_bias (P0 M) (M 169) (M 170)) (j - 1).toNat)) < iabs (q_bias (P0 M) (M 169) (M 170) j) then j else q_far (q_bias (P0 M) (M 169) (M 170)) (j - 1).toNat := fun j hj => by
    rw [show j.toNat = (j - 1).toNat + 1 from by omega]
    show (if iabs (q_bias (P0 M) (M 169) (M 170) (q_far (q_bias (P0 M) (M 169) (M 170)) (j - 1).toNat)) < iabs (q_bias (P0 M) (M 169) (M 170) ((((j - 1).toNat : Nat) : Int) + 1)) then (((j - 1).toNat : Nat) : Int) + 1 else q_far (q_bias (P0 M) (M 169) (M 170)) (j - 1).toNat) = _
    rw [show (((j - 1).toNat : Nat) : Int) + 1 = j from by omega]
  refine stW hI (val := q_far (q_bias (P0 M) (M 169) (M 170)) (M 169 2 - 1).toNat) ?_ (fun M3 h8 => ?_)
  · unfold f_X9_odd
    rw [eC (kd_e hC.1)]
    obtain ⟨M4, e4, u1, u2, u3⟩ := c_weighAll hC hQ
    have hC4 := cE_fr hC u1
    have hfl : f_X7_farthestLeaning M4 = some (q_far (q_bias (P0 M) (M 169) (M 170)) (M 169 2 - 1).toNat) := by
      apply t_get
      unfold f_X7_farthestLeaning
      refine t_lp3 (fun w m j => 0 ≤ j ∧ j ≤ M 169 2 ∧ (j = 0 ∧ w = 0 ∧ m = 0 ∨ 1 ≤ j ∧ w = q_far (q_bias (P0 M) (M 169) (M 170)) (j - 1).toNat ∧ m = iabs (q_bias (P0 M) (M 169) (M 170) w))) (fun _ _ j => (M 169 2 - j).toNat) ?_ jfuel 0 0 0 (by rw [jfuel_eq]; omega) ⟨by omega, by omega, Or.inl ⟨rfl, rfl, rfl⟩⟩
      rintro self w m j ⟨hj1, hj2, hwm⟩ hself
      rw [u2.1, hC4.2.2.2.2.1, pw_of (z := M 169 2) (by omega) (by omega), pw_of (z := j) (by omega) (by omega)]
      refine t_ck (kd_e hC.1) ?_
      refine t_if (fun hc => ?_) (fun hc => ?_)
      · refine t_some ?_
        rcases hwm with ⟨x1, x2, x3⟩ | ⟨x1, x2, x3⟩
        · omega
        · rw [x2, show j = M 169 2 from by omega]
      · refine t_Re (c_lean hC4 hQ u2 (by omega)) ?_
        have hb := hbb j hj1 (by omega)
        refine t_Re (e_abs (by omega)) ?_
        have hab : 0 ≤ iabs (q_bias (P0 M) (M 169) (M 170) j) ∧ iabs (q_bias (P0 M) (M 169) (M 170) j) ≤ 72000 := iabs_b hb
        have hmb : 0 ≤ m ∧ m ≤ 72000 := by
          rcases hwm with ⟨x1, x2, x3⟩ | ⟨x1, x2, x3⟩
          · omega
          · have := q_far_b (f := q_bias (P0 M) (M 169) (M 170)) (j - 1).toNat
            rw [x3]
            exact iabs_b (hbb w (by omega) (by omega))
        show jT (if jw (iabs (q_bias (P0 M) (M 169) (M 170) j)) ≤ jw m then _ else _) _
        rw [pw_of (z := iabs (q_bias (P0 M) (M 169) (M 170) j)) (by omega) (by omega), pw_of (z := m) (by omega) (by omega)]
        refine t_if (fun c3 => ?_) (fun c3 => ?_)
        · refine t_let ?_
          refine hself _ _ _ ⟨by omega, by omega, Or.inr ⟨by omega, ?_, ?_⟩⟩ (by omega)
          · rcases hwm with ⟨x1, x2, x3⟩ | ⟨x1, x2, x3⟩
            · subst x1; rw [x2]; rfl
            · rw [show j + 1 - 1 = j from by omega, farS j x1, ← x2, if_neg (by omega)]
          · rcases hwm with ⟨x1, x2, x3⟩ | ⟨x1, x2, x3⟩
            · subst x1; rw [x2]; omega
            · exact x3
        · refine t_let ?_
          refine hself _ _ _ ⟨by omega, by omega, Or.inr ⟨by omega, ?_, rfl⟩⟩ (by omega)
          rcases hwm with ⟨x1, x2, x3⟩ | ⟨x1, x2, x3⟩
          · subst x1; rfl
          · rw [show j + 1 - 1 = j from by omega, farS j x1, ← x2, if_pos (by omega)]
    rw [e4, eV, hfl, eR]
    exact t_some ⟨rfl, fr8_7 hC.1 u1⟩
  · obtain ⟨r6, r9, r0⟩ := ref_A h8
    obtain ⟨b9, b0, b6⟩ := ref_B hP h8
    unfold f_X10_odd
    refine t_let ?_
    refine t_Ve (e_all (by rw [b9]; exact hT)) ?_
    refine t_lp3 (fun w j M6 => 1 ≤ j ∧ j ≤ M 169 2 ∧ w = q_far (q_bias (P0 M) (M 169) (M 170)) (j - 1).toNat ∧ fr3 (mA (jst M3 166 0 0)) M6) (fun _ j _ => (M 169 2 - j).toNat) ?_ jfuel 0 1 _ (by rw [jfuel_eq]; omega) ⟨by omega, by omega, rfl, fun _ _ => rfl⟩
    rintro self w j M6 ⟨hj1, hj2, hw, hfr⟩ hself
    have f9 : M6 169 = M 169 := by rw [hfr 169 (by decide)]; exact r9
    have f6 : M6 166 = P0 M := by rw [hfr 166 (by decide)]; exact r6
    have f0 : M6 170 = M 170 := by rw [hfr 170 (by decide)]; exact r0
    have hwb := q_far_b (f := q_bias (P0 M) (M 169) (M 170)) (j - 1).toNat
    rw [f9, pw_of (z := 2) (by omega) (by omega), pw_of (z := M 169 2) (by omega) (by omega), pw_of (z := j) (by omega) (by omega)]
    refine t_ck (by omega) ?_
    refine t_if (fun hc => ?_) (fun hc => ?_)
    · refine t_some ⟨?_, frX_t (frX_0A M3) (frX_3 hfr), ?_⟩
      · show w = _
        rw [hw, show j = M 169 2 from by omega]
      · show bP (M6 166)
        rw [f6]
        exact hcP.1
    · refine t_W (t_mono (e_bias f6 f9 f0 hT hN hcP (by omega)) (fun q hq => ?_))
      have hb := hbb j (by omega) (by omega)
      rw [hq.1]
      refine t_Re (e_abs (by omega)) ?_
      refine t_W (t_mono (e_bias (by rw [hq.2 166 (by decide)]; exact f6) (by rw [hq.2 169 (by decide)]; exact f9) (by rw [hq.2 170 (by decide)]; exact f0) hT hN hcP (j := w) (by omega)) (fun p hp => ?_))
      have hb2 := hbb w (by omega) (by omega)
      rw [hp.1]
      refine t_Re (e_abs (by omega)) ?_
      refine t_k ?_
      have ha1 := iabs_b hb
      have ha2 := iabs_b hb2
      show jT (if jw (iabs (q_bias (P0 M) (M 169) (M 170) j)) ≤ jw (iabs (q_bias (P0 M) (M 169) (M 170) w)) then _ else _) _
      rw [pw_of (z := iabs (q_bias (P0 M) (M 169) (M 170) j)) (by omega) (by omega), pw_of (z := iabs (q_bias (P0 M) (M 169) (M 170) w)) (by omega) (by omega)]
      refine t_if (fun c3 => ?_) (fun c3 => ?_)
      · refine t_let ?_
        refine hself _ _ _ ⟨by omega, by omega, ?_, fun a ha => by rw [hp.2 a ha, hq.2 a ha]; exact hfr a ha⟩ (by omega)
        rw [show j + 1 - 1 = j from by omega, farS j hj1, ← hw, if_neg (by omega)]
      · refine t_let ?_
        refine hself _ _ _ ⟨by omega, by omega, ?_, fun a ha => by rw [hp.2 a ha, hq.2 a ha]; exact hfr a ha⟩ (by omega)
        rw [show j + 1 - 1 = j from by omega, farS j hj1, ← hw, if_pos (by omega)]
