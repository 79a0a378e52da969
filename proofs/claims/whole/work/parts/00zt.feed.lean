/-! ===== feed ===== -/
theorem b8_mod {a b : Int} (h : a % 256 = b % 256) : jb8 a = jb8 b := by
  unfold jb8 Int.bmod
  rw [show ((256 : Nat) : Int) = 256 from rfl, h]
theorem b8_b8 (a : Int) : jb8 (jb8 a) = jb8 a := by
  unfold jb8
  exact Int.bmod_bmod
theorem bv_mod (X : BitVec 32) : X.toInt % 256 = ((X.toNat % 256 : Nat) : Int) := by
  rw [BitVec.toInt_eq_toNat_cond]
  have := X.isLt
  split <;> omega
theorem sh_cnt : ∀ s, s < 32 → ((Int32.ofInt ((s : Nat) : Int) &&& 31).toBitVec.smod 32).toNat = s := pb_cnt
theorem pb_byte (x : Int) {s : Nat} (hs : s ≤ 24) : jb8 (jsr x (s : Int)) = jb8 (jnd (jus x (s : Int)) 255) ∧ 0 ≤ jnd (jus x (s : Int)) 255 ∧ jnd (jus x (s : Int)) 255 ≤ 255 := by
  have hU : (Int32.ofInt (jus x (s : Int))).toBitVec = (Int32.ofInt x).toBitVec >>> s := by
    unfold jus
    rw [Int32.ofInt_toInt]
    show ((Int32.ofInt x).toUInt32 >>> ((Int32.ofInt (s : Int)).toUInt32 &&& Int32.toUInt32 31)).toBitVec = _
    rw [UInt32.toBitVec_shiftRight]
    show ((Int32.ofInt x).toBitVec >>> _) = _
    rw [BitVec.ushiftRight_eq', pb_cntu s (by omega)]
  have h255 : (Int32.ofInt 255).toBitVec = BitVec.ofNat 32 255 := pb_tb 255
  have hA : jnd (jus x (s : Int)) 255 = (((((Int32.ofInt x).toBitVec >>> s).toNat % 256 : Nat)) : Int) := by
    unfold jnd
    apply pb_toInt
    · rw [Int32.toBitVec_and, hU, h255]
      apply BitVec.eq_of_toNat_eq
      rw [BitVec.toNat_and, BitVec.toNat_ofNat, BitVec.toNat_ofNat, Nat.mod_eq_of_lt (show 255 < 2 ^ 32 by decide), Nat.and_two_pow_sub_one_eq_mod _ 8]
      exact (Nat.mod_eq_of_lt (by have := Nat.mod_lt ((Int32.ofInt x).toBitVec >>> s).toNat (show 2 ^ 8 > 0 by decide); omega)).symm
    · have := Nat.mod_lt ((Int32.ofInt x).toBitVec >>> s).toNat (show 256 > 0 by decide)
      omega
  have hlt := Nat.mod_lt ((Int32.ofInt x).toBitVec >>> s).toNat (show 256 > 0 by decide)
  refine ⟨?_, by rw [hA]; omega, by rw [hA]; omega⟩
  apply b8_mod
  rw [hA]
  have hS : jsr x (s : Int) = ((Int32.ofInt x).toBitVec.sshiftRight s).toInt := by
    unfold jsr
    show ((Int32.ofInt x) >>> (Int32.ofInt (s : Int) &&& 31)).toBitVec.toInt = _
    rw [Int32.toBitVec_shiftRight, BitVec.sshiftRight_eq', sh_cnt s (by omega)]
  rw [hS, bv_mod]
  have key : ((Int32.ofInt x).toBitVec.sshiftRight s).toNat % 2 ^ 8 = ((Int32.ofInt x).toBitVec >>> s).toNat % 2 ^ 8 := by
    apply Nat.eq_of_testBit_eq
    intro i
    rw [Nat.testBit_mod_two_pow, Nat.testBit_mod_two_pow]
    by_cases hi : i < 8
    · rw [decide_eq_true hi, Bool.true_and, Bool.true_and]
      have e1 : ((Int32.ofInt x).toBitVec.sshiftRight s).toNat.testBit i = ((Int32.ofInt x).toBitVec.sshiftRight s).getLsbD i := rfl
      have e2 : ((Int32.ofInt x).toBitVec >>> s).toNat.testBit i = ((Int32.ofInt x).toBitVec >>> s).getLsbD i := rfl
      rw [e1, e2, BitVec.getLsbD_sshiftRight, BitVec.getLsbD_ushiftRight]
      have hb : s + i < 32 := by omega
      simp [hb]
      omega
    · rw [decide_eq_false hi]; rfl
  have e256 : (256 : Nat) = 2 ^ 8 := rfl
  rw [e256, key]
  omega
/-- the byte k of a number -/
def q_by (x k : Int) : Int := jnd (jus x (24 - 8 * k)) 255
theorem q_by_b {x k : Int} (hk : 0 ≤ k ∧ k < 4) : jb8 (jb8 (jsr x (24 - 8 * k))) = jb8 (q_by x k) ∧ 0 ≤ q_by x k ∧ q_by x k ≤ 255 := by
  have := pb_byte x (s := (24 - 8 * k).toNat) (by omega)
  rw [← pn_nat (by omega)] at this
  rw [b8_b8]
  exact this
theorem c_tape {M : jM} {x : Int} (h : 0 ≤ M 1 1 ∧ M 1 1 + 4 ≤ 600) : jT (f_X9_tapeNumber x M) (fun M' => (∀ a, a ≠ 1 → a ≠ 2 → M' a = M a) ∧ (∀ j, j ≠ 1 → M' 1 j = M 1 j) ∧ M' 1 1 = M 1 1 + 4 ∧ (∀ i, i < M 1 1 ∨ M 1 1 + 4 ≤ i → M' 2 i = M 2 i) ∧ ∀ k, 0 ≤ k → k < 4 → M' 2 (M 1 1 + k) = q_by x k) := by
  unfold f_X9_tapeNumber
  refine t_lp2 (fun s M2 => ∃ m, 0 ≤ m ∧ m ≤ 4 ∧ s = 24 - 8 * m ∧ (∀ a, a ≠ 1 → a ≠ 2 → M2 a = M a) ∧ (∀ j, j ≠ 1 → M2 1 j = M 1 j) ∧ M2 1 1 = M 1 1 + m ∧ (∀ i, i < M 1 1 ∨ M 1 1 + 4 ≤ i → M2 2 i = M 2 i) ∧ ∀ k, 0 ≤ k → k < m → M2 2 (M 1 1 + k) = q_by x k) (fun s _ => (s + 8).toNat) ?_ jfuel 24 M (by rw [jfuel_eq]; omega) ⟨0, by omega, by omega, by omega, fun _ _ _ => rfl, fun _ _ => rfl, by omega, fun _ _ => rfl, fun k q0 q1 => by omega⟩
  rintro self s M2 ⟨m, hm1, hm2, hs, f1, f2, f3, f4, f5⟩ hself
  rw [pw_of (z := s) (by omega) (by omega)]
  refine t_if (fun c => ?_) (fun c => ?_)
  · have em : m = 4 := by omega
    subst em
    exact t_some ⟨f1, f2, f3, f4, f5⟩
  · rw [f3, pw_of (z := 600) (by omega) (by omega), pw_of (z := M 1 1 + m) (by omega) (by omega)]
    refine t_neg (by omega) ?_
    refine t_ck (by omega) ?_
    refine t_let ?_
    refine t_let ?_
    refine t_let ?_
    rw [pst_f (show (1 : Int) ≠ 2 by decide), f3]
    refine hself _ _ ⟨m + 1, by omega, by omega, by omega, fun a q0 q1 => by rw [pst_f q0, pst_f q1]; exact f1 a q0 q1, fun j hj => by rw [pst_i hj, pst_f (by decide)]; exact f2 j hj, by rw [pst_s]; omega, fun i hi => by rw [pst_f (by decide), pst_i (by omega)]; exact f4 i hi, fun k q0 q1 => ?_⟩ (by omega)
    rw [pst_f (by decide)]
    by_cases ck : k = m
    · subst ck
      rw [pst_s, hs]
      rfl
    · rw [pst_i (by omega)]
      exact f5 k q0 (by omega)
def q_five (a1 a2 a3 a4 a5 k : Int) : Int := if k < 4 then q_by a1 k else if k < 8 then q_by a2 (k - 4) else if k < 12 then q_by a3 (k - 8) else if k < 16 then q_by a4 (k - 12) else q_by a5 (k - 16)
/-- feed -/
theorem z_0 {M : jM} (hI : Inv M) {a1 a2 a3 a4 a5 : Int} : jT (s_0 a1 a2 a3 a4 a5 M) Inv := by
  obtain ⟨x1, x2, x3, x4⟩ := hI.1
  unfold s_0
  by_cases c : M 1 1 + 20 ≤ 600
  · have hcf : jT (f_X9_feed a1 a2 a3 a4 a5 M) (fun p => p.1 = M 1 1 + 20 ∧ (∀ a, a ≠ 1 → a ≠ 2 → p.2 a = M a) ∧ (∀ j, j ≠ 1 → p.2 1 j = M 1 j) ∧ p.2 1 1 = M 1 1 + 20 ∧ (∀ i, i < M 1 1 → p.2 2 i = M 2 i) ∧ ∀ k, 0 ≤ k → k < 20 → p.2 2 (M 1 1 + k) = q_five a1 a2 a3 a4 a5 k) := by
      unfold f_X9_feed
      rw [pw_of (z := M 1 1 + 20) (by omega) (by omega), pw_of (z := 600) (by omega) (by omega)]
      refine t_pos c ?_
      refine t_V (t_mono (c_tape (by omega)) (fun M2 h2 => ?_))
      obtain ⟨p1, p2, p3, p4, p5⟩ := h2
      refine t_V (t_mono (c_tape (by omega)) (fun M4 h4 => ?_))
      obtain ⟨q1, q2, q3, q4, q5⟩ := h4
      refine t_V (t_mono (c_tape (by omega)) (fun M6 h6 => ?_))
      obtain ⟨r1, r2, r3, r4, r5⟩ := h6
      refine t_V (t_mono (c_tape (by omega)) (fun M8 h8 => ?_))
      obtain ⟨s1, s2, s3, s4, s5⟩ := h8
      refine t_V (t_mono (c_tape (by omega)) (fun M10 h10 => ?_))
      obtain ⟨u1, u2, u3, u4, u5⟩ := h10
      refine t_some ⟨by show M10 1 1 = _; omega, fun a y0 y1 => ?_, fun j hj => ?_, by show M10 1 1 = _; omega, fun i hi => ?_, fun k k0 k1 => ?_⟩
      · show M10 a = _
        rw [u1 a y0 y1, s1 a y0 y1, r1 a y0 y1, q1 a y0 y1, p1 a y0 y1]
      · show M10 1 j = _
        rw [u2 j hj, s2 j hj, r2 j hj, q2 j hj, p2 j hj]
      · show M10 2 i = _
        rw [u4 i (by omega), s4 i (by omega), r4 i (by omega), q4 i (by omega), p4 i (by omega)]
      · show M10 2 (M 1 1 + k) = _
        unfold q_five
        by_cases k4 : k < 4
        · rw [if_pos k4, u4 _ (by omega), s4 _ (by omega), r4 _ (by omega), q4 _ (by omega)]
          exact p5 k k0 k4
        rw [if_neg k4]
        by_cases k8 : k < 8
        · rw [if_pos k8, u4 _ (by omega), s4 _ (by omega), r4 _ (by omega), show M 1 1 + k = M2 1 1 + (k - 4) from by omega]
          exact q5 (k - 4) (by omega) (by omega)
        rw [if_neg k8]
        by_cases k12 : k < 12
        · rw [if_pos k12, u4 _ (by omega), s4 _ (by omega), show M 1 1 + k = M4 1 1 + (k - 8) from by omega]
          exact r5 (k - 8) (by omega) (by omega)
        rw [if_neg k12]
        by_cases k16 : k < 16
        · rw [if_pos k16, u4 _ (by omega), show M 1 1 + k = M6 1 1 + (k - 12) from by omega]
          exact s5 (k - 12) (by omega) (by omega)
        · rw [if_neg k16, show M 1 1 + k = M8 1 1 + (k - 16) from by omega]
          exact u5 (k - 16) (by omega) (by omega)
    refine t_W (t_mono hcf (fun p hp => ?_))
    obtain ⟨v1, v2, v3, v4, v5, v6⟩ := hp
    have h66 : p.2 166 = M 166 := v2 166 (by decide) (by decide)
    have hrf : jT (f_X10_feed a1 a2 a3 a4 a5 p.2) (fun q => q.1 = M 1 1 + 20 ∧ (∀ a, a ≠ 166 → a ≠ 167 → a ≠ 168 → q.2 a = p.2 a) ∧ (∀ j, j ≠ 0 → j ≠ 2 → q.2 166 j = M 166 j) ∧ q.2 166 2 = M 1 1 + 20 ∧ (∀ i, i < M 1 1 → q.2 167 i = M 167 i) ∧ ∀ k, 0 ≤ k → k < 20 → q.2 167 (M 1 1 + k) = jb8 (q_five a1 a2 a3 a4 a5 k)) := by
      unfold f_X10_feed
      refine t_let ?_
      rw [pst_i (show (2 : Int) ≠ 0 by decide), h66, x3, pw_of (z := M 1 1 + 20) (by omega) (by omega), pw_of (z := 600) (by omega) (by omega)]
      refine t_pos c ?_
      rw [pw_of (z := 0) (by omega) (by omega), pw_of (z := 1) (by omega) (by omega), pw_of (z := 2) (by omega) (by omega), pw_of (z := 3) (by omega) (by omega), pw_of (z := 4) (by omega) (by omega)]
      refine t_ck (by omega) ?_
      refine t_let ?_
      refine t_ck (by omega) ?_
      refine t_let ?_
      refine t_ck (by omega) ?_
      refine t_let ?_
      refine t_ck (by omega) ?_
      refine t_let ?_
      refine t_ck (by omega) ?_
      refine t_let ?_
      generalize hM11 : jst (jst (jst (jst (jst (jst p.2 166 0 0) 168 0 a1) 168 1 a2) 168 2 a3) 168 3 a4) 168 4 a5 = M11
      have g0 : M11 168 0 = a1 := by rw [← hM11, pst_i (by decide), pst_i (by decide), pst_i (by decide), pst_i (by decide), pst_s]
      have g1 : M11 168 1 = a2 := by rw [← hM11, pst_i (by decide), pst_i (by decide), pst_i (by decide), pst_s]
      have g2 : M11 168 2 = a3 := by rw [← hM11, pst_i (by decide), pst_i (by decide), pst_s]
      have g3 : M11 168 3 = a4 := by rw [← hM11, pst_i (by decide), pst_s]
      have g4 : M11 168 4 = a5 := by rw [← hM11, pst_s]
      have gf : ∀ a, a ≠ 166 → a ≠ 168 → M11 a = p.2 a := fun a y0 y1 => by rw [← hM11, pst_f y1, pst_f y1, pst_f y1, pst_f y1, pst_f y1, pst_f y0]
      have g6 : ∀ j, j ≠ 0 → M11 166 j = M 166 j := fun j hj => by rw [← hM11, pst_f (by decide), pst_f (by decide), pst_f (by decide), pst_f (by decide), pst_f (by decide), pst_i hj, h66]
      refine t_lp2 (fun k M13 => 0 ≤ k ∧ k ≤ 20 ∧ (∀ a, a ≠ 167 → M13 a = M11 a) ∧ (∀ i, i < M 1 1 → M13 167 i = M 167 i) ∧ ∀ i, 0 ≤ i → i < k → M13 167 (M 1 1 + i) = jb8 (q_five a1 a2 a3 a4 a5 i)) (fun k _ => (20 - k).toNat) ?_ jfuel 0 M11 (by rw [jfuel_eq]; omega) ⟨by omega, by omega, fun _ _ => rfl, fun i hi => by rw [gf 167 (by decide) (by decide), v2 167 (by decide) (by decide)], fun i y0 y1 => by omega⟩
      rintro self k M13 ⟨hk1, hk2, w1, w2, w3⟩ hself
      have e2 : M13 166 2 = M 1 1 := by rw [w1 166 (by decide), g6 2 (by decide)]; exact x3
      rw [pw_of (z := 20) (by omega) (by omega), pw_of (z := k) (by omega) (by omega)]
      refine t_if (fun hc => ?_) (fun hc => ?_)
      · refine t_let ?_
        have ek : k = 20 := by omega
        subst ek
        rw [e2]
        refine t_some ⟨by show jst M13 166 2 (M 1 1 + 20) 166 2 = _; rw [pst_s], fun a y0 y1 y2 => ?_, fun j y0 y1 => ?_, ?_, fun i hi => ?_, fun i y0 y1 => ?_⟩
        · show jst M13 166 2 (M 1 1 + 20) a = _
          rw [pst_f y0, w1 a y1, gf a y0 y2]
        · show jst M13 166 2 (M 1 1 + 20) 166 j = _
          rw [pst_i y1, w1 166 (by decide), g6 j y0]
        · show jst M13 166 2 (M 1 1 + 20) 166 2 = _
          rw [pst_s]
        · show jst M13 166 2 (M 1 1 + 20) 167 i = _
          rw [pst_f (by decide)]; exact w2 i hi
        · show jst M13 166 2 (M 1 1 + 20) 167 _ = _
          rw [pst_f (by decide)]; exact w3 i y0 y1
      · rw [Int.tdiv_eq_ediv_of_nonneg hk1, Int.tmod_eq_emod_of_nonneg hk1, pw_of (z := k / 4) (by omega) (by omega), e2, pw_of (z := M 1 1 + k) (by omega) (by omega), w1 168 (by decide)]
        refine t_ck (by omega) ?_
        refine t_ck (by omega) ?_
        refine t_let ?_
        refine t_let ?_
        refine hself _ _ ⟨by omega, by omega, fun a ha => by rw [pst_f ha]; exact w1 a ha, fun i hi => by rw [pst_i (by omega)]; exact w2 i hi, fun i y0 y1 => ?_⟩ (by omega)
        by_cases ci : i = k
        · subst ci
          rw [pst_s]
          unfold q_five
          by_cases k4 : i < 4
          · rw [if_pos k4, show i / 4 = 0 from by omega, g0, show i % 4 = i from by omega]
            exact (q_by_b (by omega)).1
          rw [if_neg k4]
          by_cases k8 : i < 8
          · rw [if_pos k8, show i / 4 = 1 from by omega, g1, show i % 4 = i - 4 from by omega]
            exact (q_by_b (by omega)).1
          rw [if_neg k8]
          by_cases k12 : i < 12
          · rw [if_pos k12, show i / 4 = 2 from by omega, g2, show i % 4 = i - 8 from by omega]
            exact (q_by_b (by omega)).1
          rw [if_neg k12]
          by_cases k16 : i < 16
          · rw [if_pos k16, show i / 4 = 3 from by omega, g3, show i % 4 = i - 12 from by omega]
            exact (q_by_b (by omega)).1
          · rw [if_neg k16, show i / 4 = 4 from by omega, g4, show i % 4 = i - 16 from by omega]
            exact (q_by_b (by omega)).1
        · rw [pst_i (by omega)]; exact w3 i y0 (by omega)
    refine t_W (t_mono hrf (fun q hq => ?_))
    obtain ⟨n1, n2, n3, n4, n5, n6⟩ := hq
    rw [v1, n1]
    refine t_ck rfl (t_some (Inv_tape hI (fun a y0 y1 y2 y3 y4 => by rw [n2 a y2 y3 y4]; exact v2 a y0 y1) (fun j hj => by rw [n2 1 (by decide) (by decide) (by decide)]; exact v3 j hj) n3 ?_))
    have e11 : q.2 1 1 = M 1 1 + 20 := by rw [n2 1 (by decide) (by decide) (by decide)]; exact v4
    refine ⟨by omega, by omega, by rw [n4, e11], fun i i0 i1 => ?_⟩
    rw [e11] at i1
    rw [n2 2 (by decide) (by decide) (by decide)]
    by_cases ci : i < M 1 1
    · rw [v5 i ci, n5 i ci]
      exact x4 i i0 ci
    · have h1 := v6 (i - M 1 1) (by omega) (by omega)
      have h2 := n6 (i - M 1 1) (by omega) (by omega)
      rw [show M 1 1 + (i - M 1 1) = i from by omega] at h1 h2
      rw [h1, h2]
      refine ⟨?_, rfl⟩
      unfold q_five
      by_cases k4 : i - M 1 1 < 4
      · rw [if_pos k4]; exact (q_by_b (by omega)).2
      rw [if_neg k4]
      by_cases k8 : i - M 1 1 < 8
      · rw [if_pos k8]; exact (q_by_b (by omega)).2
      rw [if_neg k8]
      by_cases k12 : i - M 1 1 < 12
      · rw [if_pos k12]; exact (q_by_b (by omega)).2
      rw [if_neg k12]
      by_cases k16 : i - M 1 1 < 16
      · rw [if_pos k16]; exact (q_by_b (by omega)).2
      · rw [if_neg k16]; exact (q_by_b (by omega)).2
  · unfold f_X9_feed f_X10_feed
    rw [pw_of (z := M 1 1 + 20) (by omega) (by omega), pw_of (z := 600) (by omega) (by omega), if_neg c, eW, eL, pst_i (show (2 : Int) ≠ 0 by decide), x3, pw_of (z := M 1 1 + 20) (by omega) (by omega), if_neg c, eW]
    exact t_ck rfl (t_some (Inv_fr hI (frQ_0 M 0) (bP_0 hI.2.2.2.2.2.2)))
