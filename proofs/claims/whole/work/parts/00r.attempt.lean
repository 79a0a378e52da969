/-! ===== the program weighs an attempt: calls, late, worth ===== -/
theorem and7 : ∀ c, c < 8 → (jnd ((c : Nat) : Int) 1 = q_in (c : Int) 0) ∧ (jnd ((c : Nat) : Int) 2 = 2 * q_in (c : Int) 1) ∧ (jnd ((c : Nat) : Int) 4 = 4 * q_in (c : Int) 2) ∧ jnd ((c : Nat) : Int) 7 = c ∧ jnd ((c : Nat) : Int) 0 = 0 := by decide +kernel
theorem and7i {c : Int} (h : 0 ≤ c ∧ c ≤ 7) : jnd c 1 = q_in c 0 ∧ jnd c 2 = 2 * q_in c 1 ∧ jnd c 4 = 4 * q_in c 2 ∧ jnd c 7 = c ∧ jnd c 0 = 0 := by
  have := and7 c.toNat (by omega)
  rw [← pn_nat h.1] at this
  exact this
theorem q_in_or {n : Nat} {k : Int} (h : 0 ≤ k) : q_in ((n ||| 2 ^ k.toNat : Nat) : Int) k = 1 := by
  unfold q_in
  apply b2_t
  rw [Int.toNat_natCast, Nat.testBit_or, Nat.testBit_two_pow_self, Bool.or_true]
theorem q_in_lt {n : Nat} {k : Int} (h0 : 0 ≤ k) (h : n < 2 ^ k.toNat) : q_in (n : Int) k = 0 := q_in_hi h (by omega)
theorem c_isLate {t k : Int} {M : jM} {n : Nat} (h : M t 3 = (n : Int)) (hn : n < 4096) (hk : 0 ≤ k ∧ k < 12) : f_X8_isLate t k M = some (q_in (n : Int) k) := by
  unfold f_X8_isLate
  rw [h, e_bit (by omega) (by omega)]
  rcases q_in_b (n : Int) k with h | h <;> rw [h] <;> rfl
theorem c_bonus {t e k : Int} {M : jM} (ke : jkd e = 1) (m0 : M t 0 = e) (hk : 0 ≤ k ∧ k < 12) (hp : 0 ≤ M (t + 2) k ∧ M (t + 2) k ≤ 6000) (hl : 0 ≤ M (e + 1) 2 ∧ M (e + 1) 2 ≤ 50) : f_X8_bonusOf t k M = some (M (t + 2) k * M (e + 1) 2 / 100) := by
  have h3 := mul_bnd hp.1 hp.2 hl.1 hl.2
  unfold f_X8_bonusOf
  rw [m0, pw_of (z := k) (by omega) (by omega), eC (by omega), eC ke, pw_of (z := 2) (by omega) (by omega), eC (by omega), pw_of (z := M (t + 2) k * M (e + 1) 2) (by omega) (by omega), pw_of (z := 100) (by omega) (by omega), Int.tdiv_eq_ediv_of_nonneg h3.1]
theorem c_worth {t e k : Int} {M : jM} {n : Nat} (ke : jkd e = 1) (m0 : M t 0 = e) (h : M t 3 = (n : Int)) (hn : n < 4096) (hk : 0 ≤ k ∧ k < 12) (hp : 0 ≤ M (t + 2) k ∧ M (t + 2) k ≤ 6000) (hl : 0 ≤ M (e + 1) 2 ∧ M (e + 1) 2 ≤ 50) : f_X8_worthOf t k M = some (if q_in (n : Int) k = 0 then M (t + 2) k else M (t + 2) k + M (t + 2) k * M (e + 1) 2 / 100) := by
  unfold f_X8_worthOf
  rw [c_isLate h hn hk, eR, pw_of (z := k) (by omega) (by omega), c_bonus ke m0 hk hp hl, eR]
  rw [eC (by omega), eC (by omega)]
  rcases q_in_b (n : Int) k with h | h <;> rw [h] <;> rfl
theorem c_begins {t e g s k : Int} {M : jM} {T N : Int → Int} (hT : bT T) (hL : bL T) (hs : 0 ≤ s ∧ s < T 1) (hE : rE e M T N) (hg : e + 16 + 1 + 6 * s = g) (ke : jkd e = 1) (kg : jkd g = 6) (m0 : M t 0 = e) (m1 : M t 1 = g) (hk : 0 ≤ k ∧ k < T (116 + s)) : f_X8_beginsWithJump t k M = some (q_jump T (q_el T s k 0)) := by
  have t1 := hT.2.1
  have t0 := hT.1
  have tt := hT.2.2.2.2.2.2.1 s hs.1 (by omega)
  have hsk := hE.2.2.2.2.2.2.2.2.2 s hs.1 hs.2
  rw [hg] at hsk
  obtain ⟨y1, y2, y3, y4, y5⟩ := hsk.2.2.2.1 k hk.1 hk.2
  have hl := hL s k hs.1 hs.2 hk.1 hk.2
  have h0 := y3 0 (by omega) (by omega)
  have h1 := hl.2 0 (by omega) (by omega)
  have h2 := q_el_b hT (s := s) (k := k) (i := 0) (by omega) (by omega) (by omega)
  have e1 : M (g + 3) (k * 3) = q_el T s k 0 := by rw [Int.add_zero] at h0; exact h0
  have h1' : q_el T s k 0 < T 0 := h1
  have h3 := (hE.2.2.2.2.2.2.2.1 (q_el T s k 0) h2.1 h1').2
  have h4 := hT.2.2.2.2.1 (q_el T s k 0) (by omega) (by omega)
  unfold f_X8_beginsWithJump
  rw [m0, m1, eC ke, eC kg, pw_of (z := k * 3) (by omega) (by omega), e1, pw_of (z := q_el T s k 0) (by omega) (by omega), eC (by omega), eC (by omega), h3, pw_of (by omega) (by omega)]
  unfold q_jump b2
  split <;> rfl
/-- what one attempt brings to fact w -/
def q_inc2 (P T N : Int → Int) (s k w : Int) : Int := if w = 0 then q_in (q_calls P N s k) 2 else if w = 1 then 0 else if w = 2 then 1 else if w = 6 then q_late P T N s k else if w = 8 then q_in (q_calls P N s k) 0 else if w = 9 then q_in (q_calls P N s k) 1 else q_inc P T N s k w (q_many T s k)
def pWA (t s k : Int) (M : jM) (P T N : Int → Int) (M' : jM) : Prop :=
  (∀ a, a ≠ t → a ≠ t + 1 → a ≠ t + 2 → a ≠ t + 3 → a ≠ t + 4 → a ≠ t + 5 → M' a = M a)
  ∧ (∀ j, j ≠ 3 → j ≠ 4 → M' t j = M t j) ∧ (M' t 3 = if q_late P T N s k = 0 then M t 3 else (((M t 3).toNat ||| 2 ^ k.toNat : Nat) : Int)) ∧ M' t 4 = M t 4 + q_worth P T N s k
  ∧ M' (t + 1) k = ((q_or (q_struck P T N s k) (q_many T s k).toNat : Nat) : Int) ∧ (∀ j, j ≠ k → M' (t + 1) j = M (t + 1) j)
  ∧ M' (t + 2) k = q_plain P T N s k ∧ (∀ j, j ≠ k → M' (t + 2) j = M (t + 2) j)
  ∧ M' (t + 3) k = q_best P T N s k ∧ (∀ j, j ≠ k → M' (t + 3) j = M (t + 3) j)
  ∧ (∀ el, 0 ≤ el → el < 10 → M' (t + 5) el = q_cnt P T N s el k (q_many T s k))
  ∧ ∀ w, 0 ≤ w → w < 10 → M' (t + 4) w = M (t + 4) w + q_inc2 P T N s k w
set_option maxHeartbeats 4000000 in
theorem c_weighA {t e s k : Int} {M : jM} {P T N : Int → Int} {nl : Nat} (ht : 117 ≤ t) (he : e = 3 ∨ e = 56) (hT : bT T) (hN : bN N) (hL : bL T) (hs : 0 ≤ s ∧ s < T 1) (hE : rE e M T N) (hP17 : P 17 = -1) (m0 : M t 0 = e) (m1 : M t 1 = e + 16 + 1 + 6 * s) (hk : q_is P T N s k ≠ 0) (m3 : M t 3 = (nl : Int)) (hnl : nl < 2 ^ k.toNat)
    (hst : ∀ el, 0 ≤ el → el < 10 → M (t + 5) el = q_cnt P T N s el k 0) (hfb : ∀ w, 0 ≤ w → w < 10 → -1000 ≤ M (t + 4) w ∧ M (t + 4) w ≤ 1000) :
    jT (f_X8_weighAttempt t k (q_calls P N s k) M) (pWA t s k M P T N) := by
  have t1 := hT.2.1
  have hs6 : 0 ≤ s ∧ s < 6 := by omega
  have hkk := q_is_k hk
  have tt := hT.2.2.2.2.2.2.1 s hs6.1 hs6.2
  have hk12 : 0 ≤ k ∧ k < 12 := by omega
  have hcb := q_calls_b (P := P) hN hs6 hk12
  have hbb := q_bases_b (P := P) hT hN hs6 hk12
  obtain ⟨an1, an2, an4, -, -⟩ := and7i hcb
  have kde := kd_e he
  have kdg := kd_g he hs6
  have hnl4 : nl < 4096 := Nat.lt_of_lt_of_le hnl (Nat.pow_le_pow_right (n := 2) (by decide) (show k.toNat ≤ 12 by omega))
  unfold f_X8_weighAttempt
  refine t_W (t_mono (c_unst ht he hT hN hL hs hE m0 m1 hk hst hfb) (fun p hp => ?_))
  obtain ⟨p1, p2, p3, p4, p5, p6, p7, p8⟩ := hp
  generalize p.1 = v3 at p1
  generalize hM2 : p.2 = M2 at p2 p3 p4 p5 p6 p7 p8
  rw [an1, an2, an4]
  refine t_kP (fun kk => ∀ v M5, v = (if q_in (q_calls P N s k) 0 = 0 then q_bases P T N s k else q_bases P T N s k * 8 / 10) → (∀ a, a ≠ t + 4 → M5 a = M2 a) → (∀ w, 0 ≤ w → w < 10 → M5 (t + 4) w = M2 (t + 4) w + if w = 8 then q_in (q_calls P N s k) 0 else 0) → jT (kk v M5) (pWA t s k M P T N)) ?_ ?_
  · intro v M5 hv5 hf5 hw5
    have hvb : 0 ≤ v ∧ v ≤ 6000 := by rw [hv5]; split <;> omega
    refine t_kP (fun kk => ∀ v M8, v = q_plain P T N s k → (∀ a, a ≠ t + 4 → M8 a = M2 a) → (∀ w, 0 ≤ w → w < 10 → M8 (t + 4) w = M2 (t + 4) w + if w = 8 then q_in (q_calls P N s k) 0 else if w = 9 then q_in (q_calls P N s k) 1 else 0) → jT (kk v M8) (pWA t s k M P T N)) ?_ ?_
    · intro v8 M8 hv8 hf8 hw8
      have hpb := q_plain_b (P := P) hT hN hs6 hk12
      refine t_kP (fun kk => ∀ M10, (∀ a, a ≠ t + 4 → M10 a = M2 a) → (∀ w, 0 ≤ w → w < 10 → M10 (t + 4) w = M2 (t + 4) w + if w = 8 then q_in (q_calls P N s k) 0 else if w = 9 then q_in (q_calls P N s k) 1 else if w = 0 then q_in (q_calls P N s k) 2 else 0) → jT (kk M10) (pWA t s k M P T N)) ?_ ?_
      · intro M10 hf10 hw10
        rw [pw_of (z := k) (by omega) (by omega)]
        refine t_ck (by omega) ?_
        refine t_let ?_
        have r0 : jst M10 (t + 2) k v8 t = M t := by
          rw [pst_f (by omega), hf10 t (by omega)]; exact p2 t (by omega) (by omega) (by omega) (by omega)
        have rE' : rE e (jst M10 (t + 2) k v8) T N := rE_fr t1.2 hE (fun a q1 q2 q3 => by
          rw [pst_f (by omega), hf10 a (by omega)]; exact p2 a (by omega) (by omega) (by omega) (by omega))
        have ev1 : jst M10 (t + 2) k v8 t 0 = e := by rw [r0]; exact m0
        have ev2 : jst M10 (t + 2) k v8 t 1 = e + 16 + 1 + 6 * s := by rw [r0]; exact m1
        have ev3 : jst M10 (t + 2) k v8 t 3 = (nl : Int) := by rw [r0]; exact m3
        refine t_Re (c_begins hT hL hs rE' rfl kde kdg ev1 ev2 hkk) ?_
        rw [ev1, ev2, ev3]
        obtain ⟨y1, -⟩ := (rE'.2.2.2.2.2.2.2.2.2 s hs.1 hs.2).2.2.2.1 k hkk.1 hkk.2
        have y965 := rE'.2.1 1 (by omega) (by omega)
        have y966 := rE'.2.1 2 (by omega) (by omega)
        rw [show (964 : Int) + 1 = 965 from rfl] at y965
        rw [show (964 : Int) + 2 = 966 from rfl] at y966
        have n5 := hN.2.2.2.2.2.2.1
        have n6 := hN.2.2.2.2.2.2.2.1
        have htm := hT.2.2.2.2.2.2.2.1 (12 * s + k) (by omega) (by omega)
        rw [pw_of (z := 1) (by omega) (by omega), y1, y965, pw_of (z := T (122 + (12 * s + k))) (by omega) (by omega), pw_of (z := N 965) (by omega) (by omega)]
        have hlate : q_late P T N s k = b2 (T (4 + q_el T s k 0) = 0 ∧ N 965 ≤ T (122 + (12 * s + k))) := by
          unfold q_late
          rw [hP17, if_neg (by omega)]
        refine t_kP (fun kk => ∀ M16 (n16 : Nat), n16 < 4096 → M16 t 3 = (n16 : Int) → q_in (n16 : Int) k = q_late P T N s k → ((n16 : Int) = if q_late P T N s k = 0 then M t 3 else (((M t 3).toNat ||| 2 ^ k.toNat : Nat) : Int)) → (∀ j, j ≠ 3 → M16 t j = M t j) → (∀ a, a ≠ t → a ≠ t + 4 → M16 a = jst M10 (t + 2) k v8 a) → (∀ w, 0 ≤ w → w < 10 → M16 (t + 4) w = M10 (t + 4) w + if w = 6 then q_late P T N s k else 0) → jT (kk M16) (pWA t s k M P T N)) ?_ ?_
        · intro M16 n16 hn16 h163 hq16 he16 h16t hf16 hw16
          rw [pw_of (z := 2) (by omega) (by omega)]
          refine t_ck (by omega) ?_
          refine t_ck (by omega) ?_
          refine t_let ?_
          have s0 : jst M16 (t + 4) 2 (M16 (t + 4) 2 + 1) t 0 = e := by rw [pst_c (by omega), h16t 0 (by decide)]; exact m0
          have s3 : jst M16 (t + 4) 2 (M16 (t + 4) 2 + 1) t 3 = (n16 : Int) := by rw [pst_c (by omega)]; exact h163
          have s2 : jst M16 (t + 4) 2 (M16 (t + 4) 2 + 1) (t + 2) k = q_plain P T N s k := by rw [pst_c (by omega), hf16 _ (by omega) (by omega), pst_s]; exact hv8
          have s66 : jst M16 (t + 4) 2 (M16 (t + 4) 2 + 1) (e + 1) 2 = N 966 := by rw [pst_c (by omega), hf16 _ (by omega) (by omega)]; exact y966
          refine t_Re (c_worth kde s0 s3 hn16 hk12 (by rw [s2]; exact hpb) (by rw [s66]; exact n6)) ?_
          rw [s2, s66, hq16]
          refine t_let ?_
          refine t_some ⟨fun a q0 q1 q2 q3 q4 q5 => ?_, fun j q3 q4 => ?_, ?_, ?_, ?_, fun j hj => ?_, ?_, fun j hj => ?_, ?_, fun j hj => ?_, fun el q0 q1 => ?_, fun w q0 q1 => ?_⟩
          · rw [pst_f q0, pst_f q4, hf16 a q0 q4, pst_f q2, hf10 a q4]; exact p2 a q1 q3 q4 q5
          · rw [pst_i q4, pst_c (by omega)]; exact h16t j q3
          · rw [pst_i (by decide), pst_c (by omega), h163]; exact he16
          · rw [pst_s, pst_c (by omega), h16t 4 (by decide)]; rfl
          · rw [pst_c (by omega), pst_c (by omega), hf16 _ (by omega) (by omega), pst_c (by omega), hf10 _ (by omega)]; exact p3
          · rw [pst_c (by omega), pst_c (by omega), hf16 _ (by omega) (by omega), pst_c (by omega), hf10 _ (by omega)]; exact p4 j hj
          · rw [pst_c (by omega)]; exact s2
          · rw [pst_c (by omega), pst_c (by omega), hf16 _ (by omega) (by omega), pst_i hj, hf10 _ (by omega), p2 _ (by omega) (by omega) (by omega) (by omega)]
          · rw [pst_c (by omega), pst_c (by omega), hf16 _ (by omega) (by omega), pst_c (by omega), hf10 _ (by omega)]; exact p5
          · rw [pst_c (by omega), pst_c (by omega), hf16 _ (by omega) (by omega), pst_c (by omega), hf10 _ (by omega)]; exact p6 j hj
          · rw [pst_c (by omega), pst_c (by omega), hf16 _ (by omega) (by omega), pst_c (by omega), hf10 _ (by omega)]; exact p7 el q0 q1
          · rw [pst_c (by omega)]
            have hww : M16 (t + 4) w = M (t + 4) w + q_inc P T N s k w (q_many T s k) + (if w = 8 then q_in (q_calls P N s k) 0 else if w = 9 then q_in (q_calls P N s k) 1 else if w = 0 then q_in (q_calls P N s k) 2 else 0) + (if w = 6 then q_late P T N s k else 0) := by
              rw [hw16 w q0 q1, hw10 w q0 q1, p8 w q0 q1]
            have hval : jst M16 (t + 4) 2 (M16 (t + 4) 2 + 1) (t + 4) w = M16 (t + 4) w + if w = 2 then 1 else 0 := by
              by_cases c2 : w = 2
              · subst c2; rw [pst_s, if_pos rfl]
              · rw [pst_i c2, if_neg c2, Int.add_zero]
            rw [hval, hww]
            unfold q_inc2 q_inc
            by_cases w0 : w = 0
            · subst w0; simp
            by_cases w1 : w = 1
            · subst w1; simp
            by_cases w2 : w = 2
            · subst w2; simp
            by_cases w6 : w = 6
            · subst w6; simp
            by_cases w8 : w = 8
            · subst w8; simp
            by_cases w9 : w = 9
            · subst w9; simp
            simp only [if_neg w0, if_neg w1, if_neg w2, if_neg w6, if_neg w8, if_neg w9, Int.add_zero]
        · intro kk hkk2
          have noLate : q_late P T N s k = 0 → jT (kk (jst M10 (t + 2) k v8)) (pWA t s k M P T N) := fun h0 => by
            refine hkk2 _ nl hnl4 ev3 ?_ ?_ (fun j hj => by rw [r0]) (fun a q1 q2 => rfl) (fun w q0 q1 => ?_)
            · rw [h0]; exact q_in_lt hk12.1 hnl
            · rw [h0, if_pos rfl]; exact m3.symm
            · rw [pst_c (by omega), h0]; split <;> omega
          unfold q_jump
          by_cases c1 : T (4 + q_el T s k 0) = 0
          · rw [b2_t c1]
            refine t_neg (by decide) ?_
            refine t_ck kdg ?_
            refine t_ck (by omega) ?_
            refine t_ck kde ?_
            refine t_ck (by omega) ?_
            refine t_if (fun c2 => ?_) (fun c2 => ?_)
            · exact noLate (by rw [hlate]; exact b2_f (by omega))
            · have hl1 : q_late P T N s k = 1 := by rw [hlate]; exact b2_t (by omega)
              refine t_let ?_
              rw [pw_of (z := 6) (by omega) (by omega)]
              refine t_ck (by omega) ?_
              refine t_ck (by omega) ?_
              refine t_let ?_
              have hor : jor (nl : Int) (jsl 1 k) = ((nl ||| 2 ^ k.toNat : Nat) : Int) := or_sl (by omega) (by omega)
              rw [hor]
              refine hkk2 _ (nl ||| 2 ^ k.toNat) ?_ ?_ ?_ ?_ (fun j hj => ?_) (fun a q1 q2 => ?_) (fun w q0 q1 => ?_)
              · exact Nat.or_lt_two_pow (n := 12) hnl4 (Nat.pow_lt_pow_right (by decide) (by omega))
              · rw [pst_c (by omega), pst_s]
              · rw [hl1]; exact q_in_or hk12.1
              · rw [hl1, if_neg (by decide), m3, Int.toNat_natCast]
              · rw [pst_c (by omega), pst_i hj, r0]
              · rw [pst_f q2, pst_f q1]
              · rw [hl1]
                by_cases c6 : w = 6
                · subst c6
                  rw [pst_s, pst_c (by omega), pst_c (by omega), if_pos rfl]
                · rw [pst_i c6, pst_c (by omega), pst_c (by omega), if_neg c6, Int.add_zero]
          · rw [b2_f c1]
            refine t_pos (by decide) ?_
            exact noLate (by rw [hlate]; exact b2_f (by omega))
      · intro kk hkk2
        rcases q_in_b (q_calls P N s k) 2 with h | h
        · rw [h]
          refine t_pos (by decide) (hkk2 _ hf8 (fun w q0 q1 => ?_))
          rw [hw8 w q0 q1, h]
          split
          · rfl
          · split
            · rfl
            · split <;> rfl
        · rw [h]
          refine t_neg (by decide) ?_
          rw [pw_of (z := 0) (by omega) (by omega)]
          refine t_ck (by omega) ?_
          refine t_ck (by omega) ?_
          refine t_let ?_
          refine hkk2 _ (fun a ha => by rw [pst_f ha]; exact hf8 a ha) (fun w q0 q1 => ?_)
          rw [h]
          by_cases c0 : w = 0
          · subst c0
            rw [pst_s, hw8 0 (by omega) (by omega)]
            simp
          · rw [pst_i c0, hw8 w q0 q1, if_neg c0]
    · intro kk hkk2
      rcases q_in_b (q_calls P N s k) 1 with h | h
      · rw [h]
        refine t_pos (by decide) (hkk2 _ _ ?_ hf5 (fun w q0 q1 => ?_))
        · unfold q_plain
          dsimp only
          rw [h, if_pos rfl]; exact hv5
        · rw [hw5 w q0 q1, h]
          split
          · rfl
          · split <;> rfl
      · rw [h]
        refine t_neg (by decide) ?_
        refine t_let ?_
        rw [pw_of (z := v * 7) (by omega) (by omega), pw_of (z := 10) (by omega) (by omega), Int.tdiv_eq_ediv_of_nonneg (by omega), pw_of (z := 9) (by omega) (by omega)]
        refine t_ck (by omega) ?_
        refine t_ck (by omega) ?_
        refine t_let ?_
        refine hkk2 _ _ ?_ (fun a ha => by rw [pst_f ha]; exact hf5 a ha) (fun w q0 q1 => ?_)
        · unfold q_plain
          dsimp only
          rw [h, if_neg (by decide), ← hv5]
        · rw [h]
          by_cases c0 : w = 9
          · subst c0
            rw [pst_s, hw5 9 (by omega) (by omega)]
            simp
          · rw [pst_i c0, hw5 w q0 q1, if_neg c0]
  · intro kk hkk2
    rcases q_in_b (q_calls P N s k) 0 with h | h
    · rw [h]
      refine t_pos (by decide) (hkk2 _ _ ?_ (fun _ _ => rfl) (fun w q0 q1 => ?_))
      · rw [h, if_pos rfl]; exact p1
      · rw [h]; split <;> omega
    · rw [h]
      refine t_neg (by decide) ?_
      refine t_let ?_
      rw [p1, pw_of (z := q_bases P T N s k * 8) (by omega) (by omega), pw_of (z := 10) (by omega) (by omega), Int.tdiv_eq_ediv_of_nonneg (by omega), pw_of (z := 8) (by omega) (by omega)]
      refine t_ck (by omega) ?_
      refine t_ck (by omega) ?_
      refine t_let ?_
      refine hkk2 _ _ ?_ (fun a ha => by rw [pst_f ha]) (fun w q0 q1 => ?_)
      · rw [h, if_neg (by decide)]
      · rw [h]
        by_cases c0 : w = 8
        · subst c0
          rw [pst_s, if_pos rfl]
        · rw [pst_i c0, if_neg c0, Int.add_zero]
