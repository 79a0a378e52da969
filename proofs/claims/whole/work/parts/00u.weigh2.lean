/-! ===== the program weighs a skater ===== -/
def q_wordK (P T N : Int → Int) (s w K : Int) : Int := if w = 1 then T (110 + s) else sZ (fun k => if q_is P T N s k = 0 then 0 else q_inc2 P T N s k w) K
theorem q_wordK_all {P T N : Int → Int} {s w : Int} (hw : 0 ≤ w ∧ w < 10) : q_wordK P T N s w (T (116 + s)) = q_word P T N s w := by
  unfold q_wordK q_word
  by_cases w0 : w = 0
  · subst w0
    rw [if_neg (by decide), if_pos rfl]
    rfl
  by_cases w1 : w = 1
  · subst w1
    rfl
  rw [if_neg w1, if_neg w0, if_neg w1]
  by_cases w2 : w = 2
  · subst w2
    rfl
  rw [if_neg w2]
  by_cases w5 : w ≤ 5
  · rw [if_pos w5]
    unfold q_elsBy
    refine sZ_congr (fun k _ _ => ?_)
    by_cases c : q_is P T N s k = 0
    · rw [if_pos c, if_pos c]
    · rw [if_neg c, if_neg c]
      unfold q_inc2 q_inc
      rw [if_neg w0, if_neg w1, if_neg w2, if_neg (by omega), if_neg (by omega), if_neg (by omega), if_neg (by omega), if_pos (by omega)]
      refine sZ_congr (fun i _ _ => ?_)
      rw [if_neg (show ¬ w - 3 = 3 by omega)]
  rw [if_neg w5]
  by_cases w6 : w = 6
  · subst w6
    rfl
  rw [if_neg w6]
  by_cases w7 : w = 7
  · subst w7
    rfl
  rw [if_neg w7]
  unfold q_called
  refine sZ_congr (fun k _ _ => ?_)
  by_cases c : q_is P T N s k = 0
  · rw [if_pos c, if_pos c]
  · rw [if_neg c, if_neg c]
    unfold q_inc2
    rw [if_neg w0, if_neg w1, if_neg w2, if_neg w6]
    by_cases w8 : w = 8
    · subst w8; rfl
    · rw [if_neg w8, if_pos (by omega), show w - 8 = 1 from by omega]
theorem q_inc2_b {P T N : Int → Int} (hT : bT T) {s k w : Int} (hs : 0 ≤ s ∧ s < 6) (hk : 0 ≤ k ∧ k < 12) : 0 ≤ q_inc2 P T N s k w ∧ q_inc2 P T N s k w ≤ 3 := by
  have hm := q_many_b hT hs hk
  have h1 := sZ_b (f := q_struck P T N s k) (lo := 0) (hi := 1) hm.1 (fun i _ _ => by rcases q_struck_b P T N s k i with h | h <;> omega)
  have h2 := sZ_b (f := fun x => b2 (T (4 + q_el T s k x) = w - 3)) (lo := 0) (hi := 1) hm.1 (fun i _ _ => b2_b _)
  have h3 := q_in_b (q_calls P N s k) 0
  have h4 := q_in_b (q_calls P N s k) 1
  have h5 := q_in_b (q_calls P N s k) 2
  have h6 := q_late_b P T N s k
  unfold q_inc2 q_inc
  repeat' split
  all_goals omega
theorem q_wordK_b {P T N : Int → Int} (hT : bT T) {s w K : Int} (hs : 0 ≤ s ∧ s < 6) (hK : 0 ≤ K ∧ K ≤ 12) : 0 ≤ q_wordK P T N s w K ∧ q_wordK P T N s w K ≤ 600 := by
  have h1 := hT.2.2.2.2.2.1 s hs.1 hs.2
  have h2 := sZ_b (f := fun k => if q_is P T N s k = 0 then 0 else q_inc2 P T N s k w) (lo := 0) (hi := 3) hK.1 (fun k _ _ => by
    have := q_inc2_b (P := P) (N := N) hT (w := w) hs (k := k) (by omega)
    split <;> omega)
  unfold q_wordK
  split <;> omega
theorem q_cnt_next {P T N : Int → Int} {s el k : Int} (hk : 0 ≤ k) : q_cnt P T N s el (k + 1) 0 = if q_is P T N s k = 0 then q_cnt P T N s el k 0 else q_cnt P T N s el k (q_many T s k) := by
  unfold q_cnt
  rw [sZ_s hk, sZ_0]
  split
  · rw [sZ_0]
    omega
  · omega
theorem full_in {J : Nat} : ∀ {j : Int}, 0 ≤ j → j < J → q_in ((2 ^ J - 1 : Nat) : Int) j = 1 := by
  intro j h0 h1
  unfold q_in
  apply b2_t
  rw [Int.toNat_natCast, Nat.testBit_two_pow_sub_one]
  simp
  omega
theorem full_J (J : Nat) (hJ : 1 ≤ J) : 1 ≤ sS (q_in ((2 ^ J - 1 : Nat) : Int)) J := by
  have : sS (q_in ((2 ^ J - 1 : Nat) : Int)) J = sS (fun _ => 1) J := sS_congr (fun i h0 h1 => full_in h0 h1)
  rw [this]
  have h2 := sS_b (f := fun _ => (1 : Int)) (lo := 1) (hi := 1) (n := J) (fun _ _ _ => by omega)
  omega
theorem c_every {e : Int} {M : jM} {J : Nat} (h : M e 0 = (J : Int)) (hJ : J ≤ 9) : f_X1_everyJudge e M = some ((2 ^ J - 1 : Nat) : Int) := by
  unfold f_X1_everyJudge
  rw [h, pb_sl J (by omega)]
  have : 1 ≤ 2 ^ J := Nat.one_le_two_pow
  congr 1
  omega
set_option maxHeartbeats 8000000 in
theorem c_weigh {t e s until_ hd : Int} {M : jM} {P T N : Int → Int} (ht : 117 ≤ t) (hl4 : jln (t + 4) = 10) (hl5 : jln (t + 5) = 10) (hC : cE e M T N) (hs : 0 ≤ s ∧ s < T 1) (hP : bP P) (h15 : P 15 = ((2 ^ (T 2).toNat - 1 : Nat) : Int)) (h16 : P 16 = until_) (h17 : P 17 = -1) (h19 : P 19 = -1) (hhd : (hd = 7 ∧ P 22 = 0) ∨ (hd = 0 ∧ P 22 = 1)) :
    jT (f_X8_weigh t e s until_ hd M) (fun M' => (∀ a, a < t ∨ t + 6 < a → a ≠ e + 12 → M' a = M a) ∧ wT t e s M' P T N ∧ jgd t s M' P T N) := by
  obtain ⟨he, hT, hN, hL, hE⟩ := hC
  have t1 := hT.2.1
  have t2 := hT.2.2.1
  have t3 := hT.2.2.2.1
  have hs6 : 0 ≤ s ∧ s < 6 := by omega
  have tt := hT.2.2.2.2.2.2.1 s hs6.1 hs6.2
  have kde := kd_e he
  have kdg := kd_g he hs6
  have h1p : 1 ≤ 2 ^ (T 2).toNat := Nat.one_le_two_pow
  have hcP : cP P T := ⟨hP, by unfold bJ sZ; rw [h15]; exact full_J _ (by omega), by rw [h15]; omega⟩
  have hsk := hE.2.2.2.2.2.2.2.2.2 s hs.1 hs.2
  generalize hg : e + 16 + 1 + 6 * s = g at hsk kdg
  have hgb : 3 ≤ g ∧ g ≤ 103 := by omega
  have skfr : ∀ M3 : jM, (∀ a, a < t ∨ t + 6 < a → M3 a = M a) → rSk g M3 T N s := fun M3 h => rSk_fr hsk (fun a q0 q1 => h a (by omega))
  have efr : ∀ M3 : jM, (∀ a, a < t ∨ t + 6 < a → M3 a = M a) → rE e M3 T N := fun M3 h => rE_fr t1.2 hE (fun a q0 q1 q2 => h a (by omega))
  unfold f_X8_weigh
  refine t_let ?_
  rw [pw_of (z := s) (by omega) (by omega)]
  refine t_ck (by omega) ?_
  refine t_let ?_
  refine t_let ?_
  refine t_let ?_
  refine t_let ?_
  rw [hg]
  generalize hM6 : jst (jst (jst (jst (jst M t 0 e) t 1 g) t 2 0) t 3 0) t 4 0 = M6
  have f6 : ∀ a, a ≠ t → M6 a = M a := fun a ha => by rw [← hM6, pst_f ha, pst_f ha, pst_f ha, pst_f ha, pst_f ha]
  have z0 : M6 t 0 = e := by rw [← hM6, pst_i (by decide), pst_i (by decide), pst_i (by decide), pst_i (by decide), pst_s]
  have z1 : M6 t 1 = g := by rw [← hM6, pst_i (by decide), pst_i (by decide), pst_i (by decide), pst_s]
  have z2 : M6 t 2 = 0 := by rw [← hM6, pst_i (by decide), pst_i (by decide), pst_s]
  have z3 : M6 t 3 = 0 := by rw [← hM6, pst_i (by decide), pst_s]
  have z4 : M6 t 4 = 0 := by rw [← hM6, pst_s]
  refine t_V (t_mono (c_fill (by rw [hl5]; omega)) (fun M8 h8 => ?_))
  obtain ⟨f8, g8, -⟩ := h8
  rw [hl5] at g8
  refine t_V (t_mono (c_fill (by rw [hl4]; omega)) (fun M10 h10 => ?_))
  obtain ⟨f10, g10, -⟩ := h10
  rw [hl4] at g10
  have f10t : M10 t = M6 t := by rw [f10 t (by omega), f8 t (by omega)]
  have frm10 : ∀ a, a < t ∨ t + 6 < a → M10 a = M a := fun a ha => by rw [f10 a (by omega), f8 a (by omega), f6 a (by omega)]
  rw [f10t, z1]
  refine t_ck kdg ?_
  rw [pw_of (z := 1) (by omega) (by omega)]
  refine t_ck (by omega) ?_
  refine t_let ?_
  have x3 : M10 g 2 = T (110 + s) := (skfr M10 frm10).2.2.1
  rw [x3]
  -- the loop over attempts
  refine t_lp2 (fun k M3 => 0 ≤ k ∧ k ≤ T (116 + s) ∧ (∀ a, a < t ∨ t + 6 < a → M3 a = M a) ∧ M3 t 0 = e ∧ M3 t 1 = g ∧ M3 t 2 = ((q_or (q_is P T N s) k.toNat : Nat) : Int) ∧ M3 t 3 = ((q_or (fun k => if q_is P T N s k = 0 then 0 else q_late P T N s k) k.toNat : Nat) : Int) ∧ M3 t 4 = sZ (fun k => if q_is P T N s k = 0 then 0 else q_worth P T N s k) k
      ∧ (∀ o, o < k → q_is P T N s o ≠ 0 → M3 (t + 1) o = ((q_or (q_struck P T N s o) (q_many T s o).toNat : Nat) : Int) ∧ M3 (t + 2) o = q_plain P T N s o ∧ M3 (t + 3) o = q_best P T N s o ∧ sO (M3 (t + 6)) (fun j => N (9 * (12 * s + o) + j)) o (T 2).toNat)
      ∧ (∀ el, 0 ≤ el → el < 10 → M3 (t + 5) el = q_cnt P T N s el k 0) ∧ ∀ w, 0 ≤ w → w < 10 → M3 (t + 4) w = q_wordK P T N s w k) (fun k _ => (T (116 + s) - k).toNat) ?_ jfuel 0 _ (by rw [jfuel_eq]; omega) ⟨by omega, by omega, fun a ha => by rw [pst_f (by omega)]; exact frm10 a ha, by rw [pst_c (by omega), f10t]; exact z0, by rw [pst_c (by omega), f10t]; exact z1, by rw [pst_c (by omega), f10t]; exact z2, by rw [pst_c (by omega), f10t]; exact z3, by rw [pst_c (by omega), f10t]; exact z4, fun o h0 h1 => by have := (q_is_k h1).1; omega, fun el q0 q1 => by
        rw [pst_c (by omega), f10 _ (by omega), g8 el q0 q1]; rfl, fun w q0 q1 => by
        unfold q_wordK
        by_cases c1 : w = 1
        · subst c1; rw [pst_s, if_pos rfl]
        · rw [pst_i c1, g10 w q0 q1, if_neg c1]; rfl⟩
  rintro self k M3 ⟨hk1, hk2, hfr, a0, a1, a2, a3, a4, hrows, hst, hwd⟩ hself
  have sk3 := skfr M3 hfr
  have e3 := efr M3 hfr
  rw [a1, sk3.1]
  refine t_ck kdg ?_
  rw [pw_of (z := T (116 + s)) (by omega) (by omega), pw_of (z := k) (by omega) (by omega)]
  refine t_if (fun hc => ?_) (fun hc => ?_)
  · have ek : k = T (116 + s) := by omega
    subst ek
    -- marks are sorted
    refine t_lp2 (fun c M4 => 0 ≤ c ∧ c ≤ 3 ∧ (∀ a, a ≠ t + 6 → M4 a = M3 a) ∧ (∀ o, q_is P T N s o ≠ 0 → sO (M4 (t + 6)) (fun j => N (9 * (12 * s + o) + j)) o (T 2).toNat) ∧ ∀ d, 0 ≤ d → d < c → sO (M4 (t + 6)) (fun j => N (648 + 9 * (3 * s + d) + j)) (12 + d) (T 2).toNat) (fun c _ => (3 - c).toNat) ?_ jfuel 0 M3 (by rw [jfuel_eq]; omega) ⟨by omega, by omega, fun _ _ => rfl, fun o ho => (hrows o (q_is_k ho).2 ho).2.2.2, fun d h0 h1 => by omega⟩
    rintro self2 c M4 ⟨hc1, hc2, hfr4, hso, hsm⟩ hself2
    have fr4 : ∀ a, a < t ∨ t + 6 < a → M4 a = M a := fun a ha => by rw [hfr4 a (by omega)]; exact hfr a ha
    have e4 := efr M4 fr4
    have sk4 := skfr M4 fr4
    have b0 : M4 t 0 = e := by rw [hfr4 t (by omega)]; exact a0
    have b1 : M4 t 1 = g := by rw [hfr4 t (by omega)]; exact a1
    rw [pw_of (z := 3) (by omega) (by omega), pw_of (z := c) (by omega) (by omega)]
    refine t_if (fun hcc => ?_) (fun hcc => ?_)
    · have ec : c = 3 := by omega
      subst ec
      refine t_let ?_
      -- the rules
      refine t_lp2 (fun r M5 => 0 ≤ r ∧ r ≤ T 3 ∧ (∀ a, a ≠ t → a ≠ e + 12 → M5 a = M4 a) ∧ (∀ j, j ≠ 5 → M5 t j = M4 t j) ∧ M5 t 5 = sZ (q_rule P T N s) r) (fun r _ => (T 3 - r).toNat) ?_ jfuel 0 _ (by rw [jfuel_eq]; omega) ⟨by omega, by omega, fun a h1 h2 => by rw [pst_f h1], fun j hj => by rw [pst_i hj], pst_s _ _ _ _⟩
      rintro self3 r M5 ⟨hr1, hr2, hfr5, hft5, h55⟩ hself3
      have d0 : M5 t 0 = e := by rw [hft5 0 (by decide)]; exact b0
      have e5 : rE e M5 T N := rE_fr t1.2 e4 (fun a q0 q1 q2 => hfr5 a (by omega) q2)
      rw [d0, e5.2.2.2.2.1]
      refine t_ck kde ?_
      rw [pw_of (z := T 3) (by omega) (by omega), pw_of (z := r) (by omega) (by omega)]
      refine t_if (fun hc3 => ?_) (fun hc3 => ?_)
      · have er : r = T 3 := by omega
        subst er
        refine t_Re (c_every (J := (T 2).toNat) (by rw [e5.1]; omega) (by omega)) ?_
        rw [← h15]
        have w5 : wT t e s M5 P T N := by
          refine ⟨d0, by rw [hft5 1 (by decide), hg]; exact b1, by rw [hft5 2 (by decide), hfr4 t (by omega)]; exact a2, by rw [hft5 3 (by decide), hfr4 t (by omega)]; exact a3, by rw [hft5 4 (by decide), hfr4 t (by omega)]; exact a4, h55, fun o ho => ?_, fun d h0 h1 => ?_, fun w q0 q1 => ?_⟩
          · obtain ⟨r1, r2, r3, r4⟩ := hrows o (q_is_k ho).2 ho
            rw [hfr5 (t + 1) (by omega) (by omega), hfr5 (t + 2) (by omega) (by omega), hfr5 (t + 3) (by omega) (by omega), hfr5 (t + 6) (by omega) (by omega), hfr4 (t + 1) (by omega), hfr4 (t + 2) (by omega), hfr4 (t + 3) (by omega)]
            exact ⟨r1, r2, r3, hso o ho⟩
          · rw [hfr5 (t + 6) (by omega) (by omega)]
            exact hsm d h0 h1
          · rw [hfr5 (t + 4) (by omega) (by omega), hfr4 (t + 4) (by omega), hwd w q0 q1]
            exact q_wordK_all ⟨q0, q1⟩
        refine t_V (t_mono (c_judge ht ⟨he, hT, hN, hL, e5⟩ hs hcP h19 w5) (fun M7 h7 => ?_))
        obtain ⟨u1, u2, u3⟩ := h7
        refine t_some ⟨fun a q0 q1 => ?_, wT_fr w5 (fun j q0 q1 => u2 j (by omega)) (fun a q0 q1 => u1 a (by omega)), u3⟩
        rw [u1 a (by omega), hfr5 a (by omega) q1]
        exact fr4 a q0
      · have hfacts : ∀ w, 0 ≤ w → w < 10 → M5 (t + 4) w = q_word P T N s w := fun w q0 q1 => by
          rw [hfr5 (t + 4) (by omega) (by omega), hfr4 (t + 4) (by omega), hwd w q0 q1]
          exact q_wordK_all ⟨q0, q1⟩
        refine t_W (t_mono (c_amount (P := P) (N := N) he (by omega) hl4 hT hs6 (by omega) (e5.2.2.2.2.2.2.2.2.1 r hr1 (by omega)) hfacts) (fun p hp => ?_))
        refine t_let ?_
        refine t_let ?_
        refine hself3 _ _ ⟨by omega, by omega, fun a h1 h2 => by rw [pst_f h1, hp.2 a h2]; exact hfr5 a h1 h2, fun j hj => by rw [pst_i hj, hp.2 t (by omega)]; exact hft5 j hj, ?_⟩ (by omega)
        rw [pst_s, sZ_s hr1, ← h55, hp.1]
    · have hV : ∀ j : Int, 0 ≤ j → j < (((T 2).toNat : Nat) : Int) → M4 (g + 5) ((12 + c) * 9 + j) = N (648 + 9 * (3 * s + c) + j) := fun j h0 h1 => sk4.2.2.2.2 c j hc1 (by omega) h0 (by omega)
      refine t_V (t_mono (c_sort (t := t) (e := e) (g := g) (row := 12 + c) (J := (T 2).toNat) ht (by omega) hgb kde kdg b0 b1 (by rw [e4.1]; omega) (by omega) (by omega) (fun j h0 h1 => by
        rw [hV j h0 h1]
        have := hN.2.1 (9 * (3 * s + c) + j) (by omega) (by omega)
        rw [show 648 + (9 * (3 * s + c) + j) = 648 + 9 * (3 * s + c) + j from by omega] at this
        omega)) (fun M5 h5 => ?_))
      obtain ⟨u1, u2, u3⟩ := h5
      refine t_let ?_
      have keep : ∀ (V : Int → Int) (row : Int), row ≠ 12 + c → sO (M4 (t + 6)) V row (T 2).toNat → sO (M5 (t + 6)) V row (T 2).toNat := fun V row hne h => by
        have : la (M5 (t + 6)) (row * 9) (T 2).toNat = la (M4 (t + 6)) (row * 9) (T 2).toNat := la_congr (fun i q0 q1 => u2 i (by omega))
        unfold sO
        rw [this]
        exact h
      refine hself2 _ _ ⟨by omega, by omega, fun a ha => by rw [u1 a ha]; exact hfr4 a ha, fun o ho => keep _ _ (by have := q_is_k ho; omega) (hso o ho), fun d h0 h1 => ?_⟩ (by omega)
      by_cases cd : d = c
      · subst cd
        exact sO_congr hV u3
      · exact keep _ _ (by omega) (hsm d h0 (by omega))
  · -- one attempt
    refine t_Re (c_has hT hN hs6 sk3 (by omega)) ?_
    obtain ⟨y1, y2, y3, y4, y5⟩ := sk3.2.2.2.1 k hk1 (by omega)
    have htm := hT.2.2.2.2.2.2.2.1 (12 * s + k) (by omega) (by omega)
    have p16 := hP.2.1
    have skip : q_is P T N s k = 0 → jT (jlet (k + 1) fun l5_40 => self l5_40 M3) (fun M' => (∀ a, a < t ∨ t + 6 < a → a ≠ e + 12 → M' a = M a) ∧ wT t e s M' P T N ∧ jgd t s M' P T N) := fun h0 => by
      refine t_let ?_
      refine hself _ _ ⟨by omega, by omega, hfr, a0, a1, ?_, ?_, ?_, fun o ho hq => ?_, fun el q0 q1 => ?_, fun w q0 q1 => ?_⟩ (by omega)
      · rw [q_or_s hk1, if_pos h0]; exact a2
      · rw [q_or_s hk1, h0]; exact a3
      · rw [sZ_s hk1, if_pos h0, Int.add_zero]; exact a4
      · exact hrows o (by
          have : o ≠ k := fun q => hq (by rw [q]; exact h0)
          omega) hq
      · rw [q_cnt_next hk1, if_pos h0]; exact hst el q0 q1
      · rw [hwd w q0 q1]
        unfold q_wordK
        rw [sZ_s hk1, if_pos h0, Int.add_zero]
    by_cases cg : N (882 + (12 * s + k)) = 0
    · rw [b2_t ⟨hk1, by omega, cg⟩]
      refine t_neg (by decide) ?_
      refine t_ck (by omega) ?_
      rw [y1, pw_of (z := until_) (by omega) (by omega), pw_of (z := T (122 + (12 * s + k))) (by omega) (by omega)]
      refine t_if (fun ct => ?_) (fun ct => ?_)
      · refine skip ?_
        unfold q_is
        exact b2_f (by omega)
      · have hq : q_is P T N s k = 1 := by
          unfold q_is
          exact b2_t (by omega)
        have hqn : q_is P T N s k ≠ 0 := by omega
        refine t_let ?_
        have hlt := q_or_lt (q_is P T N s) k.toNat
        have h12 : 2 ^ k.toNat ≤ 2 ^ 12 := Nat.pow_le_pow_right (by decide) (by omega)
        rw [a2, or_sl (by omega) (by omega)]
        generalize hM43 : jst M3 t 2 ((q_or (q_is P T N s) k.toNat ||| 2 ^ k.toNat : Nat) : Int) = M43
        have v0 : ∀ j, j ≠ 2 → M43 t j = M3 t j := fun j hj => by rw [← hM43, pst_i hj]
        have v2 : M43 t 2 = ((q_or (q_is P T N s) k.toNat ||| 2 ^ k.toNat : Nat) : Int) := by rw [← hM43, pst_s]
        have vf : ∀ a, a ≠ t → M43 a = M3 a := fun a ha => by rw [← hM43, pst_f ha]
        rw [v0 1 (by decide), a1, vf (g + 4) (by omega), y4]
        refine t_ck kdg ?_
        refine t_ck (by omega) ?_
        have hcall : jnd (N (810 + (12 * s + k))) hd = q_calls P N s k := by
          have hcb := hN.2.2.1 (12 * s + k) (by omega) (by omega)
          obtain ⟨-, -, -, an7, an0⟩ := and7i hcb
          unfold q_calls
          rcases hhd with ⟨u1, u2⟩ | ⟨u1, u2⟩
          · rw [u1, u2, if_pos rfl]; exact an7
          · rw [u1, u2, if_neg (by decide)]; exact an0
        rw [hcall]
        have e43 : rE e M43 T N := efr M43 (fun a ha => by rw [vf a (by omega)]; exact hfr a ha)
        have hlt2 := q_or_lt (fun k => if q_is P T N s k = 0 then 0 else q_late P T N s k) k.toNat
        refine t_V (t_mono (c_weighA (P := P) (nl := q_or (fun k => if q_is P T N s k = 0 then 0 else q_late P T N s k) k.toNat) ht he hT hN hL hs e43 h17 (by rw [v0 0 (by decide)]; exact a0) (by rw [v0 1 (by decide), hg]; exact a1) hqn (by rw [v0 3 (by decide)]; exact a3) hlt2 (fun el q0 q1 => by rw [vf _ (by omega)]; exact hst el q0 q1) (fun w q0 q1 => by
          rw [vf _ (by omega), hwd w q0 q1]
          have := q_wordK_b (P := P) (N := N) hT (w := w) (K := k) hs6 (by omega)
          omega)) (fun M47 h47 => ?_))
        obtain ⟨n1, n2, n3, n4, n5, n6, n7, n8, n9, n10, n11, n12⟩ := h47
        have fr47 : ∀ a, a < t ∨ t + 6 < a → M47 a = M a := fun a ha => by
          rw [n1 a (by omega) (by omega) (by omega) (by omega) (by omega) (by omega), vf a (by omega)]
          exact hfr a ha
        have e47 := efr M47 fr47
        have sk47 := skfr M47 fr47
        have hV : ∀ j : Int, 0 ≤ j → j < (((T 2).toNat : Nat) : Int) → M47 (g + 5) (k * 9 + j) = N (9 * (12 * s + k) + j) := fun j h0 h1 => (sk47.2.2.2.1 k hk1 (by omega)).2.2.2.2 j h0 (by omega)
        refine t_V (t_mono (c_sort (t := t) (e := e) (g := g) (row := k) (J := (T 2).toNat) ht (by omega) hgb kde kdg (by rw [n2 0 (by decide) (by decide), v0 0 (by decide)]; exact a0) (by rw [n2 1 (by decide) (by decide), v0 1 (by decide)]; exact a1) (by rw [e47.1]; omega) (by omega) (by omega) (fun j h0 h1 => by
          rw [hV j h0 h1]
          have := hN.1 (9 * (12 * s + k) + j) (by omega) (by omega)
          omega)) (fun M49 h49 => ?_))
        obtain ⟨u1, u2, u3⟩ := h49
        refine t_let ?_
        refine hself _ _ ⟨by omega, by omega, fun a ha => by rw [u1 a (by omega)]; exact fr47 a ha, ?_, ?_, ?_, ?_, ?_, fun o ho hoq => ?_, fun el q0 q1 => ?_, fun w q0 q1 => ?_⟩ (by omega)
        · rw [u1 t (by omega), n2 0 (by decide) (by decide), v0 0 (by decide)]; exact a0
        · rw [u1 t (by omega), n2 1 (by decide) (by decide), v0 1 (by decide)]; exact a1
        · rw [u1 t (by omega), n2 2 (by decide) (by decide), v2, q_or_s hk1, if_neg hqn]
        · rw [u1 t (by omega), n3, v0 3 (by decide), a3, Int.toNat_natCast, q_or_s hk1, if_neg hqn]
          split <;> rfl
        · rw [u1 t (by omega), n4, v0 4 (by decide), a4, sZ_s hk1, if_neg hqn]
        · rw [u1 (t + 1) (by omega), u1 (t + 2) (by omega), u1 (t + 3) (by omega)]
          by_cases co : o = k
          · subst co
            exact ⟨n5, n7, n9, sO_congr hV u3⟩
          · obtain ⟨r1, r2, r3, r4⟩ := hrows o (by omega) hoq
            rw [n6 o co, n8 o co, n10 o co, vf (t + 1) (by omega), vf (t + 2) (by omega), vf (t + 3) (by omega)]
            refine ⟨r1, r2, r3, ?_⟩
            have : la (M49 (t + 6)) (o * 9) (T 2).toNat = la (M3 (t + 6)) (o * 9) (T 2).toNat := la_congr (fun i q0 q1 => by
              rw [u2 i (by omega), n1 (t + 6) (by omega) (by omega) (by omega) (by omega) (by omega) (by omega), vf (t + 6) (by omega)])
            unfold sO
            rw [this]
            exact r4
        · rw [u1 (t + 5) (by omega), n11 el q0 q1, q_cnt_next hk1, if_neg hqn]
        · rw [u1 (t + 4) (by omega), n12 w q0 q1, vf (t + 4) (by omega), hwd w q0 q1]
          unfold q_wordK
          by_cases c1 : w = 1
          · subst c1
            rw [if_pos rfl, if_pos rfl]
            have : q_inc2 P T N s k 1 = 0 := rfl
            rw [this, Int.add_zero]
          · rw [if_neg c1, if_neg c1, sZ_s hk1, if_neg hqn]
    · rw [b2_f (fun q => cg q.2.2)]
      refine t_pos (by decide) (skip ?_)
      unfold q_is
      exact b2_f (by omega)
