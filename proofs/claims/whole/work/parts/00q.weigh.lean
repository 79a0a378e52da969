/-! ===== the program weighs an attempt ===== -/
theorem c_fill {c v : Int} {M : jM} (hl : 0 ≤ jln c ∧ jln c ≤ 1000) : jT (f_J7_fill_53178 c v M) (fun M' => (∀ a, a ≠ c → M' a = M a) ∧ (∀ i, 0 ≤ i → i < jln c → M' c i = v) ∧ ∀ i, i < 0 ∨ jln c ≤ i → M' c i = M c i) := by
  unfold f_J7_fill_53178
  refine t_let ?_
  refine t_lp2 (fun i M3 => 0 ≤ i ∧ i ≤ jln c ∧ (∀ a, a ≠ c → M3 a = M a) ∧ (∀ j, 0 ≤ j → j < i → M3 c j = v) ∧ ∀ j, j < 0 ∨ jln c ≤ j → M3 c j = M c j) (fun i _ => (jln c - i).toNat) ?_ jfuel 0 M (by rw [jfuel_eq]; omega) ⟨by omega, by omega, fun _ _ => rfl, fun j h0 h1 => by omega, fun _ _ => rfl⟩
  rintro self i M3 ⟨h1, h2, h3, h4, h5⟩ hself
  rw [pw_of (z := jln c) (by omega) (by omega), pw_of (z := i) (by omega) (by omega)]
  refine t_if (fun hc => ?_) (fun hc => ?_)
  · exact t_some ⟨h3, fun j q0 q1 => h4 j q0 (by omega), h5⟩
  · refine t_ck (by omega) ?_
    refine t_let ?_
    refine t_let ?_
    refine hself _ _ ⟨by omega, by omega, fun a ha => by rw [pst_f ha]; exact h3 a ha, fun j q0 q1 => ?_, fun j hj => by rw [pst_i (by omega)]; exact h5 j hj⟩ (by omega)
    by_cases cj : j = i
    · subst cj; exact pst_s _ _ _ _
    · rw [pst_i cj]; exact h4 j q0 (by omega)
theorem q_or_s {f : Int → Int} {i : Int} (h : 0 ≤ i) : q_or f (i + 1).toNat = if f i = 0 then q_or f i.toNat else q_or f i.toNat ||| 2 ^ i.toNat := by
  rw [show (i + 1).toNat = i.toNat + 1 from by omega]
  show (if f ((i.toNat : Nat) : Int) = 0 then q_or f i.toNat else q_or f i.toNat ||| 2 ^ i.toNat) = _
  rw [← pn_nat h]
theorem q_mx_s {P T N : Int → Int} {s k i : Int} (h : 0 ≤ i) : q_mx P T N s k (i + 1).toNat = if q_struck P T N s k i = 0 then max (q_mx P T N s k i.toNat) (N (954 + q_el T s k i)) else q_mx P T N s k i.toNat := by
  rw [show (i + 1).toNat = i.toNat + 1 from by omega]
  show (if q_struck P T N s k ((i.toNat : Nat) : Int) = 0 then max (q_mx P T N s k i.toNat) (N (954 + q_el T s k ((i.toNat : Nat) : Int))) else q_mx P T N s k i.toNat) = _
  rw [← pn_nat h]
theorem or_sl {n : Nat} {i : Int} (h : 0 ≤ i ∧ i < 31) (hn : n < 2147483648) : jor (n : Int) (jsl 1 i) = ((n ||| 2 ^ i.toNat : Nat) : Int) := by
  have h5 := pb_sl i.toNat (by omega)
  rw [← pn_nat h.1] at h5
  rw [h5]
  have : 2 ^ i.toNat ≤ 2 ^ 30 := Nat.pow_le_pow_right (by decide) (by omega)
  exact pb_or hn (by omega)
def q_cnt (P T N : Int → Int) (s el k i : Int) : Int := sZ (fun o => if q_is P T N s o = 0 then 0 else sZ (fun x => b2 (q_el T s o x = el)) (q_many T s o)) k + sZ (fun x => b2 (q_el T s k x = el)) i
theorem q_stood_cnt {P T N : Int → Int} {s k i : Int} (hk : 0 ≤ k) (h : q_is P T N s k ≠ 0) : q_stood P T N s k i = q_cnt P T N s (q_el T s k i) k i := by
  unfold q_stood q_cnt
  rw [sZ_s hk, if_neg h, if_pos rfl]
  congr 1
  refine sZ_congr (fun o h0 h1 => ?_)
  by_cases c : q_is P T N s o = 0
  · rw [if_pos c, if_pos c]
  · rw [if_neg c, if_neg c, if_neg (show ¬ o = k by omega)]
theorem q_cnt_b {P T N : Int → Int} (hT : bT T) {s el k i : Int} (hs : 0 ≤ s ∧ s < 6) (hk : 0 ≤ k ∧ k ≤ 12) (hi : 0 ≤ i ∧ i ≤ 3) : 0 ≤ q_cnt P T N s el k i ∧ q_cnt P T N s el k i ≤ 40 := by
  have h1 := sZ_b (f := fun o => if q_is P T N s o = 0 then 0 else sZ (fun x => b2 (q_el T s o x = el)) (q_many T s o)) (lo := 0) (hi := 3) hk.1 (fun o h0 h1 => by
    have hm := q_many_b hT hs (k := o) (by omega)
    have := sZ_b (f := fun x => b2 (q_el T s o x = el)) (lo := 0) (hi := 1) hm.1 (fun x _ _ => b2_b _)
    split <;> omega)
  have h2 := sZ_b (f := fun x => b2 (q_el T s k x = el)) (lo := 0) (hi := 1) hi.1 (fun x _ _ => b2_b _)
  unfold q_cnt
  omega
/-- what one attempt brings to fact w by its first i elements -/
def q_inc (P T N : Int → Int) (s k w i : Int) : Int := if w = 7 then sZ (q_struck P T N s k) i else if 3 ≤ w ∧ w ≤ 5 then sZ (fun x => b2 (T (4 + q_el T s k x) = w - 3)) i else 0
set_option maxHeartbeats 4000000 in
theorem c_unst {t e s k : Int} {M : jM} {P T N : Int → Int} (ht : 117 ≤ t) (he : e = 3 ∨ e = 56) (hT : bT T) (hN : bN N) (hL : bL T) (hs : 0 ≤ s ∧ s < T 1) (hE : rE e M T N) (m0 : M t 0 = e) (m1 : M t 1 = e + 16 + 1 + 6 * s) (hk : q_is P T N s k ≠ 0)
    (hst : ∀ el, 0 ≤ el → el < 10 → M (t + 5) el = q_cnt P T N s el k 0) (hfb : ∀ w, 0 ≤ w → w < 10 → -1000 ≤ M (t + 4) w ∧ M (t + 4) w ≤ 1000) :
    jT (f_X8_unstruckBases t k M) (fun p => p.1 = q_bases P T N s k ∧ (∀ a, a ≠ t + 1 → a ≠ t + 3 → a ≠ t + 4 → a ≠ t + 5 → p.2 a = M a) ∧ p.2 (t + 1) k = ((q_or (q_struck P T N s k) (q_many T s k).toNat : Nat) : Int) ∧ (∀ j, j ≠ k → p.2 (t + 1) j = M (t + 1) j) ∧ p.2 (t + 3) k = q_best P T N s k ∧ (∀ j, j ≠ k → p.2 (t + 3) j = M (t + 3) j)
      ∧ (∀ el, 0 ≤ el → el < 10 → p.2 (t + 5) el = q_cnt P T N s el k (q_many T s k)) ∧ ∀ w, 0 ≤ w → w < 10 → p.2 (t + 4) w = M (t + 4) w + q_inc P T N s k w (q_many T s k)) := by
  have t1 := hT.2.1
  have t0 := hT.1
  have hs6 : 0 ≤ s ∧ s < 6 := by omega
  have hkk := q_is_k hk
  have tt := hT.2.2.2.2.2.2.1 s hs6.1 hs6.2
  have hk12 : 0 ≤ k ∧ k < 12 := by omega
  have hsk := hE.2.2.2.2.2.2.2.2.2 s hs.1 hs.2
  obtain ⟨x1, x2, x3, x4, x5⟩ := hsk
  obtain ⟨y1, y2, y3, y4, y5⟩ := x4 k hkk.1 hkk.2
  have hm := q_many_b hT hs6 hk12
  have n7 := hN.2.2.2.2.2.2.2.2.1
  have kde := kd_e he
  have kdg := kd_g he hs6
  generalize hg : e + 16 + 1 + 6 * s = g at m1 x1 x2 x3 y1 y2 y3 y4 y5 kdg
  have hgb : 3 ≤ g ∧ g ≤ 103 := by omega
  have y2' : M (g + 2) k = q_many T s k := y2
  unfold f_X8_unstruckBases
  rw [pw_of (z := k) (by omega) (by omega)]
  refine t_ck (by omega) ?_
  refine t_let ?_
  refine t_ck (by omega) ?_
  refine t_let ?_
  refine t_lp3 (fun b i M7 => 0 ≤ i ∧ i ≤ q_many T s k ∧ b = sZ (fun i => if q_struck P T N s k i = 0 then N (954 + q_el T s k i) else 0) i ∧ (∀ a, a ≠ t + 1 → a ≠ t + 3 → a ≠ t + 4 → a ≠ t + 5 → M7 a = M a) ∧ M7 (t + 1) k = ((q_or (q_struck P T N s k) i.toNat : Nat) : Int) ∧ (∀ j, j ≠ k → M7 (t + 1) j = M (t + 1) j) ∧ M7 (t + 3) k = q_mx P T N s k i.toNat ∧ (∀ j, j ≠ k → M7 (t + 3) j = M (t + 3) j)
      ∧ (∀ el, 0 ≤ el → el < 10 → M7 (t + 5) el = q_cnt P T N s el k i) ∧ ∀ w, 0 ≤ w → w < 10 → M7 (t + 4) w = M (t + 4) w + q_inc P T N s k w i) (fun _ i _ => (q_many T s k - i).toNat) ?_ jfuel 0 0 _ (by rw [jfuel_eq]; omega) ⟨by omega, by omega, rfl, fun a h1 h2 h3 h4 => by rw [pst_f h1, pst_f h2], pst_s _ _ _ _, fun j hj => by rw [pst_i hj, pst_f (by omega)], by rw [pst_c (by omega), pst_s]; rfl, fun j hj => by rw [pst_f (by omega), pst_i hj], fun el h0 h1 => by rw [pst_f (by omega), pst_f (by omega)]; exact hst el h0 h1, fun w h0 h1 => by
        rw [pst_f (by omega), pst_f (by omega)]
        unfold q_inc
        rw [sZ_0, sZ_0]
        split <;> (try split) <;> omega⟩
  rintro self b i M7 ⟨hi1, hi2, hb, hfr, h1k, h1o, h3k, h3o, h5, h4⟩ hself
  have a0 : M7 t 0 = e := by rw [hfr t (by omega) (by omega) (by omega) (by omega)]; exact m0
  have a1 : M7 t 1 = g := by rw [hfr t (by omega) (by omega) (by omega) (by omega)]; exact m1
  have g2 : M7 (g + 2) = M (g + 2) := hfr _ (by omega) (by omega) (by omega) (by omega)
  have g3 : M7 (g + 3) = M (g + 3) := hfr _ (by omega) (by omega) (by omega) (by omega)
  have ee6 : M7 (e + 6) = M (e + 6) := hfr _ (by omega) (by omega) (by omega) (by omega)
  have ee5 : M7 (e + 5) = M (e + 5) := hfr _ (by omega) (by omega) (by omega) (by omega)
  have ee1 : M7 (e + 1) = M (e + 1) := hfr _ (by omega) (by omega) (by omega) (by omega)
  rw [a0, a1, g2, g3, ee6, ee1, y2']
  refine t_ck kdg ?_
  refine t_ck (by omega) ?_
  rw [pw_of (z := q_many T s k) (by omega) (by omega), pw_of (z := i) (by omega) (by omega)]
  refine t_if (fun hc => ?_) (fun hc => ?_)
  · have ei : i = q_many T s k := by omega
    subst ei
    exact t_some ⟨hb, hfr, h1k, h1o, h3k, h3o, h5, h4⟩
  · have hel1 : M (g + 3) (k * 3 + i) = q_el T s k i := y3 i hi1 (by unfold q_many at hc; omega)
    have hel2 : q_el T s k i < T 0 := (hL s k hs.1 hs.2 hkk.1 hkk.2).2 i hi1 (by unfold q_many at hc; omega)
    have hel3 := q_el_b hT hs6 hk12 (i := i) (by omega)
    rw [pw_of (z := k * 3 + i) (by omega) (by omega)]
    refine t_ck (by omega) ?_
    refine t_let ?_
    rw [hel1]
    generalize hel : q_el T s k i = el at hel2 hel3
    obtain ⟨z1, z2⟩ := hE.2.2.2.2.2.2.2.1 el hel3.1 hel2
    have hkd := hT.2.2.2.2.1 el (by omega) (by omega)
    refine t_ck kde ?_
    rw [pw_of (z := el) (by omega) (by omega)]
    refine t_ck (by omega) ?_
    refine t_let ?_
    rw [z2, pw_of (z := 3) (by omega) (by omega), hE.2.1 3 (by omega) (by omega), show (964 : Int) + 3 = 967 from rfl]
    generalize hkind : T (4 + el) = kind at hkd
    have hcb := q_cnt_b (P := P) (N := N) hT (el := el) (k := k) (i := i) hs6 (by omega) (by omega)
    have hstk : ∀ most, most = (if kind = 0 then N 967 else 1) → q_struck P T N s k i = b2 (most ≤ q_cnt P T N s el k i) := by
      intro most hmost
      unfold q_struck q_jump
      rw [q_stood_cnt hkk.1 hk, hel, hkind]
      apply b2_congr
      rw [hmost]
      by_cases ck : kind = 0
      · rw [b2_t ck, if_neg (by decide), if_pos ck]
      · rw [b2_f ck, if_pos rfl, if_neg ck]
    have e1 : (i + 1).toNat = i.toNat + 1 := by omega
    have e2 : ((i.toNat : Nat) : Int) = i := by omega
    have szb := sZ_s (f := fun i => if q_struck P T N s k i = 0 then N (954 + q_el T s k i) else 0) hi1
    have cntS : ∀ x, q_cnt P T N s x k (i + 1) = q_cnt P T N s x k i + b2 (el = x) := fun x => by
      unfold q_cnt
      rw [sZ_s hi1, hel]
      omega
    have incS : ∀ w, q_inc P T N s k w (i + 1) = q_inc P T N s k w i + (if w = 7 then q_struck P T N s k i else if 3 ≤ w ∧ w ≤ 5 then b2 (kind = w - 3) else 0) := fun w => by
      unfold q_inc
      rw [sZ_s hi1, sZ_s hi1, hel, hkind]
      split
      · rfl
      · split <;> rfl
    have body : ∀ most, most = (if kind = 0 then N 967 else 1) → jT (
        jck (0 ≤ jw (3 + kind) ∧ jw (3 + kind) < 10) <|
        jck (0 ≤ jw (3 + kind) ∧ jw (3 + kind) < 10) <|
        jlet (jst M7 (t + 4) (jw (3 + kind)) ((M7 (t + 4) (jw (3 + kind))) + 1)) fun M20 =>
        jck (0 ≤ el ∧ el < 10) <|
        jk (fun (l2_22 : Int) (M23 : jM) =>
          jck (0 ≤ el ∧ el < 10) <|
          jck (0 ≤ el ∧ el < 10) <|
          jlet (jst M23 (t + 5) el ((M23 (t + 5) el) + 1)) fun M27 =>
          jlet (i + 1) fun l3_28 =>
          self l2_22 l3_28 M27) fun (k24 : Int → jM → Option (Int × jM)) =>
        if jw (M20 (t + 5) el) < jw most then (
          jck (jkd (M20 t 0) = 1) <|
          jck (0 ≤ el ∧ el < 10) <|
          jlet ((b + (M20 ((M20 t 0) + 5) el))) fun l2_31 =>
          jck (0 ≤ k ∧ k < 12) <|
          jck (0 ≤ el ∧ el < 10) <|
          jbR (f_J9_max_7cf53 (M20 (t + 3) k) (M20 ((M20 t 0) + 5) el)) fun v35 =>
          jck (0 ≤ k ∧ k < 12) <|
          jlet (jst M20 (t + 3) k v35) fun M37 =>
          k24 l2_31 M37)
        else (
          jck (0 ≤ k ∧ k < 12) <|
          jck (0 ≤ k ∧ k < 12) <|
          jlet (jst M20 (t + 1) k (jor (M20 (t + 1) k) (jsl 1 i))) fun M40 =>
          jck (0 ≤ jw 7 ∧ jw 7 < 10) <|
          jck (0 ≤ jw 7 ∧ jw 7 < 10) <|
          jlet (jst M40 (t + 4) (jw 7) ((M40 (t + 4) (jw 7)) + 1)) fun M43 =>
          k24 b M43)) (fun p => p.1 = q_bases P T N s k ∧ (∀ a, a ≠ t + 1 → a ≠ t + 3 → a ≠ t + 4 → a ≠ t + 5 → p.2 a = M a) ∧ p.2 (t + 1) k = ((q_or (q_struck P T N s k) (q_many T s k).toNat : Nat) : Int) ∧ (∀ j, j ≠ k → p.2 (t + 1) j = M (t + 1) j) ∧ p.2 (t + 3) k = q_best P T N s k ∧ (∀ j, j ≠ k → p.2 (t + 3) j = M (t + 3) j)
      ∧ (∀ el, 0 ≤ el → el < 10 → p.2 (t + 5) el = q_cnt P T N s el k (q_many T s k)) ∧ ∀ w, 0 ≤ w → w < 10 → p.2 (t + 4) w = M (t + 4) w + q_inc P T N s k w (q_many T s k)) := by
      intro most hmost
      have hsq := hstk most hmost
      have hmb : 1 ≤ most ∧ most ≤ 3 := by rw [hmost]; split <;> omega
      rw [pw_of (z := 3 + kind) (by omega) (by omega), pw_of (z := 7) (by omega) (by omega), pw_of (z := most) (by omega) (by omega)]
      refine t_ck (by omega) ?_
      refine t_ck (by omega) ?_
      refine t_let ?_
      refine t_ck (by omega) ?_
      refine t_k ?_
      have r5 : jst M7 (t + 4) (3 + kind) (M7 (t + 4) (3 + kind) + 1) (t + 5) el = q_cnt P T N s el k i := by
        rw [pst_c (by omega)]; exact h5 el (by omega) (by omega)
      have r0 : jst M7 (t + 4) (3 + kind) (M7 (t + 4) (3 + kind) + 1) t 0 = e := by
        rw [pst_c (by omega)]; exact a0
      rw [r5, r0, pw_of (z := q_cnt P T N s el k i) (by omega) (by omega)]
      have rb : jst M7 (t + 4) (3 + kind) (M7 (t + 4) (3 + kind) + 1) (e + 5) el = N (954 + el) := by
        rw [pst_c (by omega), ee5]; exact z1
      have r3 : jst M7 (t + 4) (3 + kind) (M7 (t + 4) (3 + kind) + 1) (t + 3) k = q_mx P T N s k i.toNat := by
        rw [pst_c (by omega)]; exact h3k
      have r1 : jst M7 (t + 4) (3 + kind) (M7 (t + 4) (3 + kind) + 1) (t + 1) k = ((q_or (q_struck P T N s k) i.toNat : Nat) : Int) := by
        rw [pst_c (by omega)]; exact h1k
      rw [rb, r3, r1]
      have hnb := hN.2.2.2.2.1 el (by omega) (by omega)
      have hmxb := q_mx_b (P := P) hT hN hs6 hk12 i.toNat (by omega)
      refine t_if (fun c1 => ?_) (fun c1 => ?_)
      · have hq : q_struck P T N s k i = 0 := by rw [hsq]; exact b2_f (by omega)
        refine t_ck kde ?_
        refine t_ck (by omega) ?_
        refine t_let ?_
        refine t_ck (by omega) ?_
        refine t_ck (by omega) ?_
        refine t_Re (e_max (by omega) (by omega)) ?_
        refine t_ck (by omega) ?_
        refine t_let ?_
        refine t_ck (by omega) ?_
        refine t_ck (by omega) ?_
        refine t_let ?_
        refine t_let ?_
        refine hself _ _ _ ⟨by omega, by omega, ?_, fun a q1 q2 q3 q4 => ?_, ?_, fun j hj => ?_, ?_, fun j hj => ?_, fun x q0 q1 => ?_, fun w q0 q1 => ?_⟩ (by omega)
        · rw [szb, hq, if_pos rfl, hb, hel]
        · rw [pst_f q4, pst_f q2, pst_f q3]; exact hfr a q1 q2 q3 q4
        · rw [pst_c (by omega), pst_c (by omega), pst_c (by omega), h1k, q_or_s hi1, if_pos hq]
        · rw [pst_c (by omega), pst_c (by omega), pst_c (by omega)]; exact h1o j hj
        · rw [pst_c (by omega), pst_s, q_mx_s hi1, if_pos hq, hel]
        · rw [pst_c (by omega), pst_i hj, pst_c (by omega)]; exact h3o j hj
        · rw [cntS x]
          by_cases cx : x = el
          · subst cx
            rw [pst_s, pst_c (by omega), r5, b2_t rfl]
          · rw [pst_i cx, pst_c (by omega), pst_c (by omega), h5 x q0 q1, b2_f (fun q => cx q.symm), Int.add_zero]
        · rw [pst_c (by omega), pst_c (by omega), incS w, hq]
          by_cases cw : w = 3 + kind
          · subst cw
            rw [pst_s, h4 _ (by omega) (by omega), if_neg (by omega), if_pos (by omega), b2_t (by omega)]
            omega
          · rw [pst_i cw, h4 w q0 q1]
            split
            · omega
            · split
              · rw [b2_f (by omega)]; omega
              · omega
      · have hq : q_struck P T N s k i = 1 := by rw [hsq]; exact b2_t (by omega)
        refine t_ck (by omega) ?_
        refine t_ck (by omega) ?_
        refine t_let ?_
        refine t_ck (by omega) ?_
        refine t_ck (by omega) ?_
        refine t_let ?_
        refine t_ck (by omega) ?_
        refine t_ck (by omega) ?_
        refine t_let ?_
        refine t_let ?_
        refine hself _ _ _ ⟨by omega, by omega, ?_, fun a q1 q2 q3 q4 => ?_, ?_, fun j hj => ?_, ?_, fun j hj => ?_, fun x q0 q1 => ?_, fun w q0 q1 => ?_⟩ (by omega)
        · rw [szb, hq, if_neg (by decide), hb, Int.add_zero]
        · rw [pst_f q4, pst_f q3, pst_f q1, pst_f q3]; exact hfr a q1 q2 q3 q4
        · have hlt := q_or_lt (q_struck P T N s k) i.toNat
          have h8 : 2 ^ i.toNat ≤ 2 ^ 3 := Nat.pow_le_pow_right (by decide) (by omega)
          rw [pst_c (by omega), pst_c (by omega), pst_s, q_or_s hi1, if_neg (by omega)]
          exact or_sl (by omega) (by omega)
        · rw [pst_c (by omega), pst_c (by omega), pst_i hj, pst_c (by omega)]; exact h1o j hj
        · rw [pst_c (by omega), pst_c (by omega), pst_c (by omega), r3, q_mx_s hi1, if_neg (by omega)]
        · rw [pst_c (by omega), pst_c (by omega), pst_c (by omega), pst_c (by omega)]; exact h3o j hj
        · rw [cntS x]
          by_cases cx : x = el
          · subst cx
            rw [pst_s, pst_c (by omega), pst_c (by omega), r5, b2_t rfl]
          · rw [pst_i cx, pst_c (by omega), pst_c (by omega), pst_c (by omega), h5 x q0 q1, b2_f (fun q => cx q.symm), Int.add_zero]
        · rw [pst_c (by omega), incS w, hq]
          by_cases c7 : w = 7
          · subst c7
            rw [pst_s, pst_c (by omega), pst_i (by omega), h4 7 (by omega) (by omega), if_pos rfl]
            omega
          · rw [pst_i c7, pst_c (by omega), if_neg c7]
            by_cases cw : w = 3 + kind
            · subst cw
              rw [pst_s, h4 _ (by omega) (by omega), if_pos (by omega), b2_t (by omega)]
              omega
            · rw [pst_i cw, h4 w q0 q1]
              split
              · rw [b2_f (by omega)]; omega
              · omega
    refine t_k ?_
    rw [pw_of (z := kind) (by omega) (by omega)]
    refine t_if (fun ck => ?_) (fun ck => ?_)
    · refine t_ck (by omega) ?_
      exact body _ (by rw [if_pos ck])
    · exact body _ (by rw [if_neg ck])
