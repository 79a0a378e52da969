/-! ===== write: the component's attempt; write ===== -/
theorem cE_W {e : Int} {M M' : jM} {T N : Int → Int} (h : cE e M T N) (hf : fW M M') : cE e M' T N := by
  obtain ⟨he, hT, hN, hL, hE⟩ := h
  exact ⟨he, hT, hN, hL, rE_fr hT.2.1.2 hE (fun a q0 q1 q2 => hf a (by omega) (by omega))⟩
theorem pb_c1 : ∀ v : Nat, v < 8 → jnd (v : Int) 1 = q_in (v : Int) 0 ∧ jnd (v : Int) 2 = 2 * q_in (v : Int) 1 := by decide +kernel
theorem c_c1 {v : Int} (h : 0 ≤ v ∧ v ≤ 7) : jnd v 1 = q_in v 0 ∧ jnd v 2 = 2 * q_in v 1 := by
  have := pb_c1 v.toNat (by omega)
  rw [← pn_nat h.1] at this
  exact this
theorem c_putAtt {e s k : Int} {M : jM} {P T N : Int → Int} {L : List Int} (h : pg 164 1 165 M L) (hl : L.length + 33 ≤ 420) (hC : cE e M T N) (hQ : cQ P T 600 0) (hs : 0 ≤ s ∧ s < T 1) (hw : wT (111 + 6 + 7 * s) e s M P T N) (hk : q_is P T N s k ≠ 0) : jT (f_X3_putAttempt e (e + 16 + 1 + 6 * s) k (111 + 6 + 7 * s) M) (cW M L (tryL P T N s k)) := by
  have he := hC.1
  have hT := hC.2.1
  have hN := hC.2.2.1
  have hE := hC.2.2.2.2
  have t0 := hT.1
  have t1 := hT.2.1
  have t2 := hT.2.2.1
  have hcP := cQ_cP hT hQ
  have hs6 : 0 ≤ s ∧ s < 6 := by omega
  have hkk := q_is_k hk
  have tt := hT.2.2.2.2.2.2.1 s hs6.1 hs6.2
  have hk12 : 0 ≤ k ∧ k < 12 := by omega
  have hmb := q_many_b hT hs6 hk12
  have sk := hE.2.2.2.2.2.2.2.2.2 s hs.1 hs.2
  obtain ⟨y1, y2, y3, y4, y5⟩ := sk.2.2.2.1 k hkk.1 hkk.2
  have hbl := hC.2.2.2.1 s k hs.1 hs.2 hkk.1 hkk.2
  obtain ⟨l1, l2, l3, l4⟩ := ln_n he
  unfold f_X3_putAttempt
  rw [pw_of (z := k) (by omega) (by omega)]
  refine t_V (t_mono (c_put h (by omega) (by decide)) (fun M2 h2 => ?_))
  refine t_lp2 (fun i M4 => 0 ≤ i ∧ i ≤ q_many T s k ∧ cW M L ([10] ++ elL T s k i.toNat) M4) (fun i _ => (q_many T s k - i).toNat) ?_ jfuel 0 M2 (by rw [jfuel_eq]; omega) ⟨by omega, by omega, by
    show cW M L ([10] ++ []) M2
    rw [List.append_nil]
    exact h2⟩
  rintro self i M4 ⟨hi1, hi2, h4⟩ hself
  have hlen := elL_len T s k i.toNat
  refine t_ck (by omega) ?_
  have ev2 : M4 (e + 16 + 1 + 6 * s + 2) k = q_many T s k := by
    rw [h4.2 _ (by omega) (by omega)]
    exact y2
  rw [ev2, pw_of (z := q_many T s k) (by omega) (by omega), pw_of (z := i) (by omega) (by omega)]
  refine t_if (fun c => ?_) (fun c => ?_)
  · rw [show i = q_many T s k from by omega] at h4 hlen
    have opt1 : ∀ (X : jM) (l : List Int) (b x : Int) (kk : jM → Option jM) (b' : Int), (b' = 0 ↔ b = 0) → (b' = 0 ∨ b' = 1 ∨ b' = 2) → 0 ≤ x ∧ x ≤ 127 → cW M L l X → L.length + l.length < 420 → (∀ X', cW M L (l ++ c1L b x) X' → jT (kk X') (cW M L (tryL P T N s k))) → jT (if jw b' = 0 then kk X else jbV (f_X3_put x X) fun M36 => kk M36) (cW M L (tryL P T N s k)) := fun X l b x kk b' hb hb' hx hX hll hk => by
      rw [pw_of (z := b') (by omega) (by omega)]
      refine t_if (fun c => ?_) (fun c => ?_)
      · refine hk X ?_
        unfold c1L
        rw [if_pos (hb.1 c), List.append_nil]
        exact hX
      · refine t_V (t_mono (c_put hX.1 (by rw [List.length_append]; omega) hx) (fun X' hX' => ?_))
        refine hk X' ?_
        have := cW_t hX hX'
        unfold c1L
        rw [if_neg (fun q => c (hb.2 q))]
        exact this
    have g1 := c1L_len (q_in (q_calls P N s k) 0) 60
    have g2 := c1L_len (q_in (q_calls P N s k) 1) 33
    have g3 := c1L_len (q_late P T N s k) 120
    have hcb := q_calls_b (P := P) hN hs6 hk12
    have hcl : q_calls P N s k = N (810 + (12 * s + k)) := by
      unfold q_calls
      exact if_pos hQ.2.2.2.2.2
    have y4' : M (e + 16 + 1 + 6 * s + 4) k = q_calls P N s k := by rw [hcl]; exact y4
    obtain ⟨cc1, cc2⟩ := c_c1 hcb
    have q0 := q_in_b (q_calls P N s k) 0
    have q1 := q_in_b (q_calls P N s k) 1
    refine t_ck (by omega) ?_
    refine t_k ?_
    rw [h4.2 (e + 16 + 1 + 6 * s + 4) (by omega) (by omega), y4', cc1]
    refine opt1 M4 _ (q_in (q_calls P N s k) 0) 60 _ _ Iff.rfl (by omega) (by decide) h4 (by simp only [List.length_append, List.length_singleton]; omega) (fun M12 h12 => ?_)
    refine t_ck (by omega) ?_
    refine t_k ?_
    rw [h12.2 (e + 16 + 1 + 6 * s + 4) (by omega) (by omega), y4', cc2]
    refine opt1 M12 _ (q_in (q_calls P N s k) 1) 33 _ _ (by omega) (by omega) (by decide) h12 (by simp only [List.length_append, List.length_singleton]; omega) (fun M18 h18 => ?_)
    have hw18 : wT (111 + 6 + 7 * s) e s M18 P T N := wT_keep hw (fun a x0 x1 => h18.2 a (by omega) (by omega))
    obtain ⟨n, n1, n2, n3⟩ := c_late hT hs6 hw18 hk
    refine t_Re (c_isLate n1 n2 hk12) ?_
    rw [n3]
    refine t_k ?_
    refine opt1 M18 _ (q_late P T N s k) 120 _ _ Iff.rfl (by have := q_late_b P T N s k; omega) (by decide) h18 (by simp only [List.length_append, List.length_singleton]; omega) (fun M22 h22 => ?_)
    refine t_V (t_mono (c_put h22.1 (by simp only [List.length_append, List.length_singleton]; omega) (by decide)) (fun M25 h25 => ?_))
    have h25 := cW_t h22 h25
    have hC25 := cE_W hC h25.2
    have hw25 : wT (111 + 6 + 7 * s) e s M25 P T N := wT_keep hw (fun a x0 x1 => h25.2 a (by omega) (by omega))
    refine t_Re (c_every (J := (T 2).toNat) (by rw [hC25.2.2.2.2.1]; omega) (by omega)) ?_
    rw [← hQ.2.1]
    refine t_Re (c_pts hC25 hs hcP hQ.2.2.2.2.1 hw25 hk).2 ?_
    have hpb := q_ptsAt_b hcP.1 hT hN hcP.2.1 hs6 hk12
    refine t_V (t_mono (c_putHd h25.1 (by simp only [List.length_append, List.length_singleton]; omega) (by omega)) (fun M30 h30 => ?_))
    exact t_some (cW_t h25 h30)
  · have heb := q_el_b hT hs6 hk12 (i := i) (by omega)
    have hes := elL_s (T := T) (s := s) (k := k) hi1
    have hel : q_el T s k i < T 0 := hbl.2 i hi1 (by unfold q_many at c; omega)
    refine t_kP (fun kk => ∀ X, cW M L ([10] ++ (elL T s k i.toNat ++ (if i ≤ 0 then [] else [43]))) X → jT (kk X) (cW M L (tryL P T N s k))) ?_ ?_
    · intro X hX
      have h43 : (if i ≤ 0 then ([] : List Int) else [43]).length ≤ 1 := by split <;> simp
      have hCX := cE_W hC hX.2
      rw [pw_of (z := k * 3 + i) (by omega) (by omega)]
      refine t_ck (by omega) ?_
      have e3 : X (e + 16 + 1 + 6 * s + 3) (k * 3 + i) = q_el T s k i := by
        rw [hX.2 _ (by omega) (by omega)]
        exact y3 i hi1 (by unfold q_many at c; omega)
      rw [e3]
      refine t_V (t_mono (c_putName (t := e + 2) (i := q_el T s k i) (n := 10) (base := 14) (m := T 0) (T := T) hX.1 (by simp only [List.length_append, List.length_singleton]; omega) (by omega) l1 l2 (by omega) (by omega) (by rw [show e + 2 + 1 = e + 3 from by omega, show e + 2 + 2 = e + 4 from by omega]; exact hCX.2.2.2.2.2.2.2.2.2.1) ⟨heb.1, hel⟩) (fun M42 h42 => ?_))
      refine t_let ?_
      refine hself _ _ ⟨by omega, by omega, ?_⟩ (by omega)
      rw [hes]
      have := cW_t hX h42
      rw [List.append_assoc] at this
      exact this
    · intro k38 hk38
      refine t_if (fun c1 => ?_) (fun c1 => ?_)
      · refine hk38 M4 ?_
        rw [if_pos c1, List.append_nil]
        exact h4
      · refine t_V (t_mono (c_put h4.1 (by simp only [List.length_append, List.length_singleton]; omega) (by decide)) (fun M45 h45 => ?_))
        refine hk38 M45 ?_
        rw [if_neg c1]
        have := cW_t h4 h45
        rw [List.append_assoc] at this
        exact this
def triesL (P T N : Int → Int) (s : Int) : Nat → List Int
  | 0 => []
  | k + 1 => if q_is P T N s (k : Int) = 0 then triesL P T N s k else triesL P T N s k ++ tryL P T N s (k : Int)
def txtL (P T N : Int → Int) (s : Int) : List Int := nmL (fun x => T (74 + 6 * s + x)) 6 ++ [32] ++ hdL (q_total P T N s) ++ triesL P T N s (T (116 + s)).toNat
theorem triesL_s {P T N : Int → Int} {s k : Int} (h : 0 ≤ k) : triesL P T N s (k + 1).toNat = if q_is P T N s k = 0 then triesL P T N s k.toNat else triesL P T N s k.toNat ++ tryL P T N s k := by
  rw [show (k + 1).toNat = k.toNat + 1 from by omega]
  show (if q_is P T N s ((k.toNat : Nat) : Int) = 0 then _ else _) = _
  rw [← pn_nat h]
theorem triesL_len {P T N : Int → Int} (hP : bP P) (hT : bT T) (hN : bN N) (hJ : bJ P T) {s : Int} (hs : 0 ≤ s ∧ s < 6) : ∀ n : Nat, n ≤ 12 → (triesL P T N s n).length ≤ 33 * n := by
  intro n
  induction n with
  | zero => intro _; exact Nat.le_refl _
  | succ n ih =>
    intro hn
    have h1 := ih (by omega)
    have h2 := tryL_len (P := P) (N := N) hP hT hN hJ hs (k := (n : Int)) (by omega)
    unfold triesL
    split
    · omega
    · rw [List.length_append]
      omega
theorem c_putSk {e s : Int} {M : jM} {P T N : Int → Int} (hC : cE e M T N) (hQ : cQ P T 600 0) (hs : 0 ≤ s ∧ s < T 1) (hw : wT (111 + 6 + 7 * s) e s M P T N) (hj : jgd (111 + 6 + 7 * s) s M P T N) : jT (f_X3_putSkater e s (111 + 6 + 7 * s) M) (fun M' => pg 164 1 165 M' (txtL P T N s) ∧ fW M M') := by
  have he := hC.1
  have hT := hC.2.1
  have hN := hC.2.2.1
  have hE := hC.2.2.2.2
  have t1 := hT.2.1
  have hcP := cQ_cP hT hQ
  have hs6 : 0 ≤ s ∧ s < 6 := by omega
  have tt := hT.2.2.2.2.2.2.1 s hs6.1 hs6.2
  have sk := hE.2.2.2.2.2.2.2.2.2 s hs.1 hs.2
  have htb := q_total_b (N := N) hcP.1 hT hN hcP.2.1 hs6
  obtain ⟨l1, l2, l3, l4⟩ := ln_n he
  unfold f_X3_putSkater
  rw [pw_of (z := s) (by omega) (by omega)]
  refine t_ck (by omega) ?_
  refine t_let ?_
  have hp0 : pg 164 1 165 (jst M 164 1 0) [] := ⟨pst_s _ _ _ _, fun i hi => absurd hi (Nat.not_lt_zero _)⟩
  have hf0 : fW M (jst M 164 1 0) := fun a q0 q1 => pst_f q0
  have nlen := nmL_len (fun x => T (74 + 6 * s + x)) 6
  have hdlen := hdL_len (v := q_total P T N s) (by omega)
  refine t_V (t_mono (c_putName (t := e + 13) (i := s) (n := 6) (base := 74) (m := T 1) (T := T) hp0 (by decide) (by omega) l3 l4 (by omega) (by omega) (by rw [show e + 13 + 1 = e + 14 from by omega, show e + 13 + 2 = e + 15 from by omega]; exact (cE_W hC hf0).2.2.2.2.2.2.2.2.2.2.1) hs) (fun M4 h4 => ?_))
  refine t_V (t_mono (c_put h4.1 (by simp only [List.length_append, List.length_nil]; omega) (by decide)) (fun M6 h6 => ?_))
  have h6 := cW_t h4 h6
  have hj6 : M6 (111 + 6 + 7 * s) 8 = q_total P T N s := by
    rw [h6.2 _ (by omega) (by omega), hf0 _ (by omega) (by omega)]
    exact hj.2.2
  rw [hj6]
  refine t_V (t_mono (c_putHd h6.1 (by simp only [List.length_append, List.length_nil, List.length_singleton]; omega) (by omega)) (fun M8 h8 => ?_))
  have h8 := cW_t h6 h8
  refine t_lp2 (fun k M10 => 0 ≤ k ∧ k ≤ T (116 + s) ∧ cW (jst M 164 1 0) [] (nmL (fun x => T (74 + 6 * s + x)) 6 ++ [32] ++ hdL (q_total P T N s) ++ triesL P T N s k.toNat) M10) (fun k _ => (T (116 + s) - k).toNat) ?_ jfuel 0 M8 (by rw [jfuel_eq]; omega) ⟨by omega, by omega, by
    show cW _ _ (nmL (fun x => T (74 + 6 * s + x)) 6 ++ [32] ++ hdL (q_total P T N s) ++ []) M8
    rw [List.append_nil]
    exact h8⟩
  rintro self k M10 ⟨hk1, hk2, h10⟩ hself
  have hf10 := fW_t hf0 h10.2
  have hC10 := cE_W hC hf10
  have sk10 := hC10.2.2.2.2.2.2.2.2.2.2.2.2.2 s hs.1 hs.2
  have hts := triesL_s (P := P) (T := T) (N := N) (s := s) hk1
  have htl := triesL_len (P := P) (N := N) hcP.1 hT hN hcP.2.1 hs6 k.toNat (by omega)
  rw [sk10.1, pw_of (z := T (116 + s)) (by omega) (by omega), pw_of (z := k) (by omega) (by omega)]
  refine t_if (fun c => ?_) (fun c => ?_)
  · refine t_some ⟨?_, hf10⟩
    rw [show k = T (116 + s) from by omega] at h10
    exact h10.1
  · have htm := hT.2.2.2.2.2.2.2.1 (12 * s + k) (by omega) (by omega)
    have h16 := hQ.2.2.1
    refine t_Re (c_has hT hN hs6 sk10 (by omega)) ?_
    have hq : b2 (0 ≤ k ∧ k < T (116 + s) ∧ N (882 + (12 * s + k)) = 0) = q_is P T N s k := by
      unfold q_is
      by_cases cg : N (882 + (12 * s + k)) = 0
      · rw [b2_t ⟨by omega, by omega, cg⟩, b2_t ⟨by omega, by omega, cg, by omega⟩]
      · rw [b2_f (fun q => cg q.2.2), b2_f (fun q => cg q.2.2.1)]
    rw [hq]
    rcases q_is_b P T N s k with q | q
    · rw [q]
      refine t_pos (by decide) ?_
      refine t_let ?_
      rw [if_pos q] at hts
      exact hself _ _ ⟨by omega, by omega, by rw [hts]; exact h10⟩ (by omega)
    · have hlt : k.toNat ≤ 11 := by omega
      rw [q]
      refine t_neg (by decide) ?_
      rw [if_neg (by omega)] at hts
      refine t_V (t_mono (c_putAtt h10.1 (by simp only [List.length_append, List.length_nil, List.length_singleton]; omega) hC10 hQ hs (wT_keep hw (fun a x0 x1 => hf10 a (by omega) (by omega))) (by omega)) (fun M16 h16 => ?_))
      refine t_let ?_
      refine hself _ _ ⟨by omega, by omega, ?_⟩ (by omega)
      rw [hts, ← List.append_assoc]
      exact cW_t h10 h16
