/-! ===== reading: the element's line ===== -/
theorem ln_element {e n p : Int} {tx : Int → Int} {A B Mc Mr X : jM} (hR : rc e tx n A B) (h : rLn e tx n A B p Mc Mr) (hpn : p < n) (hX : bgO (Mr 171 0 < 10) tx n B p Mr X) :
    jT (f_X4_elementLine Mc) (fun qc => ∀ (K : jM → Option jM) (Q : jM → Prop), (∀ Mr', Out e tx n A B p qc.1 qc.2 Mr' → jT (K Mr') Q) → jT (jbR (f_X10_hasFailed X) fun v131 => if jw v131 = 0 then (jbV (f_X10_elementLine X) fun M133 => K M133) else (K X)) Q) := by
  have hR' := hR
  obtain ⟨he, hO, hB, r10, r6⟩ := hR
  have h' := h
  obtain ⟨hc, hr, h13, h8, hE⟩ := h
  obtain ⟨hX1, hX2, hX3, hX4⟩ := hX
  have hp := rAt_b hr.1
  have n6 := hO.2.1
  have t0 := hE.1.1
  have hb := nx_b (tx := tx) (n := n) (p := p) (by omega)
  have hb2 := nx_b (tx := tx) (n := n) (p := nx tx n p) (by omega)
  have hb3 := nx_b (tx := tx) (n := n) (p := nx tx n (nx tx n p)) (by omega)
  have hb4 := nx_b (tx := tx) (n := n) (p := nx tx n (nx tx n (nx tx n p))) (by omega)
  have hH := hE.2.2.2.1
  have hfull : f_X2_isFull (e + 2) Mc = some (if Mr 171 0 < 10 then 0 else 1) := by
    unfold f_X2_isFull
    rw [hH.2.2.1, hc.2.2.2.2.1, r10, pw_of (z := Mr 171 0) (by omega) (by omega), pw_of (z := 10) (by omega) (by omega)]
    split <;> rfl
  unfold f_X4_elementLine
  rw [hc.2.1]
  refine t_ck (kd_e he) ?_
  refine t_let ?_
  rw [hH.2.2.1]
  refine t_Re hfull ?_
  by_cases c : Mr 171 0 < 10
  · have hX1 := hX1.resolve_right (fun z => z.1 c)
    rw [if_pos c]
    refine t_pos (by decide) ?_
    refine t_V (t_mono (cS_adv hc he) (fun M4 h4 => ?_))
    have h2 := RL_adv hR' h' h4 hX1.2 hX2 hX3 hX4
    have e71 : X 171 = Mr 171 := hX2 171 (by decide)
    have e72 : X 172 = Mr 172 := hX2 172 (by decide)
    obtain ⟨h4, h49⟩ := h4
    rw [h4.2.1]
    refine t_ck (kd_e he) ?_
    have hE2 := h2.2.2.2.2
    rw [e71, e72] at hE2
    have hH2 := hE2.2.2.2.1
    have e13 : M4 (e + 2) = Mc (e + 2) := h49.1 _ (by omega)
    have hl := ln_nm he
    refine t_W (t_mono (cS_new (D := Mr 171) (N := 10) (m := Mr 171 0) (base := 14) h4 he (by decide) (Or.inl rfl) hl.1 hl.2.1 (by rw [e13, hc.2.2.2.2.1, r10]) hH2.2.2.1 (by omega) (by rw [show e + 2 + 1 = e + 3 from by omega, show e + 2 + 2 = e + 4 from by omega]; exact hH2.2.2.2.2.2.1)) (fun q hq => ?_))
    obtain ⟨r, hrr, hr1, hr3, hr4, hr5⟩ := rS_new (base := 14) (m := Mr 171 0) hO hB hX1.2 (by decide) (by omega) (by rw [e71]; exact rNm_i hH2.2.2.2.2.2.1)
    rw [e71] at hr1
    have rstep : ∀ (K : jM → Option jM) (Q : jM → Prop), jT (FrK (Mr 171 0) (fun (M14 : jM) => jbW (f_X10_number 0 2000 M14) fun v18 M17 => jck (0 ≤ jw (954 + Mr 171 0) ∧ jw (954 + Mr 171 0) < 971) <| jlet (jst M17 172 (jw (954 + Mr 171 0)) v18) fun M20 => jck (0 ≤ jw 0 ∧ jw 0 < 1089) <| jck (0 ≤ jw 0 ∧ jw 0 < 1089) <| jlet (jst M20 171 (jw 0) ((M20 171 (jw 0)) + 1)) fun M23 => some M23) r) (fun Y => jT (K Y) Q) → jT (jbR (f_X10_hasFailed X) fun v131 => if jw v131 = 0 then (jbV (f_X10_elementLine X) fun M133 => K M133) else (K X)) Q := fun K Q hj => by
      refine t_Re (e_failed (by rw [hX1.2.2.1]; omega)) ?_
      rw [if_pos hX1.2.2.1]
      refine t_pos (by decide) ?_
      refine t_V ?_
      unfold f_X10_elementLine
      refine t_ck (by decide) ?_
      refine t_let ?_
      rw [show X 171 (jw 0) = Mr 171 0 from by rw [e71]; rfl]
      refine t_Ve hrr ?_
      exact hj
    rcases hq with hy | hy
    · obtain ⟨y1, y2, y3, y4, y5, y6, y7⟩ := hy
      have hz := hr1.resolve_right (fun z => z.1 y1)
      rw [y2]
      refine t_neg (by decide) ?_
      refine t_Re (c_am y3.1 (by decide) swJ.2.1 okW0.2.1) ?_
      have hix := ix_b (w := wd tx n (nx tx n (nx tx n p))) W1 0 (by decide)
      rw [show ((W1.length : Nat) : Int) = 3 from rfl] at hix
      rw [pw_of (z := ixW (wd tx n (nx tx n (nx tx n p))) W1 0) (by omega) (by omega), pw_of (z := -1) (by omega) (by omega), pw_of (z := Mr 171 0) (by omega) (by omega)]
      refine t_if (fun ci => ?_) (fun ci => ?_)
      · refine c_refuse ?_
        intro K Q hK
        dsimp only at hK
        rw [y3.1.2.2.2.2.1] at hK
        refine rstep K Q (e_kind hO hB hz.2.1 (by omega) (fun Y k1 k2 k3 k4 k5 => ?_))
        have k5 := k5.resolve_left (fun z => z.1 ci)
        have hfl := fl_0 (e := e) (A := A) (Mc := q.2) (p := nx tx n (nx tx n p)) (by omega) y3.2.2.2 he k5.2.1 k5.2.2.1 k5.2.2.2
        refine t_We (l_num hfl) ?_
        rw [pw_of (z := 954 + Mr 171 0) (by omega) (by omega)]
        refine t_ck (by omega) (t_let ?_)
        refine t_ck (by decide) (t_ck (by decide) (t_let (t_some ?_)))
        exact hK _ (Or.inr ⟨rfl, fl_1 (fl_2 hfl _ _) _ _⟩)
      · have hwl : nx tx n (nx tx n p) < rn isLt tx n (nx tx n (nx tx n p)) := by
          rcases Int.lt_or_le (nx tx n (nx tx n p)) (rn isLt tx n (nx tx n (nx tx n p))) with w | w
          · exact w
          · have hw : wd tx n (nx tx n (nx tx n p)) = [] := List.length_eq_zero_iff.1 (by rw [wd_len]; omega)
            exact absurd (by rw [hw]; exact ix_nil W1 0 okW0.2.1) ci
        refine t_V (t_mono (cS_adv y3 he) (fun M14 h14 => ?_))
        obtain ⟨h14, h149⟩ := h14
        refine t_W (t_mono (cS_num (lo := 0) (hi := 2000) h14 he (by decide) (by decide)) (fun w hw => ?_))
        obtain ⟨hw1, hw2, hw3⟩ := hw
        rcases hw1 with hu | hu
        · rw [hu.2.1, hu.2.2.2.2.1]
          refine t_neg (by decide) ?_
          refine t_ck (kd_e he) ?_
          refine t_ck (by omega) ?_
          refine t_let ?_
          rw [pst_c (show (109 : Int) ≠ e + 6 by omega), hu.2.2.2.2.1]
          refine t_ck (kd_e he) ?_
          refine t_ck (by omega) ?_
          refine t_let (t_some ?_)
          intro K Q hK
          dsimp only at hK
          rw [pst_c (show (109 : Int) ≠ e + 6 by omega)] at hK
          refine rstep K Q (e_kind hO hB hz.2.1 (by omega) (fun Y k1 k2 k3 k4 k5 => ?_))
          have k5 := k5.resolve_right (fun z => ci z.1)
          refine t_W (t_mono (rS_num (lo := 0) (hi := 2000) hO hB k5.2.1 (by decide) (by decide)) (fun m hm => ?_))
          obtain ⟨hm1, hm2, hm3, hm4, hm5⟩ := hm
          have hm1 := hm1.resolve_right (fun z => z.1 hu.1)
          rw [pw_of (z := 954 + Mr 171 0) (by omega) (by omega)]
          refine t_ck (by omega) (t_let ?_)
          refine t_ck (by decide) (t_ck (by decide) (t_let (t_some ?_)))
          rw [pw_of (z := 0) (by omega) (by omega), pst_c (show (171 : Int) ≠ 172 by decide)]
          have m0 : m.2 171 0 = Mr 171 0 := by rw [hm3 171 (by decide), k4 0 (by omega)]; exact hz.2.2.2 0 (by omega)
          refine hK _ (Or.inl ⟨rfl, nx tx n (nx tx n (nx tx n (nx tx n p))), by omega, ?_, ⟨?_, ?_, ?_⟩, ?_, ?_, ?_⟩)
          · exact cS_st (cS_st hu.2.2.2 he (frC_s (by omega) (Or.inl (by omega))) (fun j _ _ => pst_c (by omega))) he (frC_s (by omega) (Or.inl (by omega))) (fun j _ _ => pst_c (by omega))
          · unfold rAt
            rw [pst_c (by decide), pst_c (by decide)]
            exact hm1.2.2.1
          · rw [pst_c (by decide), pst_c (by decide)]
            exact hm1.2.2.2.1
          · exact frR_t (frR_t hm1.2.2.2.2 (frR_2 _ _ _)) (frR_1 _ _ _)
          · rw [pst_c (by decide), pst_c (by decide), hm4, k2, hr4]
            exact h2.2.2.1
          · rw [pst_c (by omega), pst_c (by omega), pst_c (by decide), pst_c (by decide), hw3, h149.2 8 (by decide) (by decide) (by decide), y7, hm5, k3, hr5]
            exact h2.2.2.2.1
          · rw [pst_c (show (166 : Int) ≠ 171 by decide), pst_c (show (166 : Int) ≠ 172 by decide), pst_f (show (172 : Int) ≠ 171 by decide), hm5, k3, hr5]
            have T0 : ∀ j, j ≠ 0 → jst (jst m.2 172 (954 + Mr 171 0) m.1) 171 0 (m.2 171 0 + 1) 171 j = Y 171 j := fun j b => by rw [pst_i b, pst_c (by decide), hm3 171 (by decide)]
            have T1 : jst (jst m.2 172 (954 + Mr 171 0) m.1) 171 0 (m.2 171 0 + 1) 171 0 = Mr 171 0 + 1 := by rw [pst_s, m0]
            generalize jst (jst m.2 172 (954 + Mr 171 0) m.1) 171 0 (m.2 171 0 + 1) 171 = T' at T0 T1 ⊢
            have wa : ∀ a, a ≠ 109 → w.2 a = q.2 a := fun a b => by rw [hw2 a b, h149.1 a b]
            have hbb := hm1.1.2.2
            rw [← hm1.2.1] at hbb
            have hv : w.2 109 6 = m.1 := by rw [hu.2.2.1, hm1.2.1]
            rw [hX4]
            rw [hX4] at hE2
            refine evT_elem (b := m.1) (kd := ixW (wd tx n (nx tx n (nx tx n p))) W1 0) hE2 (by omega) c hbb (by omega) (fun a b0 b1 b2 => ?_) ?_ (fun j => ?_) (fun j => ?_) ?_ (fun j b0 b1 b2 => ?_) T1 ?_ (fun j b => ?_) (pst_s _ _ _ _)
            · rw [pst_f (by omega), pst_f (by omega), wa a (by omega)]
              exact y6 a (by omega) (by omega) (by omega) (by omega)
            · rw [pst_c (by omega), pst_c (by omega), wa (e + 2) (by omega)]
              exact y4
            · by_cases cj : j = Mr 171 0
              · rw [if_pos cj, cj, pst_s, hv]
              · rw [if_neg cj, pst_i cj, pst_f (by omega), wa (e + 5) (by omega), y6 (e + 5) (by omega) (by omega) (by omega) (by omega)]
            · rw [pst_f (show e + 6 ≠ e + 5 by omega)]
              by_cases cj : j = Mr 171 0
              · rw [if_pos cj, cj, pst_s]
              · rw [if_neg cj, pst_i cj, wa (e + 6) (by omega), y6 (e + 6) (by omega) (by omega) (by omega) (by omega)]
            · have := y5 T' (fun i k i0 i1 k0 k1 => by rw [T0 _ (by omega), k4 _ (by omega)]; exact hz.2.2.2 _ (by omega)) (fun k k0 k1' => by rw [T0 _ (by omega), k4 _ (by omega)]; exact hz.2.2.1 k k0 k1')
              rw [show e + 2 + 1 = e + 3 from by omega, show e + 2 + 2 = e + 4 from by omega] at this
              rw [pst_f (by omega), pst_f (by omega), pst_f (by omega), pst_f (by omega), wa (e + 3) (by omega), wa (e + 4) (by omega)]
              exact this
            · rw [T0 j b0, k4 j b1]
              exact hz.2.2.2 j (by omega)
            · rw [T0 _ (by omega)]
              exact k5.2.2
            · rw [pst_i b, hm3 172 (by decide), k1 172 (by decide) (by decide), hr3 172 (by decide) (by decide), e72]
        · rw [hu.2.1]
          refine t_pos (by decide) (t_some ?_)
          intro K Q hK
          dsimp only at hK
          refine rstep K Q (e_kind hO hB hz.2.1 (by omega) (fun Y k1 k2 k3 k4 k5 => ?_))
          have k5 := k5.resolve_right (fun z => ci z.1)
          refine t_W (t_mono (rS_num (lo := 0) (hi := 2000) hO hB k5.2.1 (by decide) (by decide)) (fun m hm => ?_))
          obtain ⟨hm1, hm2, hm3, hm4, hm5⟩ := hm
          have hm1 := hm1.resolve_left (fun z => hu.1 z.1)
          rw [pw_of (z := 954 + Mr 171 0) (by omega) (by omega)]
          refine t_ck (by omega) (t_let ?_)
          refine t_ck (by decide) (t_ck (by decide) (t_let (t_some ?_)))
          refine hK _ (Or.inr ⟨rfl, fl_1 (fl_2 ⟨?_, ?_, hu.2.2.2, hm1.2.2.1, hm1.2.2.2⟩ _ _) _ _⟩)
          · rw [hu.2.2.1]
            omega
          · rw [hu.2.2.1]
            exact hm1.2.1
    · obtain ⟨y1, y2⟩ := hy
      have hz := hr1.resolve_left (fun z => y1 z.1)
      rw [y2]
      refine t_pos (show jw 0 = 0 by decide) (t_some ?_)
      intro K Q hK
      dsimp only at hK
      have hfl := fl_0 (e := e) (A := A) (Mc := M4) (p := nx tx n p) (by omega) h4.2.2.2 he hz.2.1 hz.2.2.2.1 hz.2.2.2.2
      refine rstep K Q (l_kind hfl (by omega) (fun Y hY => ?_))
      refine t_We (l_num hY) ?_
      rw [pw_of (z := 954 + Mr 171 0) (by omega) (by omega)]
      refine t_ck (by omega) (t_let ?_)
      refine t_ck (by decide) (t_ck (by decide) (t_let (t_some ?_)))
      exact hK _ (Or.inr ⟨rfl, fl_1 (fl_2 hY _ _) _ _⟩)
  · have hX1 := hX1.resolve_left (fun z => c z.1)
    rw [if_neg c]
    refine t_neg (by decide) ?_
    refine c_refuse ?_
    intro K Q hK
    dsimp only at hK
    rw [hc.1.2.2.2.2.1] at hK
    have hfl := fl_0 (e := e) (A := A) (Mc := Mc) (p := p) (by omega) hc.2.2.2 he hX1.2.1 hX1.2.2.1 hX1.2.2.2
    refine t_Re (l_failed (fl_okF hfl)) ?_
    refine t_neg (by decide) ?_
    exact hK _ (Or.inr ⟨rfl, hfl⟩)
