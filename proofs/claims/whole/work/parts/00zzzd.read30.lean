/-! ===== reading: an atom ===== -/
theorem rS_iss {tx : Int → Int} {n p c : Int} {B M : jM} (hO : okT tx n) (hB : rTx tx n B) (h : rS tx n B p M) (hc : 0 ≤ c ∧ c ≤ 127) : jT (f_X10_isSign c M) (fun q => q.1 = b2 (p < n ∧ tx p = c) ∧ q.2 166 4 = p ∧ q.2 166 5 = p ∧ rS tx n B p q.2 ∧ fr6 M q.2) := by
  refine t_mono (e_isSign hO (rTx_R hB h.2.2) h.1 h.2.1 hc) (fun q hq => ?_)
  obtain ⟨g0, g1, g2, g3⟩ := hq
  exact ⟨g0, g1, g2, ⟨rAt_p h.1 g1, by rw [g3.2 7 (by decide) (by decide)]; exact h.2.1, frR_t h.2.2 (frR_6 g3)⟩, g3⟩
/-- the point goes on over a sign -/
theorem rS_pt {tx : Int → Int} {n p c : Int} {B M : jM} (hc : 33 ≤ c ∧ c ≤ 64 ∧ (c < 48 ∨ 57 < c)) (h : rS tx n B p M) (h4 : M 166 4 = p) (hp : p < n ∧ tx p = c) : rS tx n B (nx tx n p) (jst M 166 4 (p + 1)) := by
  have hb := rAt_b h.1
  refine ⟨?_, by rw [pst_i (by decide)]; exact h.2.1, frR_t h.2.2 (frR_6 (fr6_4 _ _))⟩
  unfold rAt
  rw [pst_s]
  refine ⟨by omega, by omega, ?_⟩
  unfold nx
  rw [(tk_sg hc).2 hp]
theorem fl_sg {e n p c : Int} {tx : Int → Int} {A B Mc X : jM} (hO : okT tx n) (hB : rTx tx n B) (h : fl e n A B Mc X) : jT (f_X10_asksSign c X) (fun Y => fl e n A B Mc Y) := t_mono (l_asks hO (rTx_R hB h.2.2.2.1) h.2.2.2.2 (fl_okF h)) (fun _ hY => fl_fX h hY)
theorem rR_13 {tx : Int → Int} {n r c0 d d' p : Int} {B R0 M : jM} {L : List Int} (h : rR tx n B R0 r c0 L d p M) : rR tx n B R0 r c0 L d' p (jst M 166 13 d') := by
  obtain ⟨a1, a2, a3, a4, a5, a6, a7⟩ := h
  have e1 : jst M 166 13 d' 171 = M 171 := pst_f (by decide)
  refine ⟨⟨?_, by rw [pst_i (by decide)]; exact a1.2.1, frR_t a1.2.2 ⟨fun a q _ _ => pst_f q, fun j _ _ _ q _ => pst_i q⟩⟩, pst_s _ _ _ _, by rw [pst_i (by decide)]; exact a3, by rw [e1]; exact a4, by rw [e1]; exact a5, by rw [e1]; exact a6, fun a b0 b1 => by rw [pst_f b0]; exact a7 a b0 b1⟩
  unfold rAt
  rw [pst_i (by decide)]
  exact a1.1
theorem at_pair {e n r c0 u0 d : Int} {tx : Int → Int} {A B M0 R0 : jM} {h : Nat} {Cs : Nat → Int → jM → Option (Int × jM)} {Ds : Nat → jM → Option jM} (hq : rq e tx n A B R0 r c0 u0) (hd : 0 ≤ d ∧ d ≤ 4) (hh : 1 ≤ h) (hS : d < 4 → PS e tx n A B M0 R0 r c0 u0 h true (Cs 0 (d + 1)) (Ds 2) (d + 1)) (hF : ∀ M, okF M → Ds 2 M = some M) : PS e tx n A B M0 R0 r c0 u0 h true (g_X4_atom Cs d) (g_X10_atom Ds) d := by
  obtain ⟨hR, hr6, hr3, hu⟩ := hq
  obtain ⟨he, hO, hB, -, -⟩ := hR
  have n6 := hO.2.1
  intro L p Mc Mr hc hr hcap
  have hcS := hc.1
  have hpp : 0 ≤ p ∧ p ≤ n := hcS.1.2.1
  have hkb := tkK_b hO hpp
  have d40 := tk_sg (tx := tx) (n := n) (p := p) (c := 40) (by decide)
  obtain ⟨y, hyy, y0, y1, y2, y3, y4⟩ := rS_iss (c := 40) hO hB hr.1 (by decide)
  have hry := rR_6 hr y3 y4
  unfold g_X4_atom
  rw [hcS.1.2.2.2.2.2.1, pw_of (z := tkK tx n p) (by omega) (by omega), pw_of (z := 40) (by omega) (by omega), pw_of (z := d) (by omega) (by omega), pw_of (z := 4) (by omega) (by omega)]
  by_cases c40 : p < n ∧ tx p = 40
  · rw [b2_t c40] at y0
    have hnx := nx_b (tx := tx) (n := n) (p := p) hpp
    have hnx' : p < nx tx n p := hnx.2.2.2 c40.1
    clear hnx
    refine t_pos (d40.1.2 c40) ?_
    clear d40
    refine t_if (fun cd => ?_) (fun cd => ?_)
    · refine t_V (t_mono (cR_adv he hc) (fun M15 h15 => ?_))
      have hr2 : rR tx n B R0 r c0 L (d + 1) (nx tx n p) (jst (jst y.2 166 13 (d + 1)) 166 4 (p + 1)) := by
        have h1 := rR_13 (d' := d + 1) hry
        exact rR_6 h1 (rS_pt (c := 40) (by decide) h1.1 (by rw [pst_i (by decide)]; exact y1) c40) (fr6_4 _ _)
      refine t_W (t_mono (hS cd L (nx tx n p) M15 _ h15 hr2 (by omega)) (fun q hq => ?_))
      obtain ⟨z, hzz, hz⟩ := hq
      have rstep : ∀ Q : jM → Prop, jT (jbV (f_X10_asksSign 41 z) fun M25 => jlet (jst M25 166 13 ((M25 166 13) - 1)) fun M26 => some M26) Q → jT (g_X10_atom Ds Mr) Q := fun Q hj => by
        unfold g_X10_atom
        refine t_We (v := y.1) (M := y.2) hyy ?_
        rw [y0]
        refine t_neg (by decide) ?_
        refine t_k ?_
        rw [hry.2.1, pw_of (z := d) (by omega) (by omega), pw_of (z := 4) (by omega) (by omega)]
        refine t_neg (by omega) ?_
        refine t_let ?_
        rw [hry.2.1, pst_i (show (4 : Int) ≠ 13 by decide), y1]
        refine t_let ?_
        exact t_Ve hzz hj
      rcases hz with ⟨k1, l, p', k2, k3, k4, k5, k6, k7⟩ | ⟨k1, k2⟩
      · rw [k1]
        refine t_neg (by decide) ?_
        have hp' := k6.1.1.2.1
        refine t_W (t_mono (cS_sign (c := 41) k6.1 he (by decide)) (fun w hw => ?_))
        obtain ⟨x, hxx, hx, x1, x2, x3⟩ := rS_asks (c := 41) hO hB k7.1 (by decide)
        rcases hw with hw | hw
        · have hx := hx.resolve_right (fun z => z.1 hw.1)
          have hb2 := nx_b (tx := tx) (n := n) (p := p') hp'
          rw [hw.2.1]
          refine t_neg (by decide) (t_some ?_)
          refine rstep _ (t_Ve hxx (t_let (t_some (Or.inl ⟨rfl, l, nx tx n p', k2, k3, by omega, by omega, ?_, ?_⟩))))
          · obtain ⟨j1, j2, j3, j4, j5, j6, j7⟩ := k6
            have e7 : w.2 (e + 7) = q.2 (e + 7) := hw.2.2.2.1 _ (by omega)
            have e8 : w.2 (e + 8) = q.2 (e + 8) := hw.2.2.2.1 _ (by omega)
            exact ⟨hw.2.2.1, by rw [e7]; exact j2, by rw [e8]; exact j3, by rw [e8]; exact j4, fun a b0 b1 b2 => by rw [hw.2.2.2.1 a b0]; exact j5 a b0 b1 b2, by rw [e7]; exact j6, by rw [hw.2.2.2.2 8 (by decide) (by decide) (by decide)]; exact j7⟩
          · have hz' : rR tx n B R0 r c0 (L ++ l) (d + 1) (nx tx n p') x := by
              obtain ⟨a1, a2, a3, a4, a5, a6, a7⟩ := k7
              have e1 : x 171 = z 171 := x1 171 (by decide)
              exact ⟨hx.2, by rw [x2]; exact a2, by rw [x3]; exact a3, by rw [e1]; exact a4, by rw [e1]; exact a5, by rw [e1]; exact a6, fun a b0 b1 => by rw [x1 a b0]; exact a7 a b0 b1⟩
            rw [hz'.2.1, show d + 1 - 1 = d from by omega]
            exact rR_13 hz'
        · have hx := hx.resolve_left (fun z => hw.1 z.1)
          rw [hw.2.1]
          refine t_pos (by decide) (t_some ?_)
          refine rstep _ (t_Ve hxx (t_let (t_some (Or.inr ⟨rfl, fl_s (fl_c (tx := tx) n6 hp' hw.2.2.1 hw.2.2.2 hx.2.1 hx.2.2.1 hx.2.2.2) (Or.inl rfl) _⟩))))
      · rw [k1]
        refine t_pos (by decide) (t_some ?_)
        refine rstep _ (t_V (t_mono (fl_sg (p := p) hO hB k2) (fun Y hY => t_let (t_some (Or.inr ⟨rfl, fl_s hY (Or.inl rfl) _⟩)))))
    · refine c_refuse ?_
      dsimp only
      rw [hcS.1.2.2.2.2.1]
      have hfl := fl_f (A := A) hcS.2.2.2 he n6 y3 y2
      have hf2 := fl_s hfl (Or.inl rfl) (d + 1)
      have hf3 : fl e n A B (jst Mc 109 7 p) (jst (jst (jst y.2 166 7 (y.2 166 5)) 166 13 (d + 1)) 166 4 (p + 1)) := fl_fX hf2 ⟨fr6_4 _ _, by
        unfold rPt
        rw [pst_s]
        omega⟩
      unfold g_X10_atom
      refine t_We (v := y.1) (M := y.2) hyy ?_
      rw [y0]
      refine t_neg (by decide) ?_
      refine t_k ?_
      rw [hry.2.1, pw_of (z := d) (by omega) (by omega), pw_of (z := 4) (by omega) (by omega)]
      refine t_pos (by omega) ?_
      refine t_Ve (e_fails0 y3.2.1) ?_
      refine t_let ?_
      rw [pst_i (show (13 : Int) ≠ 7 by decide), hry.2.1, pst_i (show (4 : Int) ≠ 13 by decide), pst_i (show (4 : Int) ≠ 7 by decide), y1]
      refine t_let ?_
      refine t_Ve (hF _ (fl_okF hf3)) ?_
      exact t_V (t_mono (fl_sg (p := p) hO hB hf3) (fun Y hY => t_let (t_some (Or.inr ⟨rfl, fl_s hY (Or.inl rfl) _⟩))))
  · rw [b2_f c40] at y0
    refine t_neg (fun q => c40 (d40.1.1 q)) ?_
    clear d40
    have hix := ix_b (w := wd tx n p) W2 0 (by decide)
    rw [show ((W2.length : Nat) : Int) = 10 from rfl] at hix
    refine t_Re (c_am hcS.1 (by decide) swJ.2.2.1 okW0.2.2.1) ?_
    obtain ⟨x, hxx, x0, x1, x2, x3⟩ := e_wordTold hO (rTx_R hB y3.2.2) y3.1 y3.2.1
    have hrx := rR_6 hry ⟨rAt_p y3.1 x1, by rw [x3.2 7 (by decide) (by decide)]; exact y3.2.1, frR_t y3.2.2 (frR_6 x3)⟩ x3
    have rstep : ∀ Q : jM → Prop, jT (if jw (ixW (wd tx n p) W2 0) = jw (-1) then (jbW (f_X10_number 0 9999 x.2) fun v15 M14 => jbV (f_X10_code v15 M14) fun M17 => some M17) else (jbW (f_X10_wordMany x.2) fun v9 M8 => jlet (jst M8 166 4 ((x.2 166 4) + v9)) fun M10 => jbV (f_X10_code (10020 + ixW (wd tx n p) W2 0) M10) fun M12 => some M12)) Q → jT (g_X10_atom Ds Mr) Q := fun Q hj => by
      unfold g_X10_atom
      refine t_We (v := y.1) (M := y.2) hyy ?_
      rw [y0]
      refine t_pos (by decide) ?_
      refine t_We (v := x.1) (M := x.2) hxx ?_
      rw [x0]
      exact hj
    rw [pw_of (z := ixW (wd tx n p) W2 0) (by omega) (by omega), pw_of (z := -1) (by omega) (by omega)] at *
    refine t_if (fun ci => ?_) (fun ci => ?_)
    · clear hix
      refine t_W (t_mono (cS_num (lo := 0) (hi := 9999) hcS he (by decide) (by decide)) (fun q hq => ?_))
      obtain ⟨hq1, hq2, hq3⟩ := hq
      obtain ⟨z, hzz, hz1, hz2, hz3, hz4, hz5⟩ := rS_num (lo := 0) (hi := 9999) hO hB hrx.1 (by decide) (by decide)
      rcases hq1 with hy | hy
      · have hz := hz1.resolve_right (fun w => w.1 hy.1)
        clear hz1
        rw [hy.2.1, hy.2.2.2.2.1]
        refine t_neg (by decide) ?_
        refine t_ck (kd_e he) ?_
        have hpn : p < nx tx n p := by
          have h1 := hy.1.1
          have h2 := (rn_b (c := isDg) (tx := tx) hpp.2).2.1
          exact (nx_b (tx := tx) (n := n) (p := p) hpp).2.2.2 (by omega)
        have hnn : nx tx n p ≤ n := (nx_b (tx := tx) (n := n) (p := p) hpp).2.1
        have hvb := hy.1.2.2
        have hc2 : cR e tx n A M0 u0 L (nx tx n p) q.2 := by
          obtain ⟨j1, j2, j3, j4, j5, j6, j7⟩ := hc
          have e7 : q.2 (e + 7) = Mc (e + 7) := hq2 _ (by omega)
          have e8 : q.2 (e + 8) = Mc (e + 8) := hq2 _ (by omega)
          exact ⟨hy.2.2.2, by rw [e7]; exact j2, by rw [e8]; exact j3, by rw [e8]; exact j4, fun a b0 b1 b2 => by rw [hq2 a b0]; exact j5 a b0 b1 b2, by rw [e7]; exact j6, by rw [hq3]; exact j7⟩
        have hr2 : rR tx n B R0 r c0 L d (nx tx n p) z.2 := by
          obtain ⟨a1, a2, a3, a4, a5, a6, a7⟩ := hrx
          have e1 : z.2 171 = x.2 171 := hz3 171 (by decide)
          exact ⟨hz.2.2, by rw [hz4]; exact a2, by rw [hz5]; exact a3, by rw [e1]; exact a4, by rw [e1]; exact a5, by rw [e1]; exact a6, fun a b0 b1 => by rw [hz3 a b0]; exact a7 a b0 b1⟩
        have hct : q.2 109 6 = ctr (nmV tx n p) := by
          rw [hy.2.2.1]
          unfold ctr
          rw [if_pos (by omega)]
        rw [hct]
        refine t_V (t_mono (cR_add he hc2 (by omega)) (fun M8 h8 => t_some ?_))
        refine rstep _ (t_pos ci ?_)
        refine t_We (v := z.1) (M := z.2) hzz ?_
        rw [hz.2.1]
        refine t_V (t_mono (rR_code hr2 hr6 hr3 (by omega)) (fun X hX => t_some (Or.inl ⟨rfl, [nmV tx n p], nx tx n p, okc_1 (Or.inl (by omega)) hh, ?_, ?_, hpn, h8, hX⟩)))
        · intro v hv
          rw [List.mem_singleton] at hv
          omega
        · rw [List.length_singleton]
          omega
      · have hz := hz1.resolve_left (fun w => hy.1 w.1)
        clear hz1
        rw [hy.2.1]
        refine t_pos (by decide) (t_some ?_)
        refine rstep _ (t_pos ci ?_)
        refine t_We (v := z.1) (M := z.2) hzz ?_
        have hfl := fl_c (tx := tx) (e := e) (A := A) n6 hpp hy.2.2.1 hy.2.2.2 hz.2.1 hz.2.2.1 hz.2.2.2
        exact t_Ve (l_code (fl_okF hfl)) (t_some (Or.inr ⟨rfl, hfl⟩))
    · have hlt : p < rn isLt tx n p := by
        rcases Int.lt_or_le p (rn isLt tx n p) with w | w
        · exact w
        · have hw : wd tx n p = [] := List.length_eq_zero_iff.1 (by rw [wd_len]; omega)
          exact absurd (by rw [hw]; exact ix_nil W2 0 okW0.2.2.1) ci
      have hrn := (rn_b (c := isLt) (tx := tx) hpp.2).2.1
      have hpn : p < nx tx n p := (nx_b (tx := tx) (n := n) (p := p) hpp).2.2.2 (by omega)
      have hnn : nx tx n p ≤ n := (nx_b (tx := tx) (n := n) (p := p) hpp).2.1
      rw [hcS.2.1]
      refine t_ck (kd_e he) ?_
      have hct : 10000 + ixW (wd tx n p) W2 0 = ctr (10020 + ixW (wd tx n p) W2 0) := by
        unfold ctr
        rw [if_neg (by omega), if_pos (by omega)]
        omega
      rw [hct]
      refine t_V (t_mono (cR_add he hc (by omega)) (fun M11 h11 => ?_))
      refine t_V (t_mono (cR_adv he h11) (fun M13 h13 => t_some ?_))
      refine rstep _ (t_neg ci ?_)
      refine t_W (t_mono (e_wordMany hO (rTx_R hB hrx.1.2.2) hrx.1.1) (fun w hw => ?_))
      obtain ⟨w0, w1, w2, w3⟩ := hw
      refine t_let ?_
      rw [w0, x1, show p + (rn isLt tx n p - p) = rn isLt tx n p from by omega]
      have hr2 : rR tx n B R0 r c0 L d (nx tx n p) (jst w.2 166 4 (rn isLt tx n p)) := by
        refine rR_6 hrx ⟨?_, by rw [pst_i (by decide), w3.2 7 (by decide) (by decide)]; exact hrx.1.2.1, frR_t hrx.1.2.2 (frR_6 (fr6_t w3 (fr6_4 _ _)))⟩ (fr6_t w3 (fr6_4 _ _))
        unfold rAt
        rw [pst_s, nx_w hO hpp hlt]
        exact ⟨by omega, hrn, rfl⟩
      refine t_V (t_mono (rR_code hr2 hr6 hr3 (by omega)) (fun X hX => t_some (Or.inl ⟨rfl, [10020 + ixW (wd tx n p) W2 0], nx tx n p, okc_1 (Or.inr (by omega)) hh, ?_, ?_, hpn, h13, hX⟩)))
      · intro v hv
        rw [List.mem_singleton] at hv
        omega
      · rw [List.length_singleton]
        omega
