/-! ===== reading: lines that tell a number ===== -/
/-- the reference behind the first word of a line -/
def bgO (ok : Prop) (tx : Int → Int) (n : Int) (B : jM) (p : Int) (Mr X : jM) : Prop := (ok ∧ rS tx n B (nx tx n p) X ∨ ¬ ok ∧ X 166 7 = p ∧ frR B X ∧ rPt n X) ∧ (∀ a, a ≠ 166 → X a = Mr a) ∧ X 166 13 = Mr 166 13 ∧ X 166 14 = Mr 166 14
theorem fl_0 {e n p : Int} {A B Mc X : jM} (hp : 0 ≤ p ∧ p ≤ 600) (h : frC e A Mc) (he : e = 3 ∨ e = 56) (h7 : X 166 7 = p) (hf : frR B X) (hr : rPt n X) : fl e n A B (jst Mc 109 7 p) X := ⟨by rw [pst_s]; exact hp, by rw [pst_s]; exact h7, frC_t h (frC_9 he (fun a q => pst_f q)), hf, hr⟩
/-- a number on both sides, in a failed reading -/
theorem l_num {e n lo hi : Int} {A B Mc Mr : jM} (h : fl e n A B Mc Mr) : f_X10_number lo hi Mr = some (lo, Mr) := l_number (fl_okF h)
theorem ln_lasts {e n p s1 : Int} {tx : Int → Int} {A B Mc Mr X : jM} (hR : rc e tx n A B) (h : rLn e tx n A B p Mc Mr) (hpn : p < n) (hs : s1 = Mr 171 1 - 1) (hX : bgO (0 ≤ s1) tx n B p Mr X) :
    jT (f_X4_lastsLine Mc) (fun qc => ∀ (K : jM → Option jM) (Q : jM → Prop), (∀ Mr', Out e tx n A B p qc.1 qc.2 Mr' → jT (K Mr') Q) → jT (jbR (f_J9_max_7cf53 0 s1) fun v63 => jbW (f_X10_number 0 600 X) fun v66 M65 => jck (0 ≤ jw (110 + v63) ∧ jw (110 + v63) < 1089) <| jlet (jst M65 171 (jw (110 + v63)) v66) fun M68 => K M68) Q) := by
  obtain ⟨he, hO, hB, r10, r6⟩ := hR
  obtain ⟨hc, hr, h13, h8, hE⟩ := h
  obtain ⟨hX1, hX2, hX3, hX4⟩ := hX
  have hp := rAt_b hr.1
  have n6 := hO.2.1
  have t1 := hE.1.2.1
  have hH := hE.2.2.2.1
  have emx := e_max (a := 0) (b := s1) (by omega) (by omega)
  unfold f_X4_lastsLine
  rw [hc.2.1]
  refine t_ck (kd_e he) ?_
  rw [hH.2.2.2.1, ← hs]
  refine t_let ?_
  rw [pw_of (z := s1) (by omega) (by omega)]
  refine t_if (fun c => ?_) (fun c => ?_)
  · rcases hX1 with hX1 | hX1
    · have hpn' := nx_b (tx := tx) (n := n) (p := p) (by omega)
      have hpp := nx_b (tx := tx) (n := n) (p := nx tx n p) (by omega)
      refine t_V (t_mono (cS_adv hc he) (fun M4 h4 => ?_))
      obtain ⟨h4, h49⟩ := h4
      refine t_W (t_mono (cS_num (lo := 0) (hi := 600) h4 he (by omega) (by omega)) (fun q hq => ?_))
      obtain ⟨hq1, hq2, hq3⟩ := hq
      have e9 : ∀ a, a ≠ 109 → q.2 a = Mc a := fun a b => by rw [hq2 a b, h49.1 a b]
      rcases hq1 with hy | hy
      · rw [hy.2.1]
        refine t_neg (by decide) ?_
        rw [hy.2.2.2.2.1]
        refine t_ck (kd_e he) ?_
        refine t_ck (by omega) ?_
        refine t_let (t_some ?_)
        intro K Q hK
        dsimp only at hK
        refine t_Re emx ?_
        rw [show max 0 s1 = s1 from by omega]
        refine t_W (t_mono (rS_num (lo := 0) (hi := 600) hO hB hX1.2 (by omega) (by omega)) (fun r hr' => ?_))
        obtain ⟨hr1, hr2, hr3, hr4, hr5⟩ := hr'
        have hz := hr1.resolve_right (fun z => z.1 hy.1)
        rw [pw_of (z := 110 + s1) (by omega) (by omega)]
        refine t_ck (by omega) ?_
        refine t_let (hK _ (Or.inl ⟨rfl, nx tx n (nx tx n p), by omega, ?_, ?_, ?_, ?_, ?_⟩))
        · exact cS_st hy.2.2.2 he (frC_s (by omega) (Or.inl (by omega))) (fun j _ _ => pst_c (by omega))
        · refine ⟨?_, ?_, frR_t hz.2.2.2.2 (frR_1 _ _ _)⟩
          · unfold rAt
            rw [pst_c (by decide)]
            exact hz.2.2.1
          · rw [pst_c (by decide)]
            exact hz.2.2.2.1
        · rw [pst_c (by decide), hr4, hX3]
          exact h13
        · rw [pst_c (by omega), pst_c (by decide), hq3, h49.2 8 (by decide) (by decide) (by decide), hr5, hX4]
          exact h8
        · rw [pst_c (show (166 : Int) ≠ 171 by decide), pst_f (show (172 : Int) ≠ 171 by decide), hr5, hX4, hr3 172 (by decide), hX2 172 (by decide)]
          have e71 : r.2 171 = Mr 171 := by rw [hr3 171 (by decide), hX2 171 (by decide)]
          have hv : q.2 109 6 = r.1 := by rw [hy.2.2.1, hz.2.1]
          have hvb : 0 ≤ r.1 ∧ r.1 ≤ 600 := by rw [hz.2.1]; exact hz.1.2.2
          have T0 : ∀ j, j ≠ 110 + s1 → jst r.2 171 (110 + s1) r.1 171 j = Mr 171 j := fun j b => by rw [pst_i b, e71]
          have T1 : jst r.2 171 (110 + s1) r.1 171 (110 + s1) = r.1 := pst_s _ _ _ _
          generalize jst r.2 171 (110 + s1) r.1 171 = T' at T0 T1 ⊢
          have M0 : ∀ a, a ≠ 109 → a ≠ e + 16 + 1 + 6 * s1 → jst q.2 (e + 16 + 1 + 6 * s1) 2 (q.2 109 6) a = Mc a := fun a b0 b1 => by rw [pst_f b1]; exact e9 a b0
          have M1 : ∀ j, j ≠ 2 → jst q.2 (e + 16 + 1 + 6 * s1) 2 (q.2 109 6) (e + 16 + 1 + 6 * s1) j = Mc (e + 16 + 1 + 6 * s1) j := fun j b => by rw [pst_i b, e9 _ (by omega)]
          have M2 : jst q.2 (e + 16 + 1 + 6 * s1) 2 (q.2 109 6) (e + 16 + 1 + 6 * s1) 2 = r.1 := by rw [pst_s, hv]
          generalize jst q.2 (e + 16 + 1 + 6 * s1) 2 (q.2 109 6) = M' at M0 M1 M2 ⊢
          have bt' : bT T' := bT_r hE.1 (okT_of T0 (by rw [T1]; unfold okTi; omega))
          refine evT_sk hE (by omega) (fun a b0 b1 => M0 a (by omega) (by omega)) (fun j b => T0 j (by omega)) (fun _ _ => rfl) bt' hE.2.1 (bL_c hE.1 hE.2.2.1 (by rw [T0 0 (by omega)]; omega) (T0 1 (by omega)) (fun j b0 b1 => T0 j (by omega))) (fun s q0 q1 => ?_) (fun s q0 q1 => ?_) hE.2.2.2.2.2.2.1 hE.2.2.2.2.2.2.2.2.1 (fun c s q0 q1 => ?_)
          · have hsk := hE.2.2.2.2.1 s q0 q1
            by_cases cs : s = s1
            · subst cs
              exact rSk_c hE.1 ⟨q0, q1⟩ hsk (by rw [M2, T1]) (M1 0 (by decide)) (M1 1 (by decide)) (fun a b0 b1 => M0 a (by omega) (by omega)) (fun j b => T0 j (by omega)) (fun _ _ => rfl)
            · have hg : M' (e + 16 + 1 + 6 * s) = Mc (e + 16 + 1 + 6 * s) := M0 _ (by omega) (by omega)
              exact rSk_c hE.1 ⟨q0, q1⟩ hsk (by rw [hg, T0 (110 + s) (by omega)]; exact hsk.2.2.1) (by rw [hg]) (by rw [hg]) (fun a b0 b1 => M0 a (by omega) (by omega)) (fun j b => T0 j (by omega)) (fun _ _ => rfl)
          · rw [T0 1 (by omega)] at q0
            rw [T0 (116 + s) (by omega)]
            exact hE.2.2.2.2.2.1 s q0 q1
          · have := hE.2.2.2.2.2.2.2.2.2 c s q0 q1
            rw [T0 (116 + s) (by omega), M0 (e + 16 + 1 + 6 * s + 5) (by omega) (by omega)]
            exact this
      · rw [hy.2.1]
        refine t_pos (by decide) ?_
        refine t_some ?_
        intro K Q hK
        dsimp only at hK
        refine t_Re emx ?_
        rw [show max 0 s1 = s1 from by omega]
        refine t_W (t_mono (rS_num (lo := 0) (hi := 600) hO hB hX1.2 (by omega) (by omega)) (fun r hr' => ?_))
        obtain ⟨hr1, hr2, hr3, hr4, hr5⟩ := hr'
        rcases hr1 with hz | hz
        · exact absurd hz.1 hy.1
        rw [pw_of (z := 110 + s1) (by omega) (by omega)]
        refine t_ck (by omega) ?_
        refine t_let (hK _ (Or.inr ⟨rfl, fl_1 ⟨?_, ?_, hy.2.2.2, hz.2.2.1, hz.2.2.2⟩ _ _⟩))
        · rw [hy.2.2.1]
          omega
        · rw [hy.2.2.1]
          exact hz.2.1
    · exact absurd c hX1.1
  · rcases hX1 with hX1 | hX1
    · exact absurd hX1.1 c
    · refine c_refuse ?_
      intro K Q hK
      dsimp only at hK
      rw [hc.1.2.2.2.2.1] at hK
      have hfl := fl_0 (e := e) (A := A) (Mc := Mc) (p := p) (by omega) hc.2.2.2 he hX1.2.1 hX1.2.2.1 hX1.2.2.2
      refine t_Re emx ?_
      refine t_We (l_num hfl) ?_
      rw [show max 0 s1 = 0 from by omega]
      refine t_ck (by decide) ?_
      exact t_let (hK _ (Or.inr ⟨rfl, fl_1 hfl _ _⟩))
theorem ln_judges {e n p : Int} {tx : Int → Int} {A B Mc Mr X : jM} (hR : rc e tx n A B) (h : rLn e tx n A B p Mc Mr) (hpn : p < n) (hX : bgO (Mr 166 14 = 0) tx n B p Mr X) :
    jT (f_X4_judgesLine Mc) (fun qc => ∀ (K : jM → Option jM) (Q : jM → Prop), (∀ Mr', Out e tx n A B p qc.1 qc.2 Mr' → jT (K Mr') Q) → jT (jbW (f_X10_number 1 9 X) fun v127 M126 => jck (0 ≤ jw 2 ∧ jw 2 < 1089) <| jlet (jst M126 171 (jw 2) v127) fun M129 => K M129) Q) := by
  obtain ⟨he, hO, hB, r10, r6⟩ := hR
  obtain ⟨hc, hr, h13, h8, hE⟩ := h
  obtain ⟨hX1, hX2, hX3, hX4⟩ := hX
  have hp := rAt_b hr.1
  have n6 := hO.2.1
  have hsh := hE.2.2.2.2.2.2.2.2.1
  unfold f_X4_judgesLine
  rw [h8, pw_of (z := Mr 166 14) (by omega) (by omega)]
  refine t_if (fun c => ?_) (fun c => ?_)
  · rcases hX1 with hX1 | hX1
    · have hpn' := nx_b (tx := tx) (n := n) (p := p) (by omega)
      have hpp := nx_b (tx := tx) (n := n) (p := nx tx n p) (by omega)
      refine t_V (t_mono (cS_adv hc he) (fun M4 h4 => ?_))
      obtain ⟨h4, h49⟩ := h4
      refine t_W (t_mono (cS_num (lo := 1) (hi := 9) h4 he (by omega) (by omega)) (fun q hq => ?_))
      obtain ⟨hq1, hq2, hq3⟩ := hq
      have e9 : ∀ a, a ≠ 109 → q.2 a = Mc a := fun a b => by rw [hq2 a b, h49.1 a b]
      rcases hq1 with hy | hy
      · rw [hy.2.1]
        refine t_neg (by decide) ?_
        rw [hy.2.2.2.2.1]
        refine t_ck (kd_e he) ?_
        refine t_let (t_some ?_)
        intro K Q hK
        dsimp only at hK
        refine t_W (t_mono (rS_num (lo := 1) (hi := 9) hO hB hX1.2 (by omega) (by omega)) (fun r hr' => ?_))
        obtain ⟨hr1, hr2, hr3, hr4, hr5⟩ := hr'
        have hz := hr1.resolve_right (fun z => z.1 hy.1)
        refine t_ck (by decide) ?_
        rw [pw_of (z := 2) (by omega) (by omega)]
        refine t_let (hK _ (Or.inl ⟨rfl, nx tx n (nx tx n p), by omega, ?_, ?_, ?_, ?_, ?_⟩))
        · exact cS_st hy.2.2.2 he (frC_s (by omega) (Or.inl (by omega))) (fun j _ _ => pst_c (by omega))
        · refine ⟨?_, ?_, frR_t hz.2.2.2.2 (frR_1 _ _ _)⟩
          · unfold rAt
            rw [pst_c (by decide)]
            exact hz.2.2.1
          · rw [pst_c (by decide)]
            exact hz.2.2.2.1
        · rw [pst_c (by decide), hr4, hX3]
          exact h13
        · rw [pst_c (by omega), pst_c (by decide), hq3, h49.2 8 (by decide) (by decide) (by decide), hr5, hX4]
          exact h8
        · rw [pst_c (show (166 : Int) ≠ 171 by decide), pst_f (show (172 : Int) ≠ 171 by decide), hr5, hX4, hr3 172 (by decide), hX2 172 (by decide), c]
          have e71 : r.2 171 = Mr 171 := by rw [hr3 171 (by decide), hX2 171 (by decide)]
          rw [c] at hE
          refine evT_jud (v := r.1) hE (by omega) (fun a b0 b1 b2 => ?_) ?_ (fun j b => ?_) (pst_s _ _ _ _) (by rw [hz.2.1]; exact hz.1.2.2)
          · rw [pst_f b2]
            exact e9 a (by omega)
          · rw [pst_s, hy.2.2.1, hz.2.1]
          · rw [pst_i b, e71]
      · rw [hy.2.1]
        refine t_pos (by decide) ?_
        refine t_some ?_
        intro K Q hK
        dsimp only at hK
        refine t_W (t_mono (rS_num (lo := 1) (hi := 9) hO hB hX1.2 (by omega) (by omega)) (fun r hr' => ?_))
        obtain ⟨hr1, hr2, hr3, hr4, hr5⟩ := hr'
        rcases hr1 with hz | hz
        · exact absurd hz.1 hy.1
        refine t_ck (by decide) ?_
        refine t_let (hK _ (Or.inr ⟨rfl, fl_1 ⟨?_, ?_, hy.2.2.2, hz.2.2.1, hz.2.2.2⟩ _ _⟩))
        · rw [hy.2.2.1]
          omega
        · rw [hy.2.2.1]
          exact hz.2.1
    · exact absurd c hX1.1
  · rcases hX1 with hX1 | hX1
    · exact absurd hX1.1 c
    · refine c_refuse ?_
      intro K Q hK
      dsimp only at hK
      rw [hc.1.2.2.2.2.1] at hK
      have hfl := fl_0 (e := e) (A := A) (Mc := Mc) (p := p) (by omega) hc.2.2.2 he hX1.2.1 hX1.2.2.1 hX1.2.2.2
      refine t_We (l_num hfl) ?_
      refine t_ck (by decide) ?_
      exact t_let (hK _ (Or.inr ⟨rfl, fl_1 hfl _ _⟩))
