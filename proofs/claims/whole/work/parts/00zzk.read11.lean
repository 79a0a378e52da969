/-! ===== reading: a new name, reference ===== -/
theorem e_isName {tx : Int → Int} {n p : Int} {M : jM} (hO : okT tx n) (hx : rTx tx n M) (ha : rAt tx n p M) (h7 : M 166 7 = -1) : jT (f_X10_isName M) (fun q => q.1 = b2 (1 ≤ rn isLt tx n p - p ∧ rn isLt tx n p - p ≤ 6) ∧ q.2 166 4 = p ∧ q.2 166 5 = p ∧ fr6 M q.2) := by
  obtain ⟨p0, p1, p2, p3⟩ := rAt_b ha
  have hr := rn_b (c := isLt) (tx := tx) p1
  have n6 := hO.2.1
  unfold f_X10_isName
  refine t_W (t_mono (e_wordMany hO hx ha) (fun q hq => ?_))
  obtain ⟨g0, g1, g2, g3⟩ := hq
  have h72 : q.2 166 7 = -1 := by rw [g3.2 7 (by decide) (by decide)]; exact h7
  refine t_Re (e_failed (by omega)) ?_
  rw [if_pos h72, g0]
  refine t_pos (by decide) ?_
  refine t_Re (e_in (by omega) (by omega) (by omega)) ?_
  by_cases c : 1 ≤ rn isLt tx n p - p ∧ rn isLt tx n p - p ≤ 6
  · rw [b2_t c]
    exact t_neg (by decide) (t_some ⟨rfl, g1, g2, g3⟩)
  · rw [b2_f c]
    exact t_pos (by decide) (t_some ⟨rfl, g1, g2, g3⟩)
theorem e_fresh {tx : Int → Int} {n p base m : Int} {M : jM} (hO : okT tx n) (hx : rTx tx n M) (ha : rAt tx n p M) (h7 : M 166 7 = -1) (hb : 0 ≤ base ∧ base ≤ 74) (hm : 0 ≤ m ∧ m < 10) (hD : ∀ i k, 0 ≤ i → i < m → 0 ≤ k → k < 6 → 0 ≤ M 171 (base + 6 * i + k) ∧ M 171 (base + 6 * i + k) ≤ 127) :
    jT (f_X10_freshName base m M) (fun X => (nwOk (M 171) tx n p base m ∧ X 166 7 = -1 ∧ rAt tx n (bl tx n (rn isLt tx n p)) X ∧ (∀ k, 0 ≤ k → k < 6 → X 171 (base + 6 * m + k) = if k < rn isLt tx n p - p then tx (p + k) else 0) ∧ (∀ j, (j < base + 6 * m ∨ base + 6 * m + 6 ≤ j) → X 171 j = M 171 j) ∨ ¬ nwOk (M 171) tx n p base m ∧ X 166 7 = p ∧ X 171 = M 171) ∧ rPt n X ∧ (∀ a, a ≠ 166 → a ≠ 171 → X a = M a) ∧ ∀ j, j ≠ 4 → j ≠ 5 → j ≠ 7 → X 166 j = M 166 j) := by
  obtain ⟨p0, p1, p2, p3⟩ := rAt_b ha
  have hr := rn_b (c := isLt) (tx := tx) p1
  have n6 := hO.2.1
  unfold f_X10_freshName
  refine t_Re (e_failed (by omega)) ?_
  rw [if_pos h7]
  refine t_pos (by decide) ?_
  refine t_W (t_mono (e_isName hO hx ha h7) (fun q hq => ?_))
  obtain ⟨g0, g1, g2, g3⟩ := hq
  refine t_kP (fun kk => ∀ X, ¬ nwOk (M 171) tx n p base m → X 166 4 = p → X 166 5 = p → fr6 M X → jT (kk X) (fun X => (nwOk (M 171) tx n p base m ∧ X 166 7 = -1 ∧ rAt tx n (bl tx n (rn isLt tx n p)) X ∧ (∀ k, 0 ≤ k → k < 6 → X 171 (base + 6 * m + k) = if k < rn isLt tx n p - p then tx (p + k) else 0) ∧ (∀ j, (j < base + 6 * m ∨ base + 6 * m + 6 ≤ j) → X 171 j = M 171 j) ∨ ¬ nwOk (M 171) tx n p base m ∧ X 166 7 = p ∧ X 171 = M 171) ∧ rPt n X ∧ (∀ a, a ≠ 166 → a ≠ 171 → X a = M a) ∧ ∀ j, j ≠ 4 → j ≠ 5 → j ≠ 7 → X 166 j = M 166 j)) ?_ ?_
  · intro X hno x4 x5 xf
    refine t_Ve (e_fails0 (by rw [xf.2 7 (by decide) (by decide)]; exact h7)) ?_
    refine t_some ⟨Or.inr ⟨hno, by rw [pst_s]; exact x5, by rw [pst_f (by decide)]; exact xf.1 171 (by decide)⟩, ?_, fun a q0 q1 => by rw [pst_f q0]; exact xf.1 a q0, fun j q4 q5 q7 => by rw [pst_i q7]; exact xf.2 j q4 q5⟩
    unfold rPt
    rw [pst_i (by decide), x4]
    omega
  · intro k7 hk7
    rw [g0]
    by_cases c : 1 ≤ rn isLt tx n p - p ∧ rn isLt tx n p - p ≤ 6
    · rw [b2_t c]
      refine t_neg (by decide) ?_
      have e71 : q.2 171 = M 171 := g3.1 171 (by decide)
      refine t_W (t_mono (e_named (base := base) (m := m) hO (rTx_fr hx g3) (rAt_p ha g1) c hb (by omega) (by rw [e71]; exact hD)) (fun r hr' => ?_))
      obtain ⟨v0, v1, v2, v3⟩ := hr'
      rw [e71] at v0
      have hfd := fdN_b (D := M 171) (tx := tx) (base := base) (m := m) (p := p) (len := rn isLt tx n p - p) hm.1
      have vf := fr6_t g3 v3
      rw [v0, pw_of (z := fdN (M 171) tx base m p (rn isLt tx n p - p)) (by omega) (by omega), pw_of (z := -1) (by omega) (by omega)]
      refine t_if (fun c1 => ?_) (fun c1 => hk7 r.2 (fun q => c1 q.2.2) v1 v2 vf)
      refine t_W (t_mono (e_wordMany hO (rTx_fr hx vf) (rAt_p ha v1)) (fun s hs => ?_))
      obtain ⟨w0, w1, w2, w3⟩ := hs
      have wf := fr6_t vf w3
      rw [w0]
      refine t_lp2 (fun k X => 0 ≤ k ∧ k ≤ 6 ∧ (∀ x, 0 ≤ x → x < k → X 171 (base + 6 * m + x) = if x < rn isLt tx n p - p then tx (p + x) else 0) ∧ (∀ j, (j < base + 6 * m ∨ base + 6 * m + 6 ≤ j) → X 171 j = M 171 j) ∧ ∀ a, a ≠ 171 → X a = s.2 a) (fun k _ => (6 - k).toNat) ?_ jfuel 0 s.2 (by rw [jfuel_eq]; omega) ⟨by omega, by omega, fun x q0 q1 => by omega, fun j _ => by rw [wf.1 171 (by decide)], fun _ _ => rfl⟩
      rintro self k X ⟨hk1, hk2, hX1, hX2, hX3⟩ hself
      have x166 : X 166 = s.2 166 := hX3 166 (by decide)
      rw [x166, w1, pw_of (z := 6) (by omega) (by omega), pw_of (z := k) (by omega) (by omega), pw_of (z := rn isLt tx n p - p) (by omega) (by omega)]
      refine t_if (fun c2 => ?_) (fun c2 => ?_)
      · refine t_let ?_
        refine t_some ⟨Or.inl ⟨⟨c.1, c.2, c1⟩, ?_, ?_, fun x q0 q1 => ?_, fun j q => ?_⟩, ?_, fun a q0 q1 => ?_, fun j q4 q5 q7 => ?_⟩
        · rw [pst_i (by decide), x166, wf.2 7 (by decide) (by decide)]
          exact h7
        · unfold rAt
          rw [pst_s, show p + (rn isLt tx n p - p) = rn isLt tx n p from by omega]
          exact ⟨by omega, hr.2.1, rfl⟩
        · rw [pst_f (by decide)]
          exact hX1 x q0 (by omega)
        · rw [pst_f (by decide)]
          exact hX2 j q
        · unfold rPt
          rw [pst_s]
          omega
        · rw [pst_f q0, hX3 a q1]
          exact wf.1 a q0
        · rw [pst_i q4, x166]
          exact wf.2 j q4 q5
      · have step : ∀ v, v = (if k < rn isLt tx n p - p then tx (p + k) else 0) → (∀ a, a ≠ 171 → jst X 171 (base + 6 * m + k) v a = s.2 a) ∧ (∀ x, 0 ≤ x → x < k + 1 → jst X 171 (base + 6 * m + k) v 171 (base + 6 * m + x) = if x < rn isLt tx n p - p then tx (p + x) else 0) ∧ (∀ j, (j < base + 6 * m ∨ base + 6 * m + 6 ≤ j) → jst X 171 (base + 6 * m + k) v 171 j = M 171 j) := fun v hv => by
          refine ⟨fun a q => by rw [pst_f q]; exact hX3 a q, fun x q0 q1 => ?_, fun j q => by rw [pst_i (by omega)]; exact hX2 j q⟩
          by_cases cx : x = k
          · subst cx
            rw [pst_s]
            exact hv
          · rw [pst_i (by omega)]
            exact hX1 x q0 (by omega)
        refine t_k ?_
        rw [pw_of (z := base + 6 * m + k) (by omega) (by omega)]
        refine t_if (fun c3 => ?_) (fun c3 => ?_)
        · refine t_ck (by omega) ?_
          refine t_let ?_
          refine t_let ?_
          have := step 0 (if_neg (by omega)).symm
          exact hself _ _ ⟨by omega, by omega, this.2.1, this.2.2, this.1⟩ (by omega)
        · have h97 := isLt_i.1 (hr.2.2.1 (p + k) (by omega) (by omega))
          rw [pw_of (z := p + k) (by omega) (by omega), hX3 167 (by decide), (rTx_fr hx wf).2 (p + k) (by omega) (by omega), b8_o (by omega), if_pos (by omega)]
          refine t_ck (by omega) ?_
          refine t_ck (by omega) ?_
          refine t_let ?_
          refine t_let ?_
          have := step (tx (p + k)) (if_pos (by omega)).symm
          exact hself _ _ ⟨by omega, by omega, this.2.1, this.2.2, this.1⟩ (by omega)
    · rw [b2_f c]
      refine t_pos (by decide) ?_
      exact hk7 q.2 (fun q => c ⟨q.1, q.2.1⟩) g1 g2 g3
