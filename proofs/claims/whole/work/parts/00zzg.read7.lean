/-! ===== reading: names of the reference ===== -/
theorem e_named {tx : Int → Int} {n p base m : Int} {M : jM} (hO : okT tx n) (hx : rTx tx n M) (ha : rAt tx n p M) (hlen : 1 ≤ rn isLt tx n p - p ∧ rn isLt tx n p - p ≤ 6) (hb : 0 ≤ base ∧ base ≤ 74) (hm : 0 ≤ m ∧ m ≤ 10) (hD : ∀ i k, 0 ≤ i → i < m → 0 ≤ k → k < 6 → 0 ≤ M 171 (base + 6 * i + k) ∧ M 171 (base + 6 * i + k) ≤ 127) : jT (f_X10_named base m M) (fun q => q.1 = fdN (M 171) tx base m p (rn isLt tx n p - p) ∧ q.2 166 4 = p ∧ q.2 166 5 = p ∧ fr6 M q.2) := by
  obtain ⟨p0, p1, p2, p3⟩ := rAt_b ha
  have hr := rn_b (c := isLt) (tx := tx) p1
  have n6 := hO.2.1
  unfold f_X10_named
  refine t_W (t_mono (e_wordMany hO hx ha) (fun q hq => ?_))
  obtain ⟨g0, g1, g2, g3⟩ := hq
  have hx2 := rTx_fr hx g3
  have e71 : q.2 171 = M 171 := g3.1 171 (by decide)
  have hlt : ∀ k, 0 ≤ k → k < rn isLt tx n p - p → 97 ≤ tx (p + k) ∧ tx (p + k) ≤ 122 := fun k q0 q1 => isLt_i.1 (hr.2.2.1 (p + k) (by omega) (by omega))
  rw [g0]
  refine t_lp1 (fun i => 0 ≤ i ∧ i ≤ m ∧ fi (fun i => mmS (M 171) tx (base + 6 * i) p (rn isLt tx n p - p)) (m - i).toNat i = fdN (M 171) tx base m p (rn isLt tx n p - p)) (fun i => (m - i).toNat) ?_ jfuel 0 (by rw [jfuel_eq]; omega) ⟨by omega, by omega, by unfold fdN; rw [Int.sub_zero]⟩
  rintro self i ⟨hi1, hi2, hF⟩ hself
  rw [pw_of (z := m) (by omega) (by omega), pw_of (z := i) (by omega) (by omega), pw_of (z := rn isLt tx n p - p) (by omega) (by omega), pw_of (z := 6) (by omega) (by omega)]
  refine t_if (fun c => ?_) (fun c => ?_)
  · refine t_some ⟨?_, g1, g2, g3⟩
    rw [show (m - i).toNat = 0 from by omega] at hF
    exact hF
  · rw [fi_s (by omega)] at hF
    refine t_lp2 (fun b k => (b = 0 ∨ b = 1) ∧ 0 ≤ k ∧ k ≤ 6 ∧ (b = 1 ↔ ∀ x, 0 ≤ x → x < k → M 171 (base + 6 * i + x) = if x < rn isLt tx n p - p then tx (p + x) else 0)) (fun _ k => (6 - k).toNat) ?_ jfuel 1 0 (by rw [jfuel_eq]; omega) ⟨Or.inr rfl, by omega, by omega, ⟨fun _ x q0 q1 => by omega, fun _ => rfl⟩⟩
    rintro self2 b k ⟨hb01, hk1, hk2, hbk⟩ hself2
    rw [pw_of (z := k) (by omega) (by omega), pw_of (z := b) (by omega) (by omega)]
    refine t_if (fun c1 => ?_) (fun c1 => ?_)
    · have hk6 : k = 6 := by omega
      subst hk6
      refine t_if (fun c2 => ?_) (fun c2 => ?_)
      · refine t_let ?_
        refine hself _ ⟨by omega, by omega, ?_⟩ (by omega)
        rw [if_neg (fun h0 => by
          have := hbk.2 (mmS_i.1 h0)
          omega)] at hF
        exact hF
      · refine t_neg (by omega) ?_
        refine t_some ⟨?_, g1, g2, g3⟩
        rw [if_pos (mmS_i.2 (hbk.1 (by omega)))] at hF
        exact hF
    · have hDb := hD i k hi1 (by omega) hk1 (by omega)
      have step : ∀ s, s = (if k < rn isLt tx n p - p then tx (p + k) else 0) → b = 1 → jT (if M 171 (base + 6 * i + k) = s then (jlet (k + 1) fun l6_13 => self2 1 l6_13) else (jlet (k + 1) fun l6_13 => self2 0 l6_13)) (fun q => q.1 = fdN (M 171) tx base m p (rn isLt tx n p - p) ∧ q.2 166 4 = p ∧ q.2 166 5 = p ∧ fr6 M q.2) := fun s hs hb1 => by
        refine t_if (fun c3 => ?_) (fun c3 => ?_)
        · refine t_let ?_
          refine hself2 _ _ ⟨Or.inr rfl, by omega, by omega, ⟨fun _ x q0 q1 => ?_, fun _ => rfl⟩⟩ (by omega)
          by_cases cx : x = k
          · subst cx
            rw [← hs]
            exact c3
          · exact hbk.1 hb1 x q0 (by omega)
        · refine t_let ?_
          refine hself2 _ _ ⟨Or.inl rfl, by omega, by omega, ⟨fun q => by omega, fun q => ?_⟩⟩ (by omega)
          have := q k hk1 (by omega)
          rw [← hs] at this
          exact absurd this c3
      refine t_k ?_
      refine t_k ?_
      refine t_if (fun c2 => ?_) (fun c2 => ?_)
      · refine t_let ?_
        refine hself2 _ _ ⟨Or.inl rfl, by omega, by omega, ⟨fun q => by omega, fun q => ?_⟩⟩ (by omega)
        have := hbk.2 (fun x q0 q1 => q x q0 (by omega))
        omega
      · rw [e71, pw_of (z := base + 6 * i + k) (by omega) (by omega), pw_of (z := M 171 (base + 6 * i + k)) (by omega) (by omega)]
        refine t_ck (by omega) ?_
        refine t_k ?_
        refine t_if (fun c3 => ?_) (fun c3 => ?_)
        · exact step 0 (if_neg (by omega)).symm (by omega)
        · have h97 := hlt k hk1 (by omega)
          rw [g1, pw_of (z := p + k) (by omega) (by omega), hx2.2 (p + k) (by omega) (by omega), b8_o (by omega), if_pos (by omega)]
          refine t_ck (by omega) ?_
          have := step (tx (p + k)) (if_pos (by omega)).symm (by omega)
          rw [← pw_of (z := tx (p + k)) (by omega) (by omega)] at this
          exact this
