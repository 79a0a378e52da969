/-! ===== reading: an element told ===== -/
/-- which element the word at p names; -1: none -/
def elX (D tx : Int → Int) (n p m : Int) : Int := if 1 ≤ rn isLt tx n p - p ∧ rn isLt tx n p - p ≤ 6 then fdN D tx 14 m p (rn isLt tx n p - p) else -1
theorem elX_b {D tx : Int → Int} {n p m : Int} (hm : 0 ≤ m) : -1 ≤ elX D tx n p m ∧ (elX D tx n p m ≠ -1 → 0 ≤ elX D tx n p m ∧ elX D tx n p m < m ∧ 1 ≤ rn isLt tx n p - p) := by
  have := fdN_b (D := D) (tx := tx) (base := 14) (m := m) (p := p) (len := rn isLt tx n p - p) hm
  unfold elX
  by_cases c : 1 ≤ rn isLt tx n p - p ∧ rn isLt tx n p - p ≤ 6
  · rw [if_pos c]
    omega
  · rw [if_neg c]
    omega
def elQ (tx : Int → Int) (n p j : Int) (M : jM) (q : Int × jM) : Prop := ((elX (M 171) tx n p (M 171 0) ≠ -1 ∧ (j = 0 ∨ M 171 (4 + elX (M 171) tx n p (M 171 0)) = 0)) ∧ q.1 = elX (M 171) tx n p (M 171 0) ∧ q.2 166 7 = -1 ∧ rAt tx n (bl tx n (rn isLt tx n p)) q.2 ∨ ¬ (elX (M 171) tx n p (M 171 0) ≠ -1 ∧ (j = 0 ∨ M 171 (4 + elX (M 171) tx n p (M 171 0)) = 0)) ∧ q.1 = 0 ∧ q.2 166 7 = p) ∧ rPt n q.2 ∧ (∀ a, a ≠ 166 → q.2 a = M a) ∧ ∀ j, j ≠ 4 → j ≠ 5 → j ≠ 7 → q.2 166 j = M 166 j
theorem e_eTold {tx : Int → Int} {n p j : Int} {M : jM} (hO : okT tx n) (hx : rTx tx n M) (ha : rAt tx n p M) (h7 : M 166 7 = -1) (hj : j = 0 ∨ j = 1) (hm : 0 ≤ M 171 0 ∧ M 171 0 ≤ 10) (hD : ∀ i k, 0 ≤ i → i < M 171 0 → 0 ≤ k → k < 6 → 0 ≤ M 171 (14 + 6 * i + k) ∧ M 171 (14 + 6 * i + k) ≤ 127) (hK : ∀ i, 0 ≤ i → i < M 171 0 → 0 ≤ M 171 (4 + i) ∧ M 171 (4 + i) ≤ 2) : jT (f_X10_elementTold j M) (elQ tx n p j M) := by
  obtain ⟨p0, p1, p2, p3⟩ := rAt_b ha
  have hr := rn_b (c := isLt) (tx := tx) p1
  have n6 := hO.2.1
  have hxb := elX_b (D := M 171) (tx := tx) (n := n) (p := p) (m := M 171 0) hm.1
  unfold f_X10_elementTold
  refine t_Re (e_failed (by omega)) ?_
  rw [if_pos h7]
  refine t_pos (by decide) ?_
  refine t_W (t_mono (e_isName hO hx ha h7) (fun q hq => ?_))
  obtain ⟨g0, g1, g2, g3⟩ := hq
  have e71 : q.2 171 = M 171 := g3.1 171 (by decide)
  refine t_kP (fun kk => ∀ X, X 166 4 = p → X 166 5 = p → fr6 M X → jT (kk (elX (M 171) tx n p (M 171 0)) X) (elQ tx n p j M)) ?_ ?_
  · intro X x4 x5 xf
    have x7 : X 166 7 = -1 := by rw [xf.2 7 (by decide) (by decide)]; exact h7
    have x71 : X 171 = M 171 := xf.1 171 (by decide)
    refine t_kP (fun kk => ¬ (elX (M 171) tx n p (M 171 0) ≠ -1 ∧ (j = 0 ∨ M 171 (4 + elX (M 171) tx n p (M 171 0)) = 0)) → jT kk (elQ tx n p j M)) ?_ ?_
    · intro hno
      refine t_Ve (e_fails0 x7) ?_
      refine t_some ⟨Or.inr ⟨hno, rfl, by dsimp only; rw [pst_s]; exact x5⟩, ?_, fun a q => by dsimp only; rw [pst_f q]; exact xf.1 a q, fun j q4 q5 q7 => by dsimp only; rw [pst_i q7]; exact xf.2 j q4 q5⟩
      unfold rPt
      dsimp only
      rw [pst_i (by decide), x4]
      omega
    · intro k9 hk9
      rw [pw_of (z := elX (M 171) tx n p (M 171 0)) (by omega) (by omega), pw_of (z := -1) (by omega) (by omega)]
      refine t_if (fun c => hk9 (fun q => q.1 c)) (fun c => ?_)
      have hb := hxb.2 c
      have hk := hK _ hb.1 hb.2.1
      refine t_kP (fun kk => (j = 0 ∨ M 171 (4 + elX (M 171) tx n p (M 171 0)) = 0) → jT kk (elQ tx n p j M)) ?_ ?_
      · intro hyes
        refine t_W (t_mono (e_wordMany hO (rTx_fr hx xf) (rAt_p ha x4)) (fun r hr' => ?_))
        obtain ⟨w0, w1, w2, w3⟩ := hr'
        have wf := fr6_t xf w3
        refine t_let ?_
        refine t_some ⟨Or.inl ⟨⟨c, hyes⟩, rfl, ?_, ?_⟩, ?_, fun a q => ?_, fun j q4 q5 q7 => ?_⟩
        · dsimp only
          rw [pst_i (by decide), wf.2 7 (by decide) (by decide)]
          exact h7
        · unfold rAt
          dsimp only
          rw [pst_s, x4, w0, show p + (rn isLt tx n p - p) = rn isLt tx n p from by omega]
          exact ⟨by omega, hr.2.1, rfl⟩
        · unfold rPt
          dsimp only
          rw [pst_s, x4, w0]
          omega
        · dsimp only
          rw [pst_f q]
          exact wf.1 a q
        · dsimp only
          rw [pst_i q4]
          exact wf.2 j q4 q5
      · intro k12 hk12
        rw [x71, pw_of (z := j) (by omega) (by omega), pw_of (z := 4 + elX (M 171) tx n p (M 171 0)) (by omega) (by omega), pw_of (z := M 171 (4 + elX (M 171) tx n p (M 171 0))) (by omega) (by omega)]
        refine t_if (fun c1 => hk12 (Or.inl c1)) (fun c1 => ?_)
        refine t_ck (by omega) ?_
        refine t_if (fun c2 => hk12 (Or.inr c2)) (fun c2 => hk9 (fun q => by rcases q.2 with q | q <;> omega))
  · intro k8 hk8
    rw [g0]
    by_cases c : 1 ≤ rn isLt tx n p - p ∧ rn isLt tx n p - p ≤ 6
    · rw [b2_t c]
      refine t_neg (by decide) ?_
      refine t_ck (by decide) ?_
      rw [e71, pw_of (z := 0) (by omega) (by omega)]
      refine t_W (t_mono (e_named (base := 14) (m := M 171 0) hO (rTx_fr hx g3) (rAt_p ha g1) c (by decide) hm (by rw [e71]; exact hD)) (fun r hr' => ?_))
      obtain ⟨v0, v1, v2, v3⟩ := hr'
      rw [e71] at v0
      have : r.1 = elX (M 171) tx n p (M 171 0) := by
        rw [v0]
        unfold elX
        rw [if_pos c]
      rw [this]
      exact hk8 r.2 v1 v2 (fr6_t g3 v3)
    · rw [b2_f c]
      refine t_pos (by decide) ?_
      have : elX (M 171) tx n p (M 171 0) = -1 := if_neg c
      have h8 := hk8 q.2 g1 g2 g3
      rw [this] at h8
      exact h8
