/-! ===== reading: votes ===== -/
def ltOk (tx : Int → Int) (n p J : Int) : Prop := rn isLt tx n p - p = J ∧ ∀ k, 0 ≤ k → k < J → tx (p + k) ≤ 107
theorem c_votes {tx : Int → Int} {n p e g row off J : Int} {M : jM} (h : cSt tx n p M) (he : M 109 1 = e) (ke : jkd e = 1) (hJ : M e 0 = J) (hJb : 1 ≤ J ∧ J ≤ 9) (hg : g + 5 ≠ 2 ∧ g + 5 ≠ 109) (hrow : 0 ≤ row ∧ row < 15) :
    jT (f_X4_votes g row off M) (fun q => (ltOk tx n p J ∧ q.1 = 1 ∧ cAt tx n (bl tx n (rn isLt tx n p)) q.2 ∧ (∀ k, 0 ≤ k → k < J → q.2 (g + 5) (row * 9 + k) = off + (tx (p + k) - 97)) ∧ (∀ j, (j < row * 9 ∨ row * 9 + 9 ≤ j) → q.2 (g + 5) j = M (g + 5) j) ∧ (∀ j, j ≠ 3 → j ≠ 4 → j ≠ 5 → q.2 109 j = M 109 j) ∨ ¬ ltOk tx n p J ∧ q.1 = 0 ∧ q.2 109 7 = p ∧ ∀ j, j ≠ 7 → q.2 109 j = M 109 j) ∧ ∀ a, a ≠ 109 → a ≠ g + 5 → q.2 a = M a) := by
  obtain ⟨hO, hp, h2, htx, a4, a3, a5⟩ := h
  obtain ⟨d1, d2⟩ := tk_lt hO hp
  have hkb := tkK_b hO hp
  have heb := tkE_b (tx := tx) hp.2
  have hr := rn_b (c := isLt) (tx := tx) hp.2
  have n6 := hO.2.1
  unfold f_X4_votes
  refine t_kP (fun kk => ¬ ltOk tx n p J → jT kk (fun q => (ltOk tx n p J ∧ q.1 = 1 ∧ cAt tx n (bl tx n (rn isLt tx n p)) q.2 ∧ (∀ k, 0 ≤ k → k < J → q.2 (g + 5) (row * 9 + k) = off + (tx (p + k) - 97)) ∧ (∀ j, (j < row * 9 ∨ row * 9 + 9 ≤ j) → q.2 (g + 5) j = M (g + 5) j) ∧ (∀ j, j ≠ 3 → j ≠ 4 → j ≠ 5 → q.2 109 j = M 109 j) ∨ ¬ ltOk tx n p J ∧ q.1 = 0 ∧ q.2 109 7 = p ∧ ∀ j, j ≠ 7 → q.2 109 j = M 109 j) ∧ ∀ a, a ≠ 109 → a ≠ g + 5 → q.2 a = M a)) ?_ ?_
  · intro hno
    refine c_refuse ⟨Or.inr ⟨hno, rfl, ?_, fun j q => pst_i q⟩, fun a q _ => pst_f q⟩
    dsimp only
    rw [pst_s]
    exact a4
  · intro k1 hk1
    rw [a3, a5, he, hJ, pw_of (z := tkK tx n p) (by omega) (by omega), pw_of (z := 97) (by omega) (by omega), pw_of (z := tkE tx n p - p) (by omega) (by omega), pw_of (z := J) (by omega) (by omega)]
    refine t_if (fun c1 => ?_) (fun c1 => hk1 (fun q => c1 (d1.2 (by have := q.1; omega))))
    have hpr := d1.1 c1
    have hE := d2 hpr
    refine t_ck ke ?_
    refine t_if (fun c2 => ?_) (fun c2 => hk1 (fun q => c2 (by rw [hE]; exact q.1)))
    rw [hE] at c2
    refine t_lp2 (fun i X => 0 ≤ i ∧ i ≤ J ∧ (∀ k, 0 ≤ k → k < i → tx (p + k) ≤ 107 ∧ X (g + 5) (row * 9 + k) = off + (tx (p + k) - 97)) ∧ (∀ j, (j < row * 9 ∨ row * 9 + 9 ≤ j) → X (g + 5) j = M (g + 5) j) ∧ ∀ a, a ≠ g + 5 → X a = M a) (fun i _ => (J - i).toNat) ?_ jfuel 0 M (by rw [jfuel_eq]; omega) ⟨by omega, by omega, fun k q0 q1 => by omega, fun _ _ => rfl, fun _ _ => rfl⟩
    rintro self i X ⟨hi1, hi2, hX1, hX2, hX3⟩ hself
    have x109 : X 109 = M 109 := hX3 109 (by omega)
    have x2 : X 2 = M 2 := hX3 2 (by omega)
    refine t_kP (fun kk => i = J → jT kk (fun q => (ltOk tx n p J ∧ q.1 = 1 ∧ cAt tx n (bl tx n (rn isLt tx n p)) q.2 ∧ (∀ k, 0 ≤ k → k < J → q.2 (g + 5) (row * 9 + k) = off + (tx (p + k) - 97)) ∧ (∀ j, (j < row * 9 ∨ row * 9 + 9 ≤ j) → q.2 (g + 5) j = M (g + 5) j) ∧ (∀ j, j ≠ 3 → j ≠ 4 → j ≠ 5 → q.2 109 j = M 109 j) ∨ ¬ ltOk tx n p J ∧ q.1 = 0 ∧ q.2 109 7 = p ∧ ∀ j, j ≠ 7 → q.2 109 j = M 109 j) ∧ ∀ a, a ≠ 109 → a ≠ g + 5 → q.2 a = M a)) ?_ ?_
    · intro hiJ
      subst hiJ
      refine t_V (t_mono (c_adv (M := X) (p := rn isLt tx n p) hO (by rw [x109]; exact h2) (fun x q0 q1 => by rw [x2]; exact htx x q0 q1) (by rw [x109, a4, a5, hE]; omega) ⟨by omega, hr.2.1⟩) (fun M9 h9 => ?_))
      have g9 : ∀ a, a ≠ 109 → M9 a = X a := h9.2.1
      refine t_some ⟨Or.inl ⟨⟨c2, fun k q0 q1 => (hX1 k q0 q1).1⟩, rfl, h9.1, fun k q0 q1 => ?_, fun j q => ?_, fun j q3 q4 q5 => ?_⟩, fun a q0 q1 => ?_⟩
      · dsimp only
        rw [g9 _ hg.2]
        exact (hX1 k q0 q1).2
      · dsimp only
        rw [g9 _ hg.2]
        exact hX2 j q
      · dsimp only
        rw [h9.2.2 j q3 q4 q5, x109]
      · dsimp only
        rw [g9 a q0]
        exact hX3 a q1
    · intro k10 hk10
      rw [x109, a5, a4, hE, c2, x2, pw_of (z := J) (by omega) (by omega), pw_of (z := i) (by omega) (by omega), pw_of (z := 9) (by omega) (by omega), pw_of (z := 10) (by omega) (by omega)]
      refine t_if (fun c3 => hk10 (by omega)) (fun c3 => ?_)
      refine t_if (fun c4 => hk10 (by omega)) (fun c4 => ?_)
      have h97 := isLt_i.1 (hr.2.2.1 (p + i) (by omega) (by omega))
      rw [pw_of (z := p + i) (by omega) (by omega), htx (p + i) (by omega) (by omega)]
      refine t_ck (by omega) ?_
      refine t_let ?_
      rw [pw_of (z := tx (p + i) - 97) (by omega) (by omega), pw_of (z := row * 9 + i) (by omega) (by omega)]
      refine t_if (fun c5 => ?_) (fun c5 => ?_)
      · refine t_ck (by omega) ?_
        refine t_let ?_
        refine t_let ?_
        refine hself _ _ ⟨by omega, by omega, fun k q0 q1 => ?_, fun j q => by rw [pst_i (by omega)]; exact hX2 j q, fun a q => by rw [pst_f q]; exact hX3 a q⟩ (by omega)
        by_cases ck : k = i
        · subst ck
          rw [pst_s]
          exact ⟨by omega, rfl⟩
        · rw [pst_i (by omega)]
          exact hX1 k q0 (by omega)
      · refine c_refuse ⟨Or.inr ⟨fun q => by have := q.2 i hi1 (by omega); omega, rfl, ?_, fun j q => ?_⟩, fun a q0 q1 => ?_⟩
        · dsimp only
          rw [pst_s, x109]
          exact a4
        · dsimp only
          rw [pst_i q, x109]
        · dsimp only
          rw [pst_f q0]
          exact hX3 a q1
