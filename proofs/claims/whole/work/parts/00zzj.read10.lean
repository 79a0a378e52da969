/-! ===== reading: a new name, component ===== -/
def nwOk (D tx : Int → Int) (n p base m : Int) : Prop := 1 ≤ rn isLt tx n p - p ∧ rn isLt tx n p - p ≤ 6 ∧ fdN D tx base m p (rn isLt tx n p - p) = -1
theorem c_add {t m N p len : Int} {M : jM} (hN : 6 ≤ N ∧ N ≤ 10) (ht : t ≠ 2 ∧ t + 1 ≠ 2 ∧ t + 2 ≠ 2) (hl2 : jln (t + 2) = N) (hl1 : jln (t + 1) = 6 * N) (h0 : M t 0 = N) (h3 : M t 3 = m) (hm : 0 ≤ m ∧ m < N) (hp : 0 ≤ p ∧ p + len ≤ 600) (hlen : 1 ≤ len ∧ len ≤ 6) : f_X2_add t 2 p len M = some (jst (jst (jcp M 2 p (t + 1) (m * 6) len) (t + 2) m len) t 3 (m + 1)) := by
  have e0 : jcp M 2 p (t + 1) (m * 6) len t 3 = m := by
    unfold jcp
    rw [if_neg (fun q => by omega)]
    exact h3
  have hfull : f_X2_isFull t M = some 0 := by
    unfold f_X2_isFull
    rw [h3, h0, pw_of (z := m) (by omega) (by omega), pw_of (z := N) (by omega) (by omega), if_pos (by omega)]
  unfold f_X2_add
  rw [hfull, eR, if_pos (by decide), pw_of (z := len) (by omega) (by omega), pw_of (z := 6) (by omega) (by omega), if_pos hlen.2, h3, pw_of (z := p) (by omega) (by omega), pw_of (z := m * 6) (by omega) (by omega), hl1, hl2, show jln 2 = 600 from by decide +kernel, eC (by omega), eL, e0, pw_of (z := m) (by omega) (by omega), eC (by omega), eL, pst_f (by omega), e0, eL]
theorem c_newName {tx : Int → Int} {n p t m N base : Int} {M : jM} {D : Int → Int} (h : cSt tx n p M) (hN : 6 ≤ N ∧ N ≤ 10) (ht : 2 < t ∧ t + 2 < 109) (hl2 : jln (t + 2) = N) (hl1 : jln (t + 1) = 6 * N) (h0 : M t 0 = N) (h3 : M t 3 = m) (hm : 0 ≤ m ∧ m < N) (hR : rNm (M (t + 1)) (M (t + 2)) D base m) :
    jT (f_X4_newName t M) (fun q => (nwOk D tx n p base m ∧ q.1 = 1 ∧ cAt tx n (bl tx n (rn isLt tx n p)) q.2 ∧ q.2 t 3 = m + 1 ∧ (∀ j, j ≠ 3 → q.2 t j = M t j) ∧ (∀ D' : Int → Int, (∀ i k, 0 ≤ i → i < m → 0 ≤ k → k < 6 → D' (base + 6 * i + k) = D (base + 6 * i + k)) → (∀ k, 0 ≤ k → k < 6 → D' (base + 6 * m + k) = if k < rn isLt tx n p - p then tx (p + k) else 0) → rNm (q.2 (t + 1)) (q.2 (t + 2)) D' base (m + 1)) ∧ (∀ a, a ≠ t → a ≠ t + 1 → a ≠ t + 2 → a ≠ 109 → q.2 a = M a) ∧ (∀ j, j ≠ 3 → j ≠ 4 → j ≠ 5 → q.2 109 j = M 109 j)) ∨ (¬ nwOk D tx n p base m ∧ q = (0, jst M 109 7 p))) := by
  obtain ⟨hO, hp, h2, htx, a4, a3, a5⟩ := h
  obtain ⟨d1, d2⟩ := tk_lt hO hp
  have hkb := tkK_b hO hp
  have heb := tkE_b (tx := tx) hp.2
  have hr := rn_b (c := isLt) (tx := tx) hp.2
  have n6 := hO.2.1
  unfold f_X4_newName
  refine t_kP (fun kk => ¬ nwOk D tx n p base m → jT kk (fun q => (nwOk D tx n p base m ∧ q.1 = 1 ∧ cAt tx n (bl tx n (rn isLt tx n p)) q.2 ∧ q.2 t 3 = m + 1 ∧ (∀ j, j ≠ 3 → q.2 t j = M t j) ∧ (∀ D' : Int → Int, (∀ i k, 0 ≤ i → i < m → 0 ≤ k → k < 6 → D' (base + 6 * i + k) = D (base + 6 * i + k)) → (∀ k, 0 ≤ k → k < 6 → D' (base + 6 * m + k) = if k < rn isLt tx n p - p then tx (p + k) else 0) → rNm (q.2 (t + 1)) (q.2 (t + 2)) D' base (m + 1)) ∧ (∀ a, a ≠ t → a ≠ t + 1 → a ≠ t + 2 → a ≠ 109 → q.2 a = M a) ∧ (∀ j, j ≠ 3 → j ≠ 4 → j ≠ 5 → q.2 109 j = M 109 j)) ∨ (¬ nwOk D tx n p base m ∧ q = (0, jst M 109 7 p)))) ?_ ?_
  · intro hno
    exact c_refuse (Or.inr ⟨hno, by rw [a4]⟩)
  · intro k1 hk1
    rw [a3, a5, a4, pw_of (z := tkK tx n p) (by omega) (by omega), pw_of (z := 97) (by omega) (by omega), pw_of (z := tkE tx n p - p) (by omega) (by omega), pw_of (z := 6) (by omega) (by omega)]
    refine t_if (fun c1 => ?_) (fun c1 => hk1 (fun q => c1 (d1.2 (by have := q.1; omega))))
    have hpr := d1.1 c1
    have hE := d2 hpr
    rw [hE]
    refine t_if (fun c2 => hk1 (fun q => by have := q.2.1; omega)) (fun c2 => ?_)
    have hlet : ∀ k, 0 ≤ k → k < rn isLt tx n p - p → M 2 (p + k) = tx (p + k) ∧ 97 ≤ tx (p + k) ∧ tx (p + k) ≤ 122 := fun k q0 q1 => ⟨htx (p + k) (by omega) (by omega), isLt_i.1 (hr.2.2.1 (p + k) (by omega) (by omega))⟩
    have hfd := fdN_b (D := D) (tx := tx) (base := base) (m := m) (p := p) (len := rn isLt tx n p - p) hm.1
    have hcf := c_find (D := D) (tx := tx) hN hl2 hl1 (by omega) h3 hR ⟨hp.1, by omega⟩ (by omega) hlet
    rw [if_pos (by omega)] at hcf
    refine t_Re hcf ?_
    rw [pw_of (z := fdN D tx base m p (rn isLt tx n p - p)) (by omega) (by omega), pw_of (z := -1) (by omega) (by omega)]
    refine t_if (fun c3 => ?_) (fun c3 => hk1 (fun q => c3 q.2.2))
    refine t_Ve (c_add hN ⟨by omega, by omega, by omega⟩ hl2 hl1 h0 h3 hm ⟨hp.1, by omega⟩ ⟨by omega, by omega⟩) ?_
    generalize hMa : jst (jst (jcp M 2 p (t + 1) (m * 6) (rn isLt tx n p - p)) (t + 2) m (rn isLt tx n p - p)) t 3 (m + 1) = Ma
    have fo : ∀ a, a ≠ t → a ≠ t + 1 → a ≠ t + 2 → Ma a = M a := fun a q0 q1 q2 => by
      rw [← hMa, pst_f q0, pst_f q2]
      funext j
      unfold jcp
      exact if_neg (fun q => q1 q.1)
    have ft : ∀ j, j ≠ 3 → Ma t j = M t j := fun j q => by
      rw [← hMa, pst_i q, pst_f (by omega)]
      unfold jcp
      exact if_neg (fun q => by omega)
    have ft3 : Ma t 3 = m + 1 := by rw [← hMa, pst_s]
    have f1 : ∀ j, Ma (t + 1) j = if m * 6 ≤ j ∧ j < m * 6 + (rn isLt tx n p - p) then M 2 (p + (j - m * 6)) else M (t + 1) j := fun j => by
      rw [← hMa, pst_f (by omega), pst_f (by omega)]
      unfold jcp
      by_cases c : m * 6 ≤ j ∧ j < m * 6 + (rn isLt tx n p - p)
      · rw [if_pos c, if_pos ⟨rfl, c⟩]
      · rw [if_neg c, if_neg (fun q => c q.2)]
    have f2 : ∀ j, Ma (t + 2) j = if j = m then rn isLt tx n p - p else M (t + 2) j := fun j => by
      rw [← hMa, pst_f (by omega)]
      by_cases c : j = m
      · rw [if_pos c, c, pst_s]
      · rw [if_neg c, pst_i c]
        unfold jcp
        exact if_neg (fun q => by omega)
    refine t_V (t_mono (c_adv (M := Ma) (p := rn isLt tx n p) hO (by rw [fo 109 (by omega) (by omega) (by omega)]; exact h2) (fun x q0 q1 => by rw [fo 2 (by omega) (by omega) (by omega)]; exact htx x q0 q1) (by rw [fo 109 (by omega) (by omega) (by omega), a4, a5, hE]; omega) ⟨by omega, hr.2.1⟩) (fun M9 h9 => ?_))
    have g9 : ∀ a, a ≠ 109 → M9 a = Ma a := h9.2.1
    refine t_some (Or.inl ⟨⟨by omega, by omega, c3⟩, rfl, h9.1, ?_, fun j q => ?_, fun D' hD1 hD2 => ?_, fun a q0 q1 q2 q3 => ?_, fun j q3 q4 q5 => ?_⟩)
    · dsimp only
      rw [g9 t (by omega)]
      exact ft3
    · dsimp only
      rw [g9 t (by omega)]
      exact ft j q
    · dsimp only
      rw [g9 (t + 1) (by omega), g9 (t + 2) (by omega)]
      intro i hi0 hi1
      rw [f2 i]
      by_cases ci : i = m
      · subst ci
        rw [if_pos rfl]
        refine ⟨by omega, fun k q0 q1 => ?_⟩
        rw [f1, hD2 k q0 q1]
        by_cases ck : k < rn isLt tx n p - p
        · have hk := hlet k q0 ck
          rw [if_pos (by omega), show p + (6 * i + k - i * 6) = p + k from by omega, hk.1, if_pos ck]
          exact ⟨fun _ => hk.2, rfl⟩
        · rw [if_neg ck, if_neg ck]
          exact ⟨fun q => absurd q ck, rfl⟩
      · rw [if_neg ci]
        obtain ⟨z1, z2⟩ := hR i hi0 (by omega)
        refine ⟨z1, fun k q0 q1 => ?_⟩
        rw [f1, if_neg (by omega), hD1 i k hi0 (by omega) q0 q1]
        exact z2 k q0 q1
    · dsimp only
      rw [g9 a q3]
      exact fo a q0 q1 q2
    · dsimp only
      rw [h9.2.2 j q3 q4 q5, fo 109 (by omega) (by omega) (by omega)]
