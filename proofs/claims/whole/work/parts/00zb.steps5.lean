/-! ===== steps of questions, V: count, name, attempt ===== -/
theorem k_cnt0 {M : jM} (ke : jkd (M 1 3) = 1) : f_X9_count 0 M = some (M (M 1 3 + 2) 3) := by
  unfold f_X9_count
  repeat rw [if_neg (by decide)]
  rw [if_pos (by decide)]
  rw [eC ke]
theorem k_cnt1 {M : jM} (ke : jkd (M 1 3) = 1) : f_X9_count 1 M = some (M (M 1 3 + 13) 3) := by
  unfold f_X9_count
  repeat rw [if_neg (by decide)]
  rw [if_pos (by decide)]
  rw [eC ke]
theorem k_cnt2 {M : jM} (ke : jkd (M 1 3) = 1) : f_X9_count 2 M = some (M (M 1 3) 0) := by
  unfold f_X9_count
  repeat rw [if_neg (by decide)]
  rw [if_pos (by decide)]
  rw [eC ke]
theorem k_cnt3 {M : jM} (ke : jkd (M 1 3) = 1) : f_X9_count 3 M = some (M (M 1 3 + 1) 0) := by
  unfold f_X9_count
  repeat rw [if_neg (by decide)]
  rw [if_pos (by decide)]
  rw [eK, if_neg (by decide), if_neg (by decide), eC ke, eC (by decide)]
  rfl
theorem k_cnt4 {M : jM} (ke : jkd (M 1 3) = 1) : f_X9_count 4 M = some (M (M 1 3 + 1) 1) := by
  unfold f_X9_count
  repeat rw [if_neg (by decide)]
  rw [if_pos (by decide)]
  rw [eK, if_neg (by decide), if_neg (by decide), eC ke, eC (by decide)]
  rfl
theorem k_cnt5 {M : jM} (ke : jkd (M 1 3) = 1) : f_X9_count 5 M = some (M (M 1 3 + 1) 2) := by
  unfold f_X9_count
  repeat rw [if_neg (by decide)]
  rw [if_pos (by decide)]
  rw [eK, if_neg (by decide), if_neg (by decide), eC ke, eC (by decide)]
  rfl
theorem k_cnt6 {M : jM} (ke : jkd (M 1 3) = 1) : f_X9_count 6 M = some (M (M 1 3 + 1) 3) := by
  unfold f_X9_count
  repeat rw [if_neg (by decide)]
  rw [if_pos (by decide)]
  rw [eK, if_neg (by decide), if_neg (by decide), eC ke, eC (by decide)]
  rfl
theorem k_cnt7 {M : jM} (ke : jkd (M 1 3) = 1) : f_X9_count 7 M = some (M (M 1 3 + 1) 4) := by
  unfold f_X9_count
  repeat rw [if_neg (by decide)]
  rw [if_pos (by decide)]
  rw [eK, if_neg (by decide), if_neg (by decide), eC ke, eC (by decide)]
  rfl
theorem k_cnt8 {M : jM} (ke : jkd (M 1 3) = 1) : f_X9_count 8 M = some (M (M 1 3 + 1) 5) := by
  unfold f_X9_count
  repeat rw [if_neg (by decide)]
  rw [if_pos (by decide)]
  rw [eK, if_neg (by decide), if_neg (by decide), eC ke, eC (by decide)]
  rfl
theorem k_cnt9 {M : jM} (ke : jkd (M 1 3) = 1) : f_X9_count 9 M = some (M (M 1 3 + 1) 6) := by
  unfold f_X9_count
  repeat rw [if_neg (by decide)]
  rw [if_pos (by decide)]
  rw [eK, if_neg (by decide), if_neg (by decide), eC ke, eC (by decide)]
  rfl
theorem k_cnt10 {M : jM} (ke : jkd (M 1 3) = 1) : f_X9_count 10 M = some (M (M 1 3 + 7) 0) := by
  unfold f_X9_count
  repeat rw [if_neg (by decide)]
  rw [if_pos (by decide)]
  rw [eC ke]
theorem k_cnt11 {M : jM} (ke : jkd (M 1 3) = 1) : f_X9_count 11 M = some (M 159 0) := by
  unfold f_X9_count
  repeat rw [if_neg (by decide)]
  rw [if_pos (by decide)]
theorem k_cnt12 {M : jM} (ke : jkd (M 1 3) = 1) : f_X9_count 12 M = some (M 164 1) := by
  unfold f_X9_count
  repeat rw [if_neg (by decide)]
theorem l_cnt0 {M : jM} (hT : bT (M 169)) : f_X10_count 0 M = some (M 169 0, jst M 166 0 0) := by
  have t1 := hT.2.1
  unfold f_X10_count
  rw [eL, eC (by decide), pw_of (z := 1) (by omega) (by omega), pst_f (show (169 : Int) ≠ 166 by decide), e_in (by decide) (by decide) (by omega), eR, b2_f (by omega), if_pos (show jw 0 = 0 by decide)]
  repeat rw [if_neg (by decide)]
  rw [if_pos (by decide)]
  rw [eC (by decide)]
  try rfl
theorem l_cnt1 {M : jM} (hT : bT (M 169)) : f_X10_count 1 M = some (M 169 1, jst M 166 0 0) := by
  have t1 := hT.2.1
  unfold f_X10_count
  rw [eL, eC (by decide), pw_of (z := 1) (by omega) (by omega), pst_f (show (169 : Int) ≠ 166 by decide), e_in (by decide) (by decide) (by omega), eR, b2_f (by omega), if_pos (show jw 0 = 0 by decide)]
  repeat rw [if_neg (by decide)]
  rw [if_pos (by decide)]
  rw [eC (by decide)]
  try rfl
theorem l_cnt2 {M : jM} (hT : bT (M 169)) : f_X10_count 2 M = some (M 169 2, jst M 166 0 0) := by
  have t1 := hT.2.1
  unfold f_X10_count
  rw [eL, eC (by decide), pw_of (z := 1) (by omega) (by omega), pst_f (show (169 : Int) ≠ 166 by decide), e_in (by decide) (by decide) (by omega), eR, b2_f (by omega), if_pos (show jw 0 = 0 by decide)]
  repeat rw [if_neg (by decide)]
  rw [if_pos (by decide)]
  rw [eC (by decide)]
  try rfl
theorem l_cnt3 {M : jM} (hT : bT (M 169)) : f_X10_count 3 M = some (M 170 964, jst M 166 0 0) := by
  have t1 := hT.2.1
  unfold f_X10_count
  rw [eL, eC (by decide), pw_of (z := 1) (by omega) (by omega), pst_f (show (169 : Int) ≠ 166 by decide), e_in (by decide) (by decide) (by omega), eR, b2_f (by omega), if_pos (show jw 0 = 0 by decide)]
  repeat rw [if_neg (by decide)]
  rw [if_pos (by decide)]
  rw [eC (by decide)]
  rw [pst_f (show (170 : Int) ≠ 166 by decide)]
  try rfl
theorem l_cnt4 {M : jM} (hT : bT (M 169)) : f_X10_count 4 M = some (M 170 965, jst M 166 0 0) := by
  have t1 := hT.2.1
  unfold f_X10_count
  rw [eL, eC (by decide), pw_of (z := 1) (by omega) (by omega), pst_f (show (169 : Int) ≠ 166 by decide), e_in (by decide) (by decide) (by omega), eR, b2_f (by omega), if_pos (show jw 0 = 0 by decide)]
  repeat rw [if_neg (by decide)]
  rw [if_pos (by decide)]
  rw [eC (by decide)]
  rw [pst_f (show (170 : Int) ≠ 166 by decide)]
  try rfl
theorem l_cnt5 {M : jM} (hT : bT (M 169)) : f_X10_count 5 M = some (M 170 966, jst M 166 0 0) := by
  have t1 := hT.2.1
  unfold f_X10_count
  rw [eL, eC (by decide), pw_of (z := 1) (by omega) (by omega), pst_f (show (169 : Int) ≠ 166 by decide), e_in (by decide) (by decide) (by omega), eR, b2_f (by omega), if_pos (show jw 0 = 0 by decide)]
  repeat rw [if_neg (by decide)]
  rw [if_pos (by decide)]
  rw [eC (by decide)]
  rw [pst_f (show (170 : Int) ≠ 166 by decide)]
  try rfl
theorem l_cnt6 {M : jM} (hT : bT (M 169)) : f_X10_count 6 M = some (M 170 967, jst M 166 0 0) := by
  have t1 := hT.2.1
  unfold f_X10_count
  rw [eL, eC (by decide), pw_of (z := 1) (by omega) (by omega), pst_f (show (169 : Int) ≠ 166 by decide), e_in (by decide) (by decide) (by omega), eR, b2_f (by omega), if_pos (show jw 0 = 0 by decide)]
  repeat rw [if_neg (by decide)]
  rw [if_pos (by decide)]
  rw [eC (by decide)]
  rw [pst_f (show (170 : Int) ≠ 166 by decide)]
  try rfl
theorem l_cnt7 {M : jM} (hT : bT (M 169)) : f_X10_count 7 M = some (M 170 968, jst M 166 0 0) := by
  have t1 := hT.2.1
  unfold f_X10_count
  rw [eL, eC (by decide), pw_of (z := 1) (by omega) (by omega), pst_f (show (169 : Int) ≠ 166 by decide), e_in (by decide) (by decide) (by omega), eR, b2_f (by omega), if_pos (show jw 0 = 0 by decide)]
  repeat rw [if_neg (by decide)]
  rw [if_pos (by decide)]
  rw [eC (by decide)]
  rw [pst_f (show (170 : Int) ≠ 166 by decide)]
  try rfl
theorem l_cnt8 {M : jM} (hT : bT (M 169)) : f_X10_count 8 M = some (M 170 969, jst M 166 0 0) := by
  have t1 := hT.2.1
  unfold f_X10_count
  rw [eL, eC (by decide), pw_of (z := 1) (by omega) (by omega), pst_f (show (169 : Int) ≠ 166 by decide), e_in (by decide) (by decide) (by omega), eR, b2_f (by omega), if_pos (show jw 0 = 0 by decide)]
  repeat rw [if_neg (by decide)]
  rw [if_pos (by decide)]
  rw [eC (by decide)]
  rw [pst_f (show (170 : Int) ≠ 166 by decide)]
  try rfl
theorem l_cnt9 {M : jM} (hT : bT (M 169)) : f_X10_count 9 M = some (M 170 970, jst M 166 0 0) := by
  have t1 := hT.2.1
  unfold f_X10_count
  rw [eL, eC (by decide), pw_of (z := 1) (by omega) (by omega), pst_f (show (169 : Int) ≠ 166 by decide), e_in (by decide) (by decide) (by omega), eR, b2_f (by omega), if_pos (show jw 0 = 0 by decide)]
  repeat rw [if_neg (by decide)]
  rw [if_pos (by decide)]
  rw [eC (by decide)]
  rw [pst_f (show (170 : Int) ≠ 166 by decide)]
  try rfl
theorem l_cnt10 {M : jM} (hT : bT (M 169)) : f_X10_count 10 M = some (M 169 3, jst M 166 0 0) := by
  have t1 := hT.2.1
  unfold f_X10_count
  rw [eL, eC (by decide), pw_of (z := 1) (by omega) (by omega), pst_f (show (169 : Int) ≠ 166 by decide), e_in (by decide) (by decide) (by omega), eR, b2_f (by omega), if_pos (show jw 0 = 0 by decide)]
  repeat rw [if_neg (by decide)]
  rw [if_pos (by decide)]
  rw [eC (by decide)]
  try rfl
theorem l_cnt11 {M : jM} (hT : bT (M 169)) : f_X10_count 11 M = some (M 166 29, jst M 166 0 0) := by
  have t1 := hT.2.1
  unfold f_X10_count
  rw [eL, eC (by decide), pw_of (z := 1) (by omega) (by omega), pst_f (show (169 : Int) ≠ 166 by decide), e_in (by decide) (by decide) (by omega), eR, b2_f (by omega), if_pos (show jw 0 = 0 by decide)]
  repeat rw [if_neg (by decide)]
  rw [if_pos (by decide)]
  rw [pst_i (by decide)]
theorem l_cnt12 {M : jM} (hT : bT (M 169)) : f_X10_count 12 M = some (M 166 31, jst M 166 0 0) := by
  have t1 := hT.2.1
  unfold f_X10_count
  rw [eL, eC (by decide), pw_of (z := 1) (by omega) (by omega), pst_f (show (169 : Int) ≠ 166 by decide), e_in (by decide) (by decide) (by omega), eR, b2_f (by omega), if_pos (show jw 0 = 0 by decide)]
  repeat rw [if_neg (by decide)]
  rw [pst_i (by decide)]
/-- count -/
theorem z_41 {M : jM} (hI : Inv M) {a1 : Int} (j1 : jin a1) : jT (s_41 a1 M) Inv := by
  obtain ⟨hC, hT, hN, hP, hR, hQ, hcP⟩ := inv_ctx hI
  have t0 := hT.1
  have t1 := hT.2.1
  have t2 := hT.2.2.1
  have t3 := hT.2.2.2.1
  have hb1 := jin_b j1
  have hInv := Inv_fr hI (frQ_0 M 0) (bP_0 hI.2.2.2.2.2.2)
  have ke := kd_e hC.1
  have hE := hC.2.2.2.2
  have hS := hE.2.1
  unfold s_41
  have fin : ∀ v w : Int, f_X9_count a1 M = some v → f_X10_count a1 M = some (w, jst M 166 0 0) → v = w → jT (jbR (f_X9_count a1 M) fun v1 => jbW (f_X10_count a1 M) fun v3 M5 => jck (jw v1 = jw v3) <| some M5) Inv := fun v w h1 h2 h3 => by
    rw [h1, eR, h2, eW, h3]
    exact t_ck rfl (t_some hInv)
  by_cases c : 0 ≤ a1 ∧ a1 ≤ 12
  · have h13 : a1 = 0 ∨ a1 = 1 ∨ a1 = 2 ∨ a1 = 3 ∨ a1 = 4 ∨ a1 = 5 ∨ a1 = 6 ∨ a1 = 7 ∨ a1 = 8 ∨ a1 = 9 ∨ a1 = 10 ∨ a1 = 11 ∨ a1 = 12 := by omega
    rcases h13 with h | h | h | h | h | h | h | h | h | h | h | h | h <;> subst h
    · exact fin _ _ (k_cnt0 ke) (l_cnt0 hT) hE.2.2.1
    · exact fin _ _ (k_cnt1 ke) (l_cnt1 hT) hE.2.2.2.1
    · exact fin _ _ (k_cnt2 ke) (l_cnt2 hT) hE.1
    · exact fin _ _ (k_cnt3 ke) (l_cnt3 hT) (hS 0 (by decide) (by decide))
    · exact fin _ _ (k_cnt4 ke) (l_cnt4 hT) (hS 1 (by decide) (by decide))
    · exact fin _ _ (k_cnt5 ke) (l_cnt5 hT) (hS 2 (by decide) (by decide))
    · exact fin _ _ (k_cnt6 ke) (l_cnt6 hT) (hS 3 (by decide) (by decide))
    · exact fin _ _ (k_cnt7 ke) (l_cnt7 hT) (hS 4 (by decide) (by decide))
    · exact fin _ _ (k_cnt8 ke) (l_cnt8 hT) (hS 5 (by decide) (by decide))
    · exact fin _ _ (k_cnt9 ke) (l_cnt9 hT) (hS 6 (by decide) (by decide))
    · exact fin _ _ (k_cnt10 ke) (l_cnt10 hT) hE.2.2.2.2.1
    · exact fin _ _ (k_cnt11 ke) (l_cnt11 hT) hI.2.2.2.2.2.1.2.2.1.symm
    · exact fin _ _ (k_cnt12 ke) (l_cnt12 hT) hI.2.2.2.2.1.1.symm
  · have hX : f_X9_count a1 M = some (if 20 ≤ a1 ∧ a1 ≤ 19 + M 169 1 then M 169 (116 + (a1 - 20)) else -1) := by
      unfold f_X9_count
      rw [pw_of hb1.1 hb1.2, if_pos (by omega), eK, pw_of (z := 20) (by omega) (by omega), pw_of (z := 3) (by omega) (by omega), pw_of (z := 10) (by omega) (by omega), eC ke, hE.2.2.2.1, pw_of (z := 20 + M 169 1) (by omega) (by omega)]
      by_cases c1 : a1 < 20
      · rw [if_neg (show ¬ (20 ≤ a1 ∧ a1 ≤ 19 + M 169 1) by omega)]
        by_cases c2 : a1 < 3
        · rw [if_pos c2, if_pos c1]
        · rw [if_neg c2, if_pos (by omega), if_pos c1]
      · rw [if_neg (show ¬ a1 < 3 by omega), if_pos (show 10 ≤ a1 by omega), if_neg c1]
        by_cases c2 : 20 + M 169 1 ≤ a1
        · rw [if_pos c2, if_neg (by omega)]
        · rw [if_neg c2, if_pos (by omega), pw_of (z := a1 - 20) (by omega) (by omega), eC (by omega), (hE.2.2.2.2.2.2.2.2.2 (a1 - 20) (by omega) (by omega)).1]
    have hY : f_X10_count a1 M = some ((if 20 ≤ a1 ∧ a1 ≤ 19 + M 169 1 then M 169 (116 + (a1 - 20)) else -1), jst M 166 0 0) := by
      unfold f_X10_count
      rw [eL, eC (by decide), pw_of (z := 1) (by omega) (by omega), pst_f (show (169 : Int) ≠ 166 by decide), e_in hb1 (by omega) (by omega), eR, pw_of hb1.1 hb1.2]
      by_cases c1 : 20 ≤ a1 ∧ a1 ≤ 19 + M 169 1
      · rw [b2_t c1, if_neg (by decide), if_pos c1, pw_of (z := 116 + a1 - 20) (by omega) (by omega), eC (by omega), show 116 + a1 - 20 = 116 + (a1 - 20) from by omega]
      · rw [b2_f c1, if_pos (show jw 0 = 0 by decide), if_pos (show a1 < 0 ∨ 12 < a1 by omega), if_neg c1]
    exact fin _ _ hX hY rfl
/-- letters of names -/
theorem c_letter {t i k base n : Int} {M : jM} {T : Int → Int} (hl2 : jln (t + 2) = n) (hl1 : jln (t + 1) = 6 * n) (hn : 6 ≤ n ∧ n ≤ 10) {m : Int} (hm : m ≤ n) (hR : rNm (M (t + 1)) (M (t + 2)) T base m) (hi : 0 ≤ i ∧ i < m) (hk : jin k) :
    f_X2_letter t i k M = some (if 0 ≤ k ∧ k < 6 ∧ T (base + 6 * i + k) ≠ 0 then T (base + 6 * i + k) else -1) := by
  have hb := jin_b hk
  obtain ⟨⟨z1, z2⟩, z3⟩ := hR i hi.1 hi.2
  unfold f_X2_letter
  rw [pw_of hb.1 hb.2, pw_of (z := i) (by omega) (by omega), hl2, hl1, eC (by omega), pw_of (z := M (t + 2) i) (by omega) (by omega)]
  by_cases c1 : k < 0
  · rw [if_pos c1, if_neg (by omega)]
  · rw [if_neg c1]
    by_cases c2 : M (t + 2) i ≤ k
    · rw [if_pos c2]
      by_cases c3 : k < 6
      · have := (z3 k (by omega) c3).2
        rw [if_neg (by omega)] at this
        rw [if_neg (fun q => q.2.2 this)]
      · rw [if_neg (by omega)]
    · obtain ⟨y1, y2⟩ := z3 k (by omega) (by omega)
      have y3 := y1 (by omega)
      rw [if_pos (by omega)] at y2
      rw [if_neg c2, pw_of (z := i * 6 + k) (by omega) (by omega), eC (by omega), show i * 6 + k = 6 * i + k from by omega, if_pos ⟨by omega, by omega, by omega⟩, y2]
theorem ln_n {e : Int} (h : e = 3 ∨ e = 56) : jln (e + 2 + 2) = 10 ∧ jln (e + 2 + 1) = 60 ∧ jln (e + 13 + 2) = 6 ∧ jln (e + 13 + 1) = 36 := by
  rcases h with h | h <;> subst h <;> decide +kernel
/-- name -/
theorem z_4 {M : jM} (hI : Inv M) {a1 a2 a3 : Int} (j1 : jin a1) (j2 : jin a2) (j3 : jin a3) : jT (s_4 a1 a2 a3 M) Inv := by
  obtain ⟨hC, hT, hN, hP, hR, hQ, hcP⟩ := inv_ctx hI
  have t0 := hT.1
  have t1 := hT.2.1
  have t2 := hT.2.2.1
  have t3 := hT.2.2.2.1
  have hb3 := jin_b j3
  have he := hC.1
  have hE := hC.2.2.2.2
  obtain ⟨l1, l2, l3, l4⟩ := ln_n he
  unfold s_4
  refine t_let ?_
  generalize hb : (if jw a1 = 0 then (0 : Int) else 1) = bb
  have hbb : bb = 0 ∨ bb = 1 := by rw [← hb]; split <;> simp
  have nz : ∀ (base i n : Int) (L Z : Int → Int), rNm L Z (M 169) base n → 0 ≤ i → i < n → ∀ k, 0 ≤ k → k < 6 → M 169 (base + 6 * i + k) = 0 ∨ 97 ≤ M 169 (base + 6 * i + k) ∧ M 169 (base + 6 * i + k) ≤ 122 := fun base i n L Z h h0 h1 k q0 q1 => by
    obtain ⟨-, z3⟩ := h i h0 h1
    obtain ⟨y1, y2⟩ := z3 k q0 q1
    rw [y2]
    split
    · exact Or.inr (y1 (by assumption))
    · exact Or.inl rfl
  rcases hbb with hbb | hbb
  · subst hbb
    by_cases c1 : 0 ≤ a2 ∧ a2 < M 169 0
    · have hz := nz 14 a2 _ _ _ hE.2.2.2.2.2.1 c1.1 c1.2
      refine stQ hI (code := 0) (val := if 0 ≤ a3 ∧ a3 < 6 ∧ M 169 (14 + 6 * a2 + a3) ≠ 0 then M 169 (14 + 6 * a2 + a3) else -1) (by omega) (fun _ => by
        split
        · rename_i q
          have := hz a3 q.1 q.2.1
          omega
        · omega) ?_ (fun M3 h8 => ?_)
      · have hL := c_letter (t := M 1 3 + 2) (i := a2) (k := a3) (base := 14) (n := 10) (M := M) (T := M 169) l1 l2 (by omega) (m := M 169 0) (by omega) (by rw [show M 1 3 + 2 + 1 = M 1 3 + 3 from by omega, show M 1 3 + 2 + 2 = M 1 3 + 4 from by omega]; exact hE.2.2.2.2.2.1) c1 j3
        unfold w_name f_X9_name
        rw [if_pos (by decide), c_wEl0 hC rfl c1, eR, if_pos rfl, eC (kd_e he), hL, eR, eT2, if_pos rfl]
        refine wQ0 rfl ?_ (fr8_r M)
        split
        · rename_i q
          have := hz a3 q.1 q.2.1
          omega
        · omega
      · obtain ⟨r6, r9, r0⟩ := ref_A h8
        obtain ⟨b9, b0, b6⟩ := ref_B hP h8
        unfold f_X10_name
        refine t_let ?_
        refine t_k ?_
        refine t_pos (by decide) ?_
        refine t_We (e_noEl0 (by rw [b9]; exact hT) (by rw [b9]; exact c1)) (t_pos (by decide) ?_)
        refine t_Re (e_in hb3 (by omega) (by omega)) ?_
        refine t_k ?_
        by_cases c3 : 0 ≤ a3 ∧ a3 ≤ 5
        · rw [b2_t c3]
          refine t_neg (by decide) ?_
          refine t_k ?_
          refine t_pos (by decide) ?_
          refine t_ck (by rw [pw_of (z := 14 + 6 * a2 + a3) (by omega) (by omega)]; omega) ?_
          rw [pw_of (z := 14 + 6 * a2 + a3) (by omega) (by omega), b9]
          have hzz := hz a3 c3.1 (by omega)
          refine t_if (fun c4 => ?_) (fun c4 => ?_)
          · rw [pw_of (by omega) (by omega)] at c4
            exact rQ (pst_s _ _ _ _) (fun _ => by rw [if_neg (fun q => q.2.2 c4)]) (frX_0 M3 0) b6
          · rw [pw_of (by omega) (by omega)] at c4
            exact rQ (pst_s _ _ _ _) (fun _ => by rw [if_pos ⟨c3.1, by omega, c4⟩]) (frX_0 M3 0) b6
        · rw [b2_f c3]
          refine t_pos (by decide) ?_
          refine t_pos (by decide) ?_
          exact rQ (pst_s _ _ _ _) (fun _ => by rw [if_neg (by omega)]) (frX_0 M3 0) b6
    · refine stQ hI (code := 1) (val := 0) (by omega) (fun h => by omega) ?_ (fun M3 h8 => ?_)
      · unfold w_name f_X9_name
        rw [if_pos (by decide), c_wEl1 hC rfl j2 c1, eR, if_neg (by decide), eT2, if_neg (by decide), if_pos rfl]
        exact wQ1 (by decide) (fr8_r M)
      · obtain ⟨r6, r9, r0⟩ := ref_A h8
        obtain ⟨b9, b0, b6⟩ := ref_B hP h8
        unfold f_X10_name
        refine t_let ?_
        refine t_k ?_
        refine t_pos (by decide) ?_
        refine t_We (e_noEl1 (by rw [b9]; exact hT) (jin_b j2) (by rw [b9]; exact c1)) (t_neg (by decide) ?_)
        exact rQt (by decide) (frX_0 M3 0) b6
  · subst hbb
    by_cases c1 : 0 ≤ a2 ∧ a2 < M 169 1
    · have hz := nz 74 a2 _ _ _ hE.2.2.2.2.2.2.1 c1.1 c1.2
      refine stQ hI (code := 0) (val := if 0 ≤ a3 ∧ a3 < 6 ∧ M 169 (74 + 6 * a2 + a3) ≠ 0 then M 169 (74 + 6 * a2 + a3) else -1) (by omega) (fun _ => by
        split
        · rename_i q
          have := hz a3 q.1 q.2.1
          omega
        · omega) ?_ (fun M3 h8 => ?_)
      · have hL := c_letter (t := M 1 3 + 13) (i := a2) (k := a3) (base := 74) (n := 6) (M := M) (T := M 169) l3 l4 (by omega) (m := M 169 1) (by omega) (by rw [show M 1 3 + 13 + 1 = M 1 3 + 14 from by omega, show M 1 3 + 13 + 2 = M 1 3 + 15 from by omega]; exact hE.2.2.2.2.2.2.1) c1 j3
        unfold w_name f_X9_name
        rw [if_neg (by decide), c_wSk0 hC rfl c1, eR, if_pos rfl, eC (kd_e he), hL, eR, eT2, if_pos rfl]
        refine wQ0 rfl ?_ (fr8_r M)
        split
        · rename_i q
          have := hz a3 q.1 q.2.1
          omega
        · omega
      · obtain ⟨r6, r9, r0⟩ := ref_A h8
        obtain ⟨b9, b0, b6⟩ := ref_B hP h8
        unfold f_X10_name
        refine t_let ?_
        refine t_k ?_
        refine t_neg (by decide) ?_
        refine t_We (e_noSk0 (by rw [b9]; exact hT) (by rw [b9]; exact c1)) (t_pos (by decide) ?_)
        refine t_Re (e_in hb3 (by omega) (by omega)) ?_
        refine t_k ?_
        by_cases c3 : 0 ≤ a3 ∧ a3 ≤ 5
        · rw [b2_t c3]
          refine t_neg (by decide) ?_
          refine t_k ?_
          refine t_neg (by decide) ?_
          refine t_ck (by rw [pw_of (z := 74 + 6 * a2 + a3) (by omega) (by omega)]; omega) ?_
          rw [pw_of (z := 74 + 6 * a2 + a3) (by omega) (by omega), b9]
          have hzz := hz a3 c3.1 (by omega)
          refine t_if (fun c4 => ?_) (fun c4 => ?_)
          · rw [pw_of (by omega) (by omega)] at c4
            exact rQ (pst_s _ _ _ _) (fun _ => by rw [if_neg (fun q => q.2.2 c4)]) (frX_0 M3 0) b6
          · rw [pw_of (by omega) (by omega)] at c4
            exact rQ (pst_s _ _ _ _) (fun _ => by rw [if_pos ⟨c3.1, by omega, c4⟩]) (frX_0 M3 0) b6
        · rw [b2_f c3]
          refine t_pos (by decide) ?_
          refine t_pos (by decide) ?_
          exact rQ (pst_s _ _ _ _) (fun _ => by rw [if_neg (by omega)]) (frX_0 M3 0) b6
    · refine stQ hI (code := 1) (val := 0) (by omega) (fun h => by omega) ?_ (fun M3 h8 => ?_)
      · unfold w_name f_X9_name
        rw [if_neg (by decide), c_wSk1 hC rfl j2 c1, eR, if_neg (by decide), eT2, if_neg (by decide), if_pos rfl]
        exact wQ1 (by decide) (fr8_r M)
      · obtain ⟨r6, r9, r0⟩ := ref_A h8
        obtain ⟨b9, b0, b6⟩ := ref_B hP h8
        unfold f_X10_name
        refine t_let ?_
        refine t_k ?_
        refine t_neg (by decide) ?_
        refine t_We (e_noSk1 (by rw [b9]; exact hT) (jin_b j2) (by rw [b9]; exact c1)) (t_neg (by decide) ?_)
        exact rQt (by decide) (frX_0 M3 0) b6
