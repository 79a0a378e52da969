/-! ===== undo, raise ===== -/
theorem rE_N {e : Int} {M : jM} {T N N' : Int → Int} (hT : bT T) (h : rE e M T N) (hN : ∀ j, 0 ≤ j → j < 971 → N' j = N j) : rE e M T N' := by
  have hS := rE_keepS (M' := M) (N' := N') hT h (fun a _ _ => rfl) (fun i q0 q1 => hN i q0 (by omega))
  obtain ⟨h1, h2, h3, h4, h5, h6, h7, h8, h9, h10⟩ := h
  have t0 := hT.1
  exact ⟨h1, fun i q0 q1 => by rw [hN _ (by omega) (by omega)]; exact h2 i q0 q1, h3, h4, h5, h6, h7, fun i q0 q1 => by rw [hN _ (by omega) (by omega)]; exact h8 i q0 q1, h9, hS⟩
theorem bN_N {N N' : Int → Int} (h : bN N) (hN : ∀ j, 0 ≤ j → j < 971 → N' j = N j) : bN N' := by
  obtain ⟨n1, n2, n3, n4, n5, n6, n7, n8, n9, n10⟩ := h
  exact ⟨fun j q0 q1 => by rw [hN _ (by omega) (by omega)]; exact n1 j q0 q1, fun j q0 q1 => by rw [hN _ (by omega) (by omega)]; exact n2 j q0 q1, fun j q0 q1 => by rw [hN _ (by omega) (by omega)]; exact n3 j q0 q1, fun j q0 q1 => by rw [hN _ (by omega) (by omega)]; exact n4 j q0 q1, fun j q0 q1 => by rw [hN _ (by omega) (by omega)]; exact n5 j q0 q1, by rw [hN _ (by omega) (by omega)]; exact n6, by rw [hN _ (by omega) (by omega)]; exact n7, by rw [hN _ (by omega) (by omega)]; exact n8, by rw [hN _ (by omega) (by omega)]; exact n9, fun j q0 q1 => by rw [hN _ (by omega) (by omega)]; exact n10 j q0 q1⟩
/-- the latest act taken back by the program: one cell of the event changes -/
theorem c_back {M : jM} (hI : Inv M) (h0 : M 159 0 ≠ 0) : ∃ (cell i v : Int), (M 1 3 + 1 ≤ cell ∧ cell ≤ M 1 3 + 52) ∧ (cell ≠ M 1 3 + 2 ∧ cell ≠ M 1 3 + 13) ∧ f_X0_takeBack (M 1 3) M = some (1, jst (jst (jst M 159 0 (M 159 0 - 1)) 159 1 ((M 159 1 + 15) % 16)) cell i v) ∧ ∀ N', (∀ j, 0 ≤ j → j < 971 → N' j = snp M (M 159 0 - 1) j) → rE (M 1 3) (jst M cell i v) (M 169) N' := by
  obtain ⟨hC, hT, hN, hP, hR, hQ, hcP⟩ := inv_ctx hI
  have t1 := hT.2.1
  obtain ⟨a1, a2, a3, a4, a5, a6⟩ := hI.2.2.2.2.2.1
  obtain ⟨x1, x2, x3⟩ := a6 (M 159 0 - 1) (by omega) (by omega)
  have he := hC.1
  have hE := hC.2.2.2.2
  have hsl : slo M (M 159 0 - 1) = (M 159 1 + 15) % 16 := by unfold slo; omega
  rw [hsl] at x2 x3
  generalize hnx : (M 159 1 + 15) % 16 = nx at x2 x3
  have hnb : 0 ≤ nx ∧ nx < 16 := by omega
  generalize hsrt : M 160 nx = srt at x2 x3
  generalize hskk : M 161 nx = sk at x2 x3
  generalize hwh : M 162 nx = wh at x2 x3
  generalize hbf : M 163 nx = bf at x2 x3
  obtain ⟨y1, y2, y3, y4, y5, y6, y7, y8, y9⟩ := x2
  have hs1 : ∀ j, snp M (M 159 0 - 1 + 1) j = M 170 j := fun j => by unfold snp; rw [if_pos (by omega)]
  have x3' : ∀ j, 0 ≤ j → j < 971 → snp M (M 159 0 - 1) j = und (M 169) srt sk wh bf (M 170) j := fun j q0 q1 => by
    rw [x3 j q0 q1]
    unfold und
    rw [hs1 j]
  have hsk1 : 0 ≤ sk ∧ sk < 6 := ⟨y3, y4⟩
  have htb : ∀ (cell i v : Int), (∀ (Q : Int × jM → Prop), Q (1, jst (jst (jst M 159 0 (M 159 0 - 1)) 159 1 nx) cell i v) → jT (f_X0_takeBack (M 1 3) M) Q) → f_X0_takeBack (M 1 3) M = some (1, jst (jst (jst M 159 0 (M 159 0 - 1)) 159 1 nx) cell i v) := fun cell i v h => t_get (h (fun r => r = (1, jst (jst (jst M 159 0 (M 159 0 - 1)) 159 1 nx) cell i v)) rfl)
  have body : ∀ (Q : Int × jM → Prop), jT (
    if srt < 0 ∨ 3 < srt then (
      jlet (jst (jst (jst M 159 0 (M 159 0 - 1)) 159 1 nx) ((M 1 3 + 16) + 1 + 6 * sk) 1 bf) fun M10 =>
      some ((1 : Int), M10))
    else if srt = 0 then (
      jck (0 ≤ jw wh ∧ jw wh < 135) <|
      jlet (jst (jst (jst M 159 0 (M 159 0 - 1)) 159 1 nx) (((M 1 3 + 16) + 1 + 6 * sk) + 5) (jw wh) bf) fun M12 =>
      some (1, M12))
    else if srt = 1 then (
      jck (0 ≤ jw wh ∧ jw wh < 12) <|
      jlet (jst (jst (jst M 159 0 (M 159 0 - 1)) 159 1 nx) (((M 1 3 + 16) + 1 + 6 * sk) + 4) (jw wh) bf) fun M14 =>
      some (1, M14))
    else if srt = 2 then (
      jck (0 ≤ jw wh ∧ jw wh < 10) <|
      jlet (jst (jst (jst M 159 0 (M 159 0 - 1)) 159 1 nx) (M 1 3 + 5) (jw wh) bf) fun M16 =>
      some (1, M16))
    else (
      jck (0 ≤ jw wh ∧ jw wh < 7) <|
      jlet (jst (jst (jst M 159 0 (M 159 0 - 1)) 159 1 nx) (M 1 3 + 1) (jw wh) bf) fun M18 =>
      some (1, M18))) Q → jT (f_X0_takeBack (M 1 3) M) Q := fun Q h => by
    unfold f_X0_takeBack
    rw [pw_of (z := M 159 0) (by omega) (by omega)]
    refine t_neg h0 ?_
    refine t_let ?_
    refine t_let ?_
    rw [pst_i (show (1 : Int) ≠ 0 by decide), show M 159 1 + 16 - 1 = M 159 1 + 15 from by omega, pw_of (z := M 159 1 + 15) (by omega) (by omega), pw_of (z := 16) (by omega) (by omega), Int.tmod_eq_emod_of_nonneg (by omega), hnx, pst_s, pw_of (z := nx) (by omega) (by omega)]
    rw [pst_f (show (161 : Int) ≠ 159 by decide), pst_f (show (161 : Int) ≠ 159 by decide), pst_f (show (160 : Int) ≠ 159 by decide), pst_f (show (160 : Int) ≠ 159 by decide), pst_f (show (162 : Int) ≠ 159 by decide), pst_f (show (162 : Int) ≠ 159 by decide), pst_f (show (163 : Int) ≠ 159 by decide), pst_f (show (163 : Int) ≠ 159 by decide), hsrt, hskk, hwh, hbf, pw_of (z := sk) (by omega) (by omega), pw_of (z := srt) (by omega) (by omega)]
    refine t_ck (by omega) ?_
    refine t_ck (by omega) ?_
    refine t_ck (by omega) ?_
    refine t_let ?_
    refine t_ck (by omega) ?_
    refine t_let ?_
    exact t_ck (by omega) h
  by_cases s0 : srt = 0
  · obtain ⟨w1, w2, w3, w4, w5⟩ := y5 s0
    refine ⟨M 1 3 + 16 + 1 + 6 * sk + 5, wh, bf, by omega, by omega, htb _ _ _ (fun Q h => body Q ?_), fun N' hN' => rE_N hT (rE_vote hT hE hsk1 ⟨w1, w2⟩) (fun j q0 q1 => ?_)⟩
    · refine t_neg (by omega) (t_pos s0 ?_)
      rw [pw_of (z := wh) (by omega) (by omega)]
      exact t_ck (by omega) (t_let (t_some h))
    · rw [hN' j q0 q1, x3' j q0 q1]
      unfold und
      rw [if_pos s0]
      rfl
  by_cases s1 : srt = 1
  · obtain ⟨w1, w2, w3, w4⟩ := y6 s1
    refine ⟨M 1 3 + 16 + 1 + 6 * sk + 4, wh, bf, by omega, by omega, htb _ _ _ (fun Q h => body Q ?_), fun N' hN' => rE_N hT (rE_call hT hE hsk1 ⟨w1, w2⟩) (fun j q0 q1 => ?_)⟩
    · refine t_neg (by omega) (t_neg s0 (t_pos s1 ?_))
      rw [pw_of (z := wh) (by omega) (by omega)]
      exact t_ck (by omega) (t_let (t_some h))
    · rw [hN' j q0 q1, x3' j q0 q1]
      unfold und
      rw [if_neg s0, if_pos s1]
      rfl
  by_cases s2 : srt = 2
  · obtain ⟨w1, w2, w3, w4⟩ := y7 s2
    refine ⟨M 1 3 + 5, wh, bf, by omega, by omega, htb _ _ _ (fun Q h => body Q ?_), fun N' hN' => rE_N hT (rE_base hT hE ⟨w1, w2⟩) (fun j q0 q1 => ?_)⟩
    · refine t_neg (by omega) (t_neg s0 (t_neg s1 (t_pos s2 ?_)))
      rw [pw_of (z := wh) (by omega) (by omega)]
      exact t_ck (by omega) (t_let (t_some h))
    · rw [hN' j q0 q1, x3' j q0 q1]
      unfold und
      rw [if_neg s0, if_neg s1, if_pos s2]
      rfl
  by_cases s3 : srt = 3
  · obtain ⟨w1, w2⟩ := y8 s3
    refine ⟨M 1 3 + 1, wh, bf, by omega, by omega, htb _ _ _ (fun Q h => body Q ?_), fun N' hN' => rE_N hT (rE_set hT hE ⟨w1, w2⟩) (fun j q0 q1 => ?_)⟩
    · refine t_neg (by omega) (t_neg s0 (t_neg s1 (t_neg s2 ?_)))
      rw [pw_of (z := wh) (by omega) (by omega)]
      exact t_ck (by omega) (t_let (t_some h))
    · rw [hN' j q0 q1, x3' j q0 q1]
      unfold und
      rw [if_neg s0, if_neg s1, if_neg s2, if_pos s3]
      rfl
  · obtain ⟨w1, w2⟩ := y9 (by omega)
    have ttk := hT.2.2.2.2.2.2.1 sk y3 y4
    refine ⟨M 1 3 + 16 + 1 + 6 * sk, 1, bf, by omega, by omega, htb _ _ _ (fun Q h => body Q (t_pos (by omega) (t_let (t_some h)))), fun N' hN' => rE_N hT (rE_gone (N' := fun j => und (M 169) srt sk wh bf (M 170) j) hT hE hsk1 ⟨w1, w2⟩ (fun k q0 q1 => ?_) (fun i hi => ?_)) (fun j q0 q1 => ?_)⟩
    · show und (M 169) srt sk wh bf (M 170) (882 + (12 * sk + k)) = _
      unfold und
      rw [if_neg s0, if_neg s1, if_neg s2, if_neg s3, if_pos (by omega)]
      congr 1
      omega
    · show und (M 169) srt sk wh bf (M 170) i = _
      unfold und
      rw [if_neg s0, if_neg s1, if_neg s2, if_neg s3, if_neg (by omega)]
    · rw [hN' j q0 q1, x3' j q0 q1]
/-- undo -/
theorem z_21 {M : jM} (hI : Inv M) : jT (s_21 M) Inv := by
  obtain ⟨hC, hT, hN, hP, hR, hQ, hcP⟩ := inv_ctx hI
  have t0 := hT.1
  have t1 := hT.2.1
  have t2 := hT.2.2.1
  have t3 := hT.2.2.2.1
  have he := hC.1
  obtain ⟨a1, a2, a3, a4, a5, a6⟩ := hI.2.2.2.2.2.1
  unfold s_21
  by_cases c0 : M 159 0 = 0
  · refine stW hI (val := -1) ?_ (fun M3 h8 => ?_)
    · unfold f_X9_undo f_X0_takeBack
      rw [eC (kd_e he), pw_of (z := M 159 0) (by omega) (by omega), if_pos c0, eW, if_pos (by decide)]
      exact t_some ⟨rfl, fr8_r M⟩
    · unfold f_X10_undo
      refine t_let ?_
      have h66 : M3 166 = M 166 := h8 166 (by decide) (by decide) (by decide) (by decide)
      refine t_pos ?_ (t_some ⟨rfl, frX_0 M3 0, bP_0 (by rw [h66]; exact hP)⟩)
      rw [pst_i (by decide), h66, a3, c0]
      decide
  · obtain ⟨cell, i, v, q1, q2, q3, q4⟩ := c_back hI c0
    have hx : f_X9_undo M = some (M 159 0 - 1, jst (jst (jst M 159 0 (M 159 0 - 1)) 159 1 ((M 159 1 + 15) % 16)) cell i v) := by
      unfold f_X9_undo
      rw [eC (kd_e he), q3, eW, if_neg (by decide)]
      rw [pst_f (show (159 : Int) ≠ cell by omega), pst_i (show (0 : Int) ≠ 1 by decide), pst_s]
    refine t_We hx ?_
    generalize hM3 : jst (jst (jst M 159 0 (M 159 0 - 1)) 159 1 ((M 159 1 + 15) % 16)) cell i v = M3
    have m3 : ∀ a, a ≠ 159 → a ≠ cell → M3 a = M a := fun a x0 x1 => by rw [← hM3, pst_f x1, pst_f x0, pst_f x0]
    have m30 : M3 159 0 = M 159 0 - 1 := by rw [← hM3, pst_f (by omega), pst_i (by decide), pst_s]
    have m31 : M3 159 1 = (M 159 1 + 15) % 16 := by rw [← hM3, pst_f (by omega), pst_s]
    have m3c : M3 cell = jst M cell i v cell := by
      rw [← hM3]
      funext j
      rw [pst_a, pst_a, pst_f (show cell ≠ 159 by omega), pst_f (show cell ≠ 159 by omega)]
    have h66 : M3 166 = M 166 := m3 166 (by decide) (by omega)
    have h178 : M3 178 = M 178 := m3 178 (by decide) (by omega)
    have h170 : M3 170 = M 170 := m3 170 (by decide) (by omega)
    have h169 : M3 169 = M 169 := m3 169 (by decide) (by omega)
    have hrf : jT (f_X10_undo M3) (fun p => p.1 = M 159 0 - 1 ∧ (∀ a, a ≠ 166 → a ≠ 170 → p.2 a = M3 a) ∧ (∀ j, j ≠ 0 → j ≠ 29 → p.2 166 j = M 166 j) ∧ p.2 166 29 = M 159 0 - 1 ∧ ∀ j, 0 ≤ j → j < 971 → p.2 170 j = M 178 (971 * (M 159 0 - 1) + j)) := by
      unfold f_X10_undo
      refine t_let ?_
      rw [pst_i (show (29 : Int) ≠ 0 by decide), h66, a3, pw_of (z := M 159 0) (by omega) (by omega)]
      refine t_neg c0 ?_
      refine t_let ?_
      refine t_lp2 (fun k M4 => 0 ≤ k ∧ k ≤ 971 ∧ (∀ a, a ≠ 166 → a ≠ 170 → M4 a = M3 a) ∧ (∀ j, j ≠ 0 → j ≠ 29 → M4 166 j = M 166 j) ∧ M4 166 29 = M 159 0 - 1 ∧ ∀ j, 0 ≤ j → j < k → M4 170 j = M 178 (971 * (M 159 0 - 1) + j)) (fun k _ => (971 - k).toNat) ?_ jfuel 0 _ (by rw [jfuel_eq]; omega) ⟨by omega, by omega, fun a x0 x1 => by rw [pst_f x0, pst_f x0], fun j x0 x1 => by rw [pst_i x1, pst_i x0, h66], pst_s _ _ _ _, fun j x0 x1 => by omega⟩
      rintro self k M4 ⟨hk1, hk2, f1, f2, f3, f4⟩ hself
      rw [pw_of (z := 971) (by omega) (by omega), pw_of (z := k) (by omega) (by omega), f3]
      refine t_if (fun c => ?_) (fun c => ?_)
      · have ek : k = 971 := by omega
        subst ek
        exact t_some ⟨rfl, f1, f2, f3, f4⟩
      · rw [pw_of (z := 971 * (M 159 0 - 1) + k) (by omega) (by omega)]
        refine t_ck (by omega) ?_
        refine t_ck (by omega) ?_
        refine t_let ?_
        refine t_let ?_
        refine hself _ _ ⟨by omega, by omega, fun a x0 x1 => by rw [pst_f x1]; exact f1 a x0 x1, fun j x0 x1 => by rw [pst_f (by decide)]; exact f2 j x0 x1, by rw [pst_f (by decide)]; exact f3, fun j x0 x1 => ?_⟩ (by omega)
        by_cases cj : j = k
        · subst cj
          rw [pst_s, f1 178 (by decide) (by decide), h178]
        · rw [pst_i cj]; exact f4 j x0 (by omega)
    refine t_W (t_mono hrf (fun p hp => ?_))
    obtain ⟨p1, p2, p3, p4, p5⟩ := hp
    rw [p1]
    refine t_ck rfl (t_some ?_)
    -- the invariant
    have hsn : ∀ j, 0 ≤ j → j < 971 → p.2 170 j = snp M (M 159 0 - 1) j := fun j x0 x1 => by
      rw [p5 j x0 x1]
      unfold snp
      rw [if_neg (by omega)]
    have pm : ∀ a, a ≠ 159 → a ≠ cell → a ≠ 166 → a ≠ 170 → p.2 a = M a := fun a x0 x1 x2 x3 => by rw [p2 a x2 x3]; exact m3 a x0 x1
    obtain ⟨hTT, hF, hE, hM, hW, hA, -⟩ := hI
    obtain ⟨⟨e1, e2, e3, e4, e5⟩, e6⟩ := hE
    have c1 : p.2 1 = M 1 := pm 1 (by decide) (by omega) (by decide) (by decide)
    have c159 : p.2 159 = M3 159 := p2 159 (by decide) (by decide)
    refine ⟨?_, ?_, ?_, ?_, ?_, ?_, ?_⟩
    · unfold iT at hTT ⊢
      rw [c1, pm 2 (by decide) (by omega) (by decide) (by decide), pm 167 (by decide) (by omega) (by decide) (by decide), p3 2 (by decide) (by decide)]
      exact hTT
    · unfold iF at hF ⊢
      rw [c1, p3 8 (by decide) (by decide)]
      exact hF
    · unfold iE
      rw [c1, pm 169 (by decide) (by omega) (by decide) (by decide)]
      refine ⟨⟨e1, e2, bN_N (a6 (M 159 0 - 1) (by omega) (by omega)).1 hsn, e4, rE_fr e2.2.1.2 (q4 (p.2 170) hsn) (fun a x0 x1 x2 => ?_)⟩, e6⟩
      by_cases ca : a = cell
      · subst ca
        rw [p2 a (by omega) (by omega)]
        exact m3c
      · rw [pst_f ca]
        exact pm a (by omega) ca (by omega) (by omega)
    · unfold iM at hM ⊢
      rcases e6 with ⟨q, -⟩ | ⟨q, -⟩
      · rw [q] at q1 q2
        rw [pm 5 (by decide) (by omega) (by decide) (by decide), pm 16 (by decide) (by omega) (by decide) (by decide), pm 58 (by decide) (by omega) (by decide) (by decide), pm 69 (by decide) (by omega) (by decide) (by decide)]
        exact hM
      · rw [q] at q1 q2
        rw [pm 5 (by decide) (by omega) (by decide) (by decide), pm 16 (by decide) (by omega) (by decide) (by decide), pm 58 (by decide) (by omega) (by decide) (by decide), pm 69 (by decide) (by omega) (by decide) (by decide)]
        exact hM
    · unfold iW at hW ⊢
      rw [pm 164 (by decide) (by omega) (by decide) (by decide), pm 165 (by decide) (by omega) (by decide) (by decide), pm 179 (by decide) (by omega) (by decide) (by decide), p3 31 (by decide) (by decide)]
      exact hW
    · have k0 : p.2 159 0 = M 159 0 - 1 := by rw [c159]; exact m30
      have k1 : p.2 159 1 = (M 159 1 + 15) % 16 := by rw [c159]; exact m31
      refine ⟨by omega, by omega, by rw [p4, k0], by rw [k1]; omega, by rw [k1]; omega, fun x x0 x1 => ?_⟩
      have hsl : slo p.2 x = slo M x := by
        unfold slo
        rw [k0, k1]
        omega
      have hsnp : ∀ y, y ≤ M 159 0 - 1 → ∀ j, 0 ≤ j → j < 971 → snp p.2 y j = snp M y j := fun y hy j z0 z1 => by
        by_cases cy : y = M 159 0 - 1
        · subst cy
          rw [← hsn j z0 z1]
          unfold snp
          rw [if_pos k0.symm]
        · unfold snp
          rw [if_neg (by omega), if_neg (by omega), pm 178 (by decide) (by omega) (by decide) (by decide)]
      obtain ⟨z1, z2, z3⟩ := a6 x x0 (by omega)
      rw [hsl, pm 160 (by decide) (by omega) (by decide) (by decide), pm 161 (by decide) (by omega) (by decide) (by decide), pm 162 (by decide) (by omega) (by decide) (by decide), pm 163 (by decide) (by omega) (by decide) (by decide), pm 169 (by decide) (by omega) (by decide) (by decide)]
      refine ⟨bN_N z1 (hsnp x (by omega)), z2, fun j w0 w1 => ?_⟩
      rw [hsnp x (by omega) j w0 w1, z3 j w0 w1]
      unfold und
      rw [hsnp (x + 1) (by omega) j w0 w1]
    · unfold bP at hP ⊢
      rw [p3 15 (by decide) (by decide), p3 16 (by decide) (by decide), p3 17 (by decide) (by decide), p3 18 (by decide) (by decide), p3 19 (by decide) (by decide), p3 20 (by decide) (by decide), p3 21 (by decide) (by decide), p3 22 (by decide) (by decide)]
      exact hP
