/-! ===== acts: the ring and the pile of rows ===== -/
def kp (M M' : jM) (srt sk wh bf : Int) : Prop := M' 159 0 = min (M 159 0 + 1) 16 ∧ M' 159 1 = (M 159 1 + 1) % 16 ∧ (M' 160 (M 159 1) = srt ∧ ∀ i, i ≠ M 159 1 → M' 160 i = M 160 i) ∧ (M' 161 (M 159 1) = sk ∧ ∀ i, i ≠ M 159 1 → M' 161 i = M 161 i) ∧ (M' 162 (M 159 1) = wh ∧ ∀ i, i ≠ M 159 1 → M' 162 i = M 162 i) ∧ (M' 163 (M 159 1) = bf ∧ ∀ i, i ≠ M 159 1 → M' 163 i = M 163 i)
theorem c_keep {M : jM} {srt sk wh bf : Int} (hA : iA M) : jT (f_X0_keep srt sk wh bf M) (fun M' => (∀ a, a < 159 ∨ 163 < a → M' a = M a) ∧ kp M M' srt sk wh bf) := by
  obtain ⟨a1, a2, a3, a4, a5, -⟩ := hA
  unfold f_X0_keep
  have w1 : jw (M 159 1) = M 159 1 := pw_of (by omega) (by omega)
  rw [w1]
  refine t_ck (by omega) ?_
  refine t_let ?_
  rw [pst_f (show (159 : Int) ≠ 160 by decide), w1]
  refine t_ck (by omega) ?_
  refine t_let ?_
  rw [pst_f (show (159 : Int) ≠ 161 by decide), pst_f (show (159 : Int) ≠ 160 by decide), w1]
  refine t_ck (by omega) ?_
  refine t_let ?_
  rw [pst_f (show (159 : Int) ≠ 162 by decide), pst_f (show (159 : Int) ≠ 161 by decide), pst_f (show (159 : Int) ≠ 160 by decide), w1]
  refine t_ck (by omega) ?_
  refine t_let ?_
  rw [pst_f (show (159 : Int) ≠ 163 by decide), pst_f (show (159 : Int) ≠ 162 by decide), pst_f (show (159 : Int) ≠ 161 by decide), pst_f (show (159 : Int) ≠ 160 by decide), pw_of (z := M 159 1 + 1) (by omega) (by omega), pw_of (z := 16) (by omega) (by omega), Int.tmod_eq_emod_of_nonneg (by omega)]
  refine t_let ?_
  rw [pst_i (show (0 : Int) ≠ 1 by decide), pst_f (show (159 : Int) ≠ 163 by decide), pst_f (show (159 : Int) ≠ 162 by decide), pst_f (show (159 : Int) ≠ 161 by decide), pst_f (show (159 : Int) ≠ 160 by decide)]
  refine t_Re (e_min (by omega) (by omega)) ?_
  refine t_let ?_
  refine t_some ⟨fun a ha => ?_, ?_, ?_, ⟨?_, fun i hi => ?_⟩, ⟨?_, fun i hi => ?_⟩, ⟨?_, fun i hi => ?_⟩, ⟨?_, fun i hi => ?_⟩⟩
  · rw [pst_f (by omega), pst_f (by omega), pst_f (by omega), pst_f (by omega), pst_f (by omega), pst_f (by omega)]
  · rw [pst_s]
  · rw [pst_i (by decide), pst_s]
  · rw [pst_c (by decide), pst_c (by decide), pst_c (by decide), pst_c (by decide), pst_c (by decide), pst_s]
  · rw [pst_c (by decide), pst_c (by decide), pst_c (by decide), pst_c (by decide), pst_c (by decide), pst_i hi]
  · rw [pst_c (by decide), pst_c (by decide), pst_c (by decide), pst_c (by decide), pst_s]
  · rw [pst_c (by decide), pst_c (by decide), pst_c (by decide), pst_c (by decide), pst_i hi, pst_c (by decide)]
  · rw [pst_c (by decide), pst_c (by decide), pst_c (by decide), pst_s]
  · rw [pst_c (by decide), pst_c (by decide), pst_c (by decide), pst_i hi, pst_c (by decide), pst_c (by decide)]
  · rw [pst_c (by decide), pst_c (by decide), pst_s]
  · rw [pst_c (by decide), pst_c (by decide), pst_i hi, pst_c (by decide), pst_c (by decide), pst_c (by decide)]
/-- the pile after one more row: d of its rows went -/
def ks (M M' : jM) : Prop := ∃ d, (d = if M 166 29 = 16 then 1 else 0) ∧ M' 166 29 = M 166 29 - d + 1 ∧ (∀ i j, 0 ≤ i → i < M 166 29 - d → 0 ≤ j → j < 971 → M' 178 (971 * i + j) = M 178 (971 * (i + d) + j)) ∧ ∀ j, 0 ≤ j → j < 971 → M' 178 (971 * (M 166 29 - d) + j) = M 170 j
set_option maxHeartbeats 1000000 in
theorem e_keeps {M : jM} (hb : 0 ≤ M 166 29 ∧ M 166 29 ≤ 16) : jT (f_X10_keeps M) (fun M' => (∀ a, a ≠ 166 → a ≠ 178 → M' a = M a) ∧ (∀ j, j ≠ 29 → M' 166 j = M 166 j) ∧ ks M M') := by
  unfold f_X10_keeps
  refine t_kP (fun kk => ∀ (M1 : jM) (d : Int), (d = if M 166 29 = 16 then 1 else 0) → (∀ a, a ≠ 166 → a ≠ 178 → M1 a = M a) → (∀ j, j ≠ 29 → M1 166 j = M 166 j) → M1 166 29 = M 166 29 - d → (∀ i j, 0 ≤ i → i < M 166 29 - d → 0 ≤ j → j < 971 → M1 178 (971 * i + j) = M 178 (971 * (i + d) + j)) → jT (kk M1) (fun M' => (∀ a, a ≠ 166 → a ≠ 178 → M' a = M a) ∧ (∀ j, j ≠ 29 → M' 166 j = M 166 j) ∧ ks M M')) ?_ ?_
  · intro M1 d hd h1 h2 h3 h4
    have hdb : 0 ≤ d ∧ d ≤ 1 ∧ M 166 29 - d ≤ 15 := by rw [hd]; split <;> omega
    have hd0 : 0 ≤ M 166 29 - d := by rw [hd]; split <;> omega
    refine t_lp2 (fun k M4 => 0 ≤ k ∧ k ≤ 971 ∧ (∀ a, a ≠ 178 → M4 a = M1 a) ∧ (∀ i j, 0 ≤ i → i < M 166 29 - d → 0 ≤ j → j < 971 → M4 178 (971 * i + j) = M 178 (971 * (i + d) + j)) ∧ ∀ j, 0 ≤ j → j < k → M4 178 (971 * (M 166 29 - d) + j) = M 170 j) (fun k _ => (971 - k).toNat) ?_ jfuel 0 M1 (by rw [jfuel_eq]; omega) ⟨by omega, by omega, fun _ _ => rfl, h4, fun j q0 q1 => by omega⟩
    rintro self k M4 ⟨hk1, hk2, hfr, hold, hnew⟩ hself
    have e6 : M4 166 29 = M 166 29 - d := by rw [hfr 166 (by decide)]; exact h3
    rw [pw_of (z := 971) (by omega) (by omega), pw_of (z := k) (by omega) (by omega), e6]
    refine t_if (fun c => ?_) (fun c => ?_)
    · refine t_let ?_
      have ek : k = 971 := by omega
      subst ek
      refine t_some ⟨fun a q0 q1 => by rw [pst_f q0, hfr a q1]; exact h1 a q0 q1, fun j hj => by rw [pst_i hj, hfr 166 (by decide)]; exact h2 j hj, d, hd, by rw [pst_s], fun i j q0 q1 q2 q3 => by rw [pst_c (by decide)]; exact hold i j q0 q1 q2 q3, fun j q0 q1 => by rw [pst_c (by decide)]; exact hnew j q0 q1⟩
    · refine t_ck (by omega) ?_
      rw [pw_of (z := 971 * (M 166 29 - d) + k) (by omega) (by omega)]
      refine t_ck (by omega) ?_
      refine t_let ?_
      refine t_let ?_
      refine hself _ _ ⟨by omega, by omega, fun a ha => by rw [pst_f ha]; exact hfr a ha, fun i j q0 q1 q2 q3 => by rw [pst_i (by omega)]; exact hold i j q0 q1 q2 q3, fun j q0 q1 => ?_⟩ (by omega)
      by_cases cj : j = k
      · subst cj
        rw [pst_s, hfr 170 (by decide)]
        rw [h1 170 (by decide) (by decide)]
      · rw [pst_i (by omega)]; exact hnew j q0 (by omega)
  · intro kk hkk
    rw [pw_of (z := M 166 29) (by omega) (by omega), pw_of (z := 16) (by omega) (by omega)]
    refine t_if (fun c => ?_) (fun c => ?_)
    · refine t_lp2 (fun k M4 => 971 ≤ k ∧ k ≤ 15536 ∧ (∀ a, a ≠ 178 → M4 a = M a) ∧ (∀ i, 0 ≤ i → i < k - 971 → M4 178 i = M 178 (i + 971)) ∧ ∀ i, k - 971 ≤ i → M4 178 i = M 178 i) (fun k _ => (15536 - k).toNat) ?_ jfuel 971 M (by rw [jfuel_eq]; omega) ⟨by omega, by omega, fun _ _ => rfl, fun i q0 q1 => by omega, fun i _ => rfl⟩
      rintro self k M4 ⟨hk1, hk2, hfr, hdone, htodo⟩ hself
      rw [pw_of (z := 15536) (by omega) (by omega), pw_of (z := k) (by omega) (by omega)]
      refine t_if (fun c2 => ?_) (fun c2 => ?_)
      · refine t_let ?_
        have e6 : M4 166 29 = M 166 29 := by rw [hfr 166 (by decide)]
        refine hkk _ 1 (by rw [if_pos c]) (fun a q0 q1 => by rw [pst_f q0]; exact hfr a q1) (fun j hj => by rw [pst_i hj, hfr 166 (by decide)]) (by rw [pst_s, e6]) (fun i j q0 q1 q2 q3 => ?_)
        rw [pst_c (by decide), hdone _ (by omega) (by omega)]
        congr 1
        omega
      · refine t_ck (by omega) ?_
        rw [pw_of (z := k - 971) (by omega) (by omega)]
        refine t_ck (by omega) ?_
        refine t_let ?_
        refine t_let ?_
        refine hself _ _ ⟨by omega, by omega, fun a ha => by rw [pst_f ha]; exact hfr a ha, fun i q0 q1 => ?_, fun i q0 => by rw [pst_i (by omega)]; exact htodo i (by omega)⟩ (by omega)
        by_cases ci : i = k - 971
        · subst ci
          rw [pst_s, htodo k (by omega)]
          congr 1
          omega
        · rw [pst_i ci]; exact hdone i q0 (by omega)
    · exact hkk M 0 (by rw [if_neg c]) (fun _ _ _ => rfl) (fun _ _ => rfl) (by omega) (fun i j _ _ _ _ => by rw [Int.add_zero])
theorem e_tells {M : jM} {i v : Int} (hb : 0 ≤ M 166 29 ∧ M 166 29 ≤ 16) (hi : 0 ≤ i ∧ i < 971) : jT (f_X10_tells i v M) (fun p => p.1 = M 170 i ∧ (∀ a, a ≠ 166 → a ≠ 170 → a ≠ 178 → p.2 a = M a) ∧ (∀ j, j ≠ 29 → p.2 166 j = M 166 j) ∧ ks M p.2 ∧ p.2 170 = pS (M 170) i v) := by
  unfold f_X10_tells
  refine t_V (t_mono (e_keeps hb) (fun M2 h2 => ?_))
  obtain ⟨h1, h3, d, hd, h4, h5, h6⟩ := h2
  have e0 : M2 170 = M 170 := h1 170 (by decide) (by decide)
  rw [pw_of (z := i) (by omega) (by omega)]
  refine t_ck (by omega) ?_
  refine t_let ?_
  refine t_ck (by omega) ?_
  refine t_let ?_
  refine t_some ⟨by show M2 170 i = _; rw [e0], fun a q0 q1 q2 => ?_, fun j hj => ?_, ⟨d, hd, ?_, fun x j q0 q1 q2 q3 => ?_, fun j q0 q1 => ?_⟩, ?_⟩
  · show jst M2 170 i v a = _
    rw [pst_f q1]; exact h1 a q0 q2
  · show jst M2 170 i v 166 j = _
    rw [pst_f (by decide)]; exact h3 j hj
  · show jst M2 170 i v 166 29 = _
    rw [pst_f (by decide)]; exact h4
  · show jst M2 170 i v 178 _ = _
    rw [pst_f (by decide)]; exact h5 x j q0 q1 q2 q3
  · show jst M2 170 i v 178 _ = _
    rw [pst_f (by decide)]; exact h6 j q0 q1
  · show jst M2 170 i v 170 = _
    funext j
    rw [pst_a, e0]
    rfl
/-- one act more -/
theorem iA_push {M M6 : jM} (hA : iA M) (hN : bN (M 170)) {srt sk wh bf : Int} (hk : kp M M6 srt sk wh bf) (hs : ks M M6) (h169 : M6 169 = M 169) (hok : aok (M 169) srt sk wh bf) (hund : ∀ j, 0 ≤ j → j < 971 → M 170 j = und (M 169) srt sk wh bf (M6 170) j) : iA M6 := by
  obtain ⟨a1, a2, a3, a4, a5, a6⟩ := hA
  obtain ⟨k1, k2, k3, k4, k5, k6⟩ := hk
  obtain ⟨d, hd, s1, s2, s3⟩ := hs
  rw [a3] at hd s1 s2 s3
  have hdb : 0 ≤ d ∧ d ≤ 1 ∧ 0 ≤ M 159 0 - d ∧ M 159 0 - d ≤ 15 := by rw [hd]; split <;> omega
  have hsz : M6 159 0 = M 159 0 - d + 1 := by rw [k1, hd]; split <;> omega
  have hnx : 0 ≤ (M 159 1 + 1) % 16 ∧ (M 159 1 + 1) % 16 < 16 := by omega
  have undC : ∀ (s0 s1 s2 s3 : Int) (f g : Int → Int) (j : Int), f j = g j → und (M 169) s0 s1 s2 s3 f j = und (M 169) s0 s1 s2 s3 g j := fun s0 s1 s2 s3 f g j h => by
    unfold und
    rw [h]
  refine ⟨by omega, by omega, by omega, by rw [k2]; omega, by rw [k2]; omega, fun i i0 i1 => ?_⟩
  have hslo : slo M6 i = (M 159 1 + 16 - (M 159 0 - d - i)) % 16 := by
    unfold slo
    rw [k2, hsz]
    omega
  have hsn : ∀ x : Int, 0 ≤ x → x ≤ M 159 0 - d → ∀ j, 0 ≤ j → j < 971 → snp M6 x j = snp M (x + d) j := fun x x0 x1 j q0 q1 => by
    unfold snp
    rw [if_neg (by omega)]
    by_cases cx : x = M 159 0 - d
    · subst cx
      rw [if_pos (by omega)]
      exact s3 j q0 q1
    · rw [if_neg (by omega)]
      exact s2 x j x0 (by omega) q0 q1
  by_cases ci : i = M 159 0 - d
  · subst ci
    have hsl : slo M6 (M 159 0 - d) = M 159 1 := by rw [hslo]; omega
    rw [hsl, k3.1, k4.1, k5.1, k6.1, h169]
    have hsnp : ∀ j, 0 ≤ j → j < 971 → snp M6 (M 159 0 - d) j = M 170 j := fun j q0 q1 => by
      rw [hsn _ (by omega) (by omega) j q0 q1]
      unfold snp
      rw [if_pos (by omega)]
    refine ⟨?_, hok, fun j q0 q1 => ?_⟩
    · obtain ⟨n1, n2, n3, n4, n5, n6, n7, n8, n9, n10⟩ := hN
      exact ⟨fun j q0 q1 => by rw [hsnp _ (by omega) (by omega)]; exact n1 j q0 q1, fun j q0 q1 => by rw [hsnp _ (by omega) (by omega)]; exact n2 j q0 q1, fun j q0 q1 => by rw [hsnp _ (by omega) (by omega)]; exact n3 j q0 q1, fun j q0 q1 => by rw [hsnp _ (by omega) (by omega)]; exact n4 j q0 q1, fun j q0 q1 => by rw [hsnp _ (by omega) (by omega)]; exact n5 j q0 q1, by rw [hsnp _ (by omega) (by omega)]; exact n6, by rw [hsnp _ (by omega) (by omega)]; exact n7, by rw [hsnp _ (by omega) (by omega)]; exact n8, by rw [hsnp _ (by omega) (by omega)]; exact n9, fun j q0 q1 => by rw [hsnp _ (by omega) (by omega)]; exact n10 j q0 q1⟩
    · rw [hsnp j q0 q1, hund j q0 q1]
      refine undC _ _ _ _ _ _ _ ?_
      unfold snp
      rw [if_pos (by omega)]
  · have hsl : slo M6 i = slo M (i + d) := by
      rw [hslo]
      unfold slo
      congr 1
      omega
    have hne : slo M6 i ≠ M 159 1 := by rw [hslo]; omega
    obtain ⟨x1, x2, x3⟩ := a6 (i + d) (by omega) (by omega)
    rw [← hsl] at x2 x3
    rw [k3.2 _ hne, k4.2 _ hne, k5.2 _ hne, k6.2 _ hne, h169]
    refine ⟨?_, x2, fun j q0 q1 => ?_⟩
    · obtain ⟨n1, n2, n3, n4, n5, n6, n7, n8, n9, n10⟩ := x1
      have hsnp := hsn i i0 (by omega)
      exact ⟨fun j q0 q1 => by rw [hsnp _ (by omega) (by omega)]; exact n1 j q0 q1, fun j q0 q1 => by rw [hsnp _ (by omega) (by omega)]; exact n2 j q0 q1, fun j q0 q1 => by rw [hsnp _ (by omega) (by omega)]; exact n3 j q0 q1, fun j q0 q1 => by rw [hsnp _ (by omega) (by omega)]; exact n4 j q0 q1, fun j q0 q1 => by rw [hsnp _ (by omega) (by omega)]; exact n5 j q0 q1, by rw [hsnp _ (by omega) (by omega)]; exact n6, by rw [hsnp _ (by omega) (by omega)]; exact n7, by rw [hsnp _ (by omega) (by omega)]; exact n8, by rw [hsnp _ (by omega) (by omega)]; exact n9, fun j q0 q1 => by rw [hsnp _ (by omega) (by omega)]; exact n10 j q0 q1⟩
    · rw [hsn i i0 (by omega) j q0 q1, x3 j q0 q1]
      refine undC _ _ _ _ _ _ _ ?_
      rw [hsn (i + 1) (by omega) (by omega) j q0 q1, show i + 1 + d = i + d + 1 from by omega]
/-- all that stands after an act -/
theorem Inv_act {M M6 : jM} (hI : Inv M) {cell i v srt sk wh bf : Int} {N' : Int → Int} (hcell : M 1 3 + 1 ≤ cell ∧ cell ≤ M 1 3 + 52) (hc0 : cell ≠ M 1 3 + 2 ∧ cell ≠ M 1 3 + 13)
    (h1 : ∀ a, a < 159 ∨ 163 < a → a ≠ cell → a ≠ 166 → a ≠ 170 → a ≠ 178 → a ≠ 180 → (a < 173 ∨ 177 < a) → M6 a = M a) (h6 : ∀ j, j ≠ 0 → j ≠ 29 → (j < 15 ∨ 22 < j) → M6 166 j = M 166 j) (hP : bP (M6 166)) (hk : kp M M6 srt sk wh bf) (hs : ks M M6) (h170 : M6 170 = N') (hN' : bN N') (hcl : M6 cell = jst M cell i v cell) (hE' : rE (M 1 3) (jst M cell i v) (M 169) N') (hok : aok (M 169) srt sk wh bf) (hund : ∀ j, 0 ≤ j → j < 971 → M 170 j = und (M 169) srt sk wh bf N' j) : Inv M6 := by
  obtain ⟨hT, hF, hE, hM, hW, hA, -⟩ := hI
  obtain ⟨⟨e1, e2, e3, e4, e5⟩, e6⟩ := hE
  have c1 : M6 1 = M 1 := h1 1 (by omega) (by omega) (by decide) (by decide) (by decide) (by decide) (by decide)
  have c2 : M6 2 = M 2 := h1 2 (by omega) (by omega) (by decide) (by decide) (by decide) (by decide) (by decide)
  have c164 : M6 164 = M 164 := h1 164 (by omega) (by omega) (by decide) (by decide) (by decide) (by decide) (by decide)
  have c165 : M6 165 = M 165 := h1 165 (by omega) (by omega) (by decide) (by decide) (by decide) (by decide) (by decide)
  have c167 : M6 167 = M 167 := h1 167 (by omega) (by omega) (by decide) (by decide) (by decide) (by decide) (by decide)
  have c169 : M6 169 = M 169 := h1 169 (by omega) (by omega) (by decide) (by decide) (by decide) (by decide) (by decide)
  have c179 : M6 179 = M 179 := h1 179 (by omega) (by omega) (by decide) (by decide) (by decide) (by decide) (by decide)
  have hA6 : iA M6 := iA_push hA e3 hk hs c169 hok (by rw [h170]; exact hund)
  refine ⟨?_, ?_, ?_, ?_, ?_, hA6, hP⟩
  · unfold iT at hT ⊢
    rw [c1, c2, c167, h6 2 (by decide) (by decide) (by decide)]
    exact hT
  · unfold iF at hF ⊢
    rw [c1, h6 8 (by decide) (by decide) (by decide)]
    exact hF
  · unfold iE
    rw [c1, c169, h170]
    refine ⟨⟨e1, e2, hN', e4, rE_fr e2.2.1.2 hE' (fun a q0 q1 q2 => ?_)⟩, e6⟩
    by_cases ca : a = cell
    · subst ca; exact hcl
    · rw [pst_f ca]
      exact h1 a (by omega) ca (by omega) (by omega) (by omega) (by omega) (by omega)
  · unfold iM at hM ⊢
    rcases e6 with ⟨q, -⟩ | ⟨q, -⟩
    · rw [q] at hcell hc0
      rw [h1 5 (by omega) (by omega) (by decide) (by decide) (by decide) (by decide) (by decide), h1 16 (by omega) (by omega) (by decide) (by decide) (by decide) (by decide) (by decide), h1 58 (by omega) (by omega) (by decide) (by decide) (by decide) (by decide) (by decide), h1 69 (by omega) (by omega) (by decide) (by decide) (by decide) (by decide) (by decide)]
      exact hM
    · rw [q] at hcell hc0
      rw [h1 5 (by omega) (by omega) (by decide) (by decide) (by decide) (by decide) (by decide), h1 16 (by omega) (by omega) (by decide) (by decide) (by decide) (by decide) (by decide), h1 58 (by omega) (by omega) (by decide) (by decide) (by decide) (by decide) (by decide), h1 69 (by omega) (by omega) (by decide) (by decide) (by decide) (by decide) (by decide)]
      exact hM
  · unfold iW at hW ⊢
    rw [c164, c165, c179, h6 31 (by decide) (by decide) (by decide)]
    exact hW
