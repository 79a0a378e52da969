/-! ===== reading: the reference's small steps ===== -/
theorem b8_o {x : Int} (h : 0 ≤ x ∧ x ≤ 255) : jb8 x = if x ≤ 127 then x else x - 256 := by
  unfold jb8 Int.bmod
  dsimp only
  split <;> split <;> omega
theorem rn_idem {c : Int → Bool} {tx : Int → Int} {n p : Int} (h : p ≤ n) : rn c tx n (rn c tx n p) = rn c tx n p := by
  obtain ⟨h1, h2, h3, h4⟩ := rn_b (c := c) (tx := tx) h
  by_cases q : rn c tx n p < n
  · exact rn_no (h4 q)
  · exact rn_end (by omega)
/-- the reference has the text, and its point p -/
def rTx (tx : Int → Int) (n : Int) (M : jM) : Prop := M 166 6 = n ∧ ∀ i, 0 ≤ i → i < n → M 167 i = jb8 (tx i)
def fr6 (M M' : jM) : Prop := (∀ a, a ≠ 166 → M' a = M a) ∧ ∀ j, j ≠ 4 → j ≠ 5 → M' 166 j = M 166 j
theorem fr6_r (M : jM) : fr6 M M := ⟨fun _ _ => rfl, fun _ _ _ => rfl⟩
theorem fr6_t {M M1 M2 : jM} (h1 : fr6 M M1) (h2 : fr6 M1 M2) : fr6 M M2 := ⟨fun a q => by rw [h2.1 a q, h1.1 a q], fun j q0 q1 => by rw [h2.2 j q0 q1, h1.2 j q0 q1]⟩
theorem fr6_4 (M : jM) (v : Int) : fr6 M (jst M 166 4 v) := ⟨fun a q => pst_f q, fun j q0 _ => pst_i q0⟩
theorem fr6_5 (M : jM) (v : Int) : fr6 M (jst M 166 5 v) := ⟨fun a q => pst_f q, fun j _ q1 => pst_i q1⟩
theorem rTx_fr {tx : Int → Int} {n : Int} {M M' : jM} (h : rTx tx n M) (hf : fr6 M M') : rTx tx n M' := by
  unfold rTx
  rw [hf.2 6 (by decide) (by decide), hf.1 167 (by decide)]
  exact h
theorem e_isAt {tx : Int → Int} {n : Int} {M : jM} (hO : okT tx n) (hx : rTx tx n M) {p lo hi : Int} (hp : M 166 4 = p) (hpb : 0 ≤ p ∧ p ≤ n) (hl : 0 ≤ lo ∧ lo ≤ 127) (hh : 0 ≤ hi ∧ hi ≤ 127) : f_X10_isAt lo hi M = some (b2 (p < n ∧ lo ≤ tx p ∧ tx p ≤ hi)) := by
  obtain ⟨n0, n6, ho⟩ := hO
  unfold f_X10_isAt
  rw [hp, hx.1, pw_of (z := n) (by omega) (by omega), pw_of (z := p) (by omega) (by omega)]
  by_cases c : n ≤ p
  · rw [if_pos c, b2_f (by omega)]
  · have hv := ho p hpb.1 (by omega)
    have h8 := b8_o hv
    have hb : -128 ≤ jb8 (tx p) ∧ jb8 (tx p) ≤ 127 := by rw [h8]; split <;> omega
    rw [if_neg c, eC (by omega), hx.2 p hpb.1 (by omega), pw_of (z := jb8 (tx p)) (by omega) (by omega), pw_of (z := lo) (by omega) (by omega), pw_of (z := hi) (by omega) (by omega)]
    by_cases c1 : jb8 (tx p) < lo
    · rw [if_pos c1, b2_f]
      intro q
      rw [h8] at c1
      split at c1 <;> omega
    · rw [if_neg c1, eC (by omega)]
      by_cases c2 : hi < jb8 (tx p)
      · rw [if_pos c2, b2_f]
        intro q
        rw [h8] at c2
        split at c2 <;> omega
      · rw [if_neg c2, b2_t]
        rw [h8] at c1 c2
        split at c1 <;> omega
theorem e_blanks {tx : Int → Int} {n : Int} {M : jM} (hO : okT tx n) (hx : rTx tx n M) {p : Int} (hp : M 166 4 = p) (hpb : 0 ≤ p ∧ p ≤ n) : jT (f_X10_blanks M) (fun M' => M' 166 4 = bl tx n p ∧ M' 166 5 = bl tx n p ∧ fr6 M M') := by
  unfold f_X10_blanks
  refine t_lp1 (fun M1 => ∃ i, M1 166 4 = i ∧ 0 ≤ i ∧ i ≤ n ∧ bl tx n i = bl tx n p ∧ fr6 M M1) (fun M1 => (n - M1 166 4).toNat) ?_ jfuel M (by have := hO.2.1; rw [jfuel_eq, hp]; omega) ⟨p, hp, hpb.1, hpb.2, rfl, fr6_r M⟩
  rintro self M1 ⟨i, h4, hi1, hi2, hb, hf⟩ hself
  have hx1 := rTx_fr hx hf
  refine t_Re (e_isAt hO hx1 h4 ⟨hi1, hi2⟩ (by decide) (by decide)) ?_
  have next : i < n → isBl (tx i) → jT (jlet (jst M1 166 4 (M1 166 4 + 1)) fun M6 => self M6) (fun M' => M' 166 4 = bl tx n p ∧ M' 166 5 = bl tx n p ∧ fr6 M M') := fun q0 q => by
    refine t_let ?_
    rw [h4]
    exact hself _ ⟨i + 1, pst_s _ _ _ _, by omega, by omega, by rw [← hb]; exact (rn_yes q0 q).symm, fr6_t hf (fr6_4 _ _)⟩ (by rw [pst_s, h4]; omega)
  refine t_k ?_
  by_cases c1 : i < n ∧ 9 ≤ tx i ∧ tx i ≤ 10
  · rw [b2_t c1]
    refine t_neg (by decide) ?_
    exact next c1.1 (by rw [isBl_i]; omega)
  · rw [b2_f c1]
    refine t_pos (by decide) ?_
    refine t_Re (e_isAt hO hx1 h4 ⟨hi1, hi2⟩ (by decide) (by decide)) ?_
    by_cases c2 : i < n ∧ 32 ≤ tx i ∧ tx i ≤ 32
    · rw [b2_t c2]
      refine t_neg (by decide) ?_
      exact next c2.1 (by rw [isBl_i]; omega)
    · rw [b2_f c2]
      refine t_pos (by decide) ?_
      refine t_let (t_some ?_)
      have hbi : bl tx n p = i := by
        rw [← hb]
        by_cases c : n ≤ i
        · exact rn_end c
        · exact rn_no (fun q => by rw [isBl_i] at q; omega)
      exact ⟨by rw [pst_i (by decide), hbi]; exact h4, by rw [pst_s, hbi]; exact h4, fr6_t hf (fr6_5 _ _)⟩
theorem e_failed {M : jM} (h : -1 ≤ M 166 7 ∧ M 166 7 ≤ 600) : f_X10_hasFailed M = some (if M 166 7 = -1 then 0 else 1) := by
  unfold f_X10_hasFailed
  rw [pw_of (z := M 166 7) (by omega) (by omega), pw_of (z := -1) (by omega) (by omega)]
  split <;> rfl
/-- at p the reference may go on: the point comes to p over blanks -/
def rAt (tx : Int → Int) (n p : Int) (M : jM) : Prop := 0 ≤ M 166 4 ∧ M 166 4 ≤ n ∧ bl tx n (M 166 4) = p
theorem rAt_b {tx : Int → Int} {n p : Int} {M : jM} (h : rAt tx n p M) : 0 ≤ p ∧ p ≤ n ∧ bl tx n p = p ∧ (p < n → ¬ isBl (tx p)) := by
  obtain ⟨h1, h2, h3⟩ := h
  have := rn_b (c := isBl) (tx := tx) h2
  have h5 := rn_idem (c := isBl) (tx := tx) h2
  unfold bl at h3 ⊢
  rw [h3] at this h5
  exact ⟨by omega, by omega, h5, this.2.2.2⟩
/-- isSign: after it the point stands at p -/
theorem e_isSign {tx : Int → Int} {n p c : Int} {M : jM} (hO : okT tx n) (hx : rTx tx n M) (ha : rAt tx n p M) (h7 : M 166 7 = -1) (hc : 0 ≤ c ∧ c ≤ 127) : jT (f_X10_isSign c M) (fun q => q.1 = b2 (p < n ∧ tx p = c) ∧ q.2 166 4 = p ∧ q.2 166 5 = p ∧ fr6 M q.2) := by
  obtain ⟨p0, p1, p2, p3⟩ := rAt_b ha
  unfold f_X10_isSign
  refine t_V (t_mono (e_blanks hO hx rfl ⟨ha.1, ha.2.1⟩) (fun M2 h2 => ?_))
  obtain ⟨g1, g2, g3⟩ := h2
  rw [ha.2.2] at g1 g2
  have h72 : M2 166 7 = -1 := by rw [g3.2 7 (by decide) (by decide)]; exact h7
  refine t_Re (e_failed (by omega)) ?_
  rw [if_pos h72]
  refine t_pos (by decide) ?_
  refine t_Re (e_isAt hO (rTx_fr hx g3) g1 ⟨p0, p1⟩ hc hc) ?_
  by_cases cc : p < n ∧ tx p = c
  · rw [b2_t (show p < n ∧ c ≤ tx p ∧ tx p ≤ c by omega), b2_t cc]
    exact t_neg (by decide) (t_some ⟨rfl, g1, g2, g3⟩)
  · rw [b2_f (show ¬ (p < n ∧ c ≤ tx p ∧ tx p ≤ c) by omega), b2_f cc]
    exact t_pos (by decide) (t_some ⟨rfl, g1, g2, g3⟩)
theorem rAt_p {tx : Int → Int} {n p : Int} {M M' : jM} (h : rAt tx n p M) (h4 : M' 166 4 = p) : rAt tx n p M' := by
  obtain ⟨p0, p1, p2, p3⟩ := rAt_b h
  unfold rAt
  rw [h4]
  exact ⟨p0, p1, p2⟩
/-- takes: the point goes behind the sign -/
theorem e_takes {tx : Int → Int} {n p c : Int} {M : jM} (hO : okT tx n) (hx : rTx tx n M) (ha : rAt tx n p M) (h7 : M 166 7 = -1) (hc : 0 ≤ c ∧ c ≤ 127) : jT (f_X10_takes c M) (fun q => q.1 = b2 (p < n ∧ tx p = c) ∧ q.2 166 5 = p ∧ fr6 M q.2 ∧ rAt tx n (if p < n ∧ tx p = c then bl tx n (p + 1) else p) q.2) := by
  obtain ⟨p0, p1, p2, p3⟩ := rAt_b ha
  unfold f_X10_takes
  refine t_W (t_mono (e_isSign hO hx ha h7 hc) (fun q hq => ?_))
  obtain ⟨g0, g1, g2, g3⟩ := hq
  rw [g0]
  by_cases cc : p < n ∧ tx p = c
  · rw [b2_t cc, if_pos cc]
    refine t_neg (by decide) ?_
    refine t_let ?_
    refine t_ck (by decide) ?_
    refine t_some ⟨rfl, by dsimp only; rw [pst_i (by decide)]; exact g2, fr6_t g3 (fr6_4 _ _), ?_⟩
    unfold rAt
    dsimp only
    rw [pst_s, g1]
    exact ⟨by omega, by omega, rfl⟩
  · rw [b2_f cc, if_neg cc]
    refine t_pos (by decide) ?_
    refine t_ck (by decide) ?_
    exact t_some ⟨rfl, g2, g3, rAt_p ha g1⟩
/-- the letters from p on -/
theorem e_wordMany {tx : Int → Int} {n p : Int} {M : jM} (hO : okT tx n) (hx : rTx tx n M) (ha : rAt tx n p M) : jT (f_X10_wordMany M) (fun q => q.1 = rn isLt tx n p - p ∧ q.2 166 4 = p ∧ q.2 166 5 = p ∧ fr6 M q.2) := by
  obtain ⟨p0, p1, p2, p3⟩ := rAt_b ha
  have n6 := hO.2.1
  unfold f_X10_wordMany
  refine t_V (t_mono (e_blanks hO hx rfl ⟨ha.1, ha.2.1⟩) (fun M2 h2 => ?_))
  obtain ⟨g1, g2, g3⟩ := h2
  rw [ha.2.2] at g1 g2
  have hx2 := rTx_fr hx g3
  rw [g1]
  refine t_let ?_
  refine t_lp1 (fun i => p ≤ i ∧ i ≤ n ∧ rn isLt tx n i = rn isLt tx n p) (fun i => (n - i).toNat) ?_ jfuel p (by rw [jfuel_eq]; omega) ⟨by omega, p1, rfl⟩
  rintro self i ⟨hi1, hi2, hr⟩ hself
  have fin : rn isLt tx n i = i → jT (some (i - p, M2)) (fun q => q.1 = rn isLt tx n p - p ∧ q.2 166 4 = p ∧ q.2 166 5 = p ∧ fr6 M q.2) := fun q => t_some ⟨by show i - p = _; rw [← hr, q], g1, g2, g3⟩
  refine t_kP (fun kk => rn isLt tx n i = i → jT kk (fun q => q.1 = rn isLt tx n p - p ∧ q.2 166 4 = p ∧ q.2 166 5 = p ∧ fr6 M q.2)) fin ?_
  intro k6 hk6
  rw [hx2.1, pw_of (z := n) (by omega) (by omega), pw_of (z := i) (by omega) (by omega)]
  refine t_if (fun c => hk6 (rn_end c)) (fun c => ?_)
  have hv := hO.2.2 i (by omega) (by omega)
  have h8 := b8_o hv
  have hb : -128 ≤ jb8 (tx i) ∧ jb8 (tx i) ≤ 127 := by rw [h8]; split <;> omega
  refine t_ck (by omega) ?_
  rw [hx2.2 i (by omega) (by omega), pw_of (z := jb8 (tx i)) (by omega) (by omega), pw_of (z := 97) (by omega) (by omega), pw_of (z := 122) (by omega) (by omega)]
  refine t_if (fun c1 => hk6 (rn_no (fun q => by
    rw [isLt_i] at q
    rw [h8] at c1
    split at c1 <;> omega))) (fun c1 => ?_)
  refine t_ck (by omega) ?_
  refine t_if (fun c2 => hk6 (rn_no (fun q => by
    rw [isLt_i] at q
    rw [h8] at c2
    split at c2 <;> omega))) (fun c2 => ?_)
  refine t_let ?_
  have hlt : isLt (tx i) = true := by
    rw [isLt_i]
    rw [h8] at c1 c2
    split at c1 <;> omega
  exact hself _ ⟨by omega, by omega, by rw [← rn_yes (by omega) hlt]; exact hr⟩ (by omega)
