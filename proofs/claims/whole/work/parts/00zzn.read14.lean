/-! ===== reading: signs, words told ===== -/
theorem tk_sg {tx : Int → Int} {n p c : Int} (hc : 33 ≤ c ∧ c ≤ 64 ∧ (c < 48 ∨ 57 < c)) : (tkK tx n p = c ↔ p < n ∧ tx p = c) ∧ (p < n ∧ tx p = c → tkE tx n p = p + 1) := by
  unfold tkK tkE
  by_cases h : n ≤ p
  · rw [if_pos h, if_pos h]
    exact ⟨⟨fun _ => by omega, fun _ => by omega⟩, fun _ => by omega⟩
  · rw [if_neg h, if_neg h]
    by_cases c1 : isLt (tx p) = true
    · rw [if_pos c1, if_pos c1]
      rw [isLt_i] at c1
      exact ⟨⟨fun _ => by omega, fun _ => by omega⟩, fun _ => by omega⟩
    · rw [if_neg c1, if_neg c1]
      by_cases c2 : isDg (tx p) = true
      · rw [if_pos c2, if_pos c2]
        rw [isDg_i] at c2
        exact ⟨⟨fun _ => by omega, fun _ => by omega⟩, fun _ => by omega⟩
      · rw [if_neg c2, if_neg c2]
        exact ⟨⟨fun _ => by omega, fun _ => by omega⟩, fun _ => rfl⟩
theorem c_sign {tx : Int → Int} {n p c : Int} {M : jM} (h : cSt tx n p M) (hc : 33 ≤ c ∧ c ≤ 64 ∧ (c < 48 ∨ 57 < c)) : jT (f_X4_sign c M) (fun q => (p < n ∧ tx p = c) ∧ q.1 = 1 ∧ cAt tx n (bl tx n (p + 1)) q.2 ∧ fr9 M q.2 ∨ ¬ (p < n ∧ tx p = c) ∧ q = (0, jst M 109 7 p)) := by
  obtain ⟨hO, hp, h2, htx, a4, a3, a5⟩ := h
  obtain ⟨d1, d2⟩ := tk_sg (tx := tx) (n := n) (p := p) hc
  have hkb := tkK_b hO hp
  unfold f_X4_sign
  rw [a3, pw_of (z := tkK tx n p) (by omega) (by omega), pw_of (z := c) (by omega) (by omega)]
  refine t_if (fun c1 => ?_) (fun c1 => ?_)
  · have hy := d1.1 c1
    refine t_V (t_mono (c_adv (M := M) (p := p + 1) hO h2 htx (by rw [a4, a5, d2 hy]; omega) ⟨by omega, by omega⟩) (fun M9 h9 => ?_))
    exact t_some (Or.inl ⟨hy, rfl, h9.1, h9.2⟩)
  · exact c_refuse (Or.inr ⟨fun q => c1 (d1.2 q), by rw [a4]⟩)
theorem e_asks {tx : Int → Int} {n p c : Int} {M : jM} (hO : okT tx n) (hx : rTx tx n M) (ha : rAt tx n p M) (h7 : M 166 7 = -1) (hc : 0 ≤ c ∧ c ≤ 127) : jT (f_X10_asksSign c M) (fun X => ((p < n ∧ tx p = c) ∧ X 166 7 = -1 ∧ rAt tx n (bl tx n (p + 1)) X ∨ ¬ (p < n ∧ tx p = c) ∧ X 166 7 = p) ∧ rPt n X ∧ (∀ a, a ≠ 166 → X a = M a) ∧ ∀ j, j ≠ 4 → j ≠ 5 → j ≠ 7 → X 166 j = M 166 j) := by
  unfold f_X10_asksSign
  refine t_W (t_mono (e_takes hO hx ha h7 hc) (fun q hq => ?_))
  obtain ⟨g0, g1, g2, g3⟩ := hq
  have e7 : q.2 166 7 = -1 := by rw [g2.2 7 (by decide) (by decide)]; exact h7
  rw [g0]
  by_cases cc : p < n ∧ tx p = c
  · rw [b2_t cc]
    rw [if_pos cc] at g3
    refine t_neg (by decide) ?_
    exact t_some ⟨Or.inl ⟨cc, e7, g3⟩, ⟨g3.1, g3.2.1⟩, g2.1, fun j q4 q5 _ => g2.2 j q4 q5⟩
  · rw [b2_f cc]
    rw [if_neg cc] at g3
    refine t_pos (by decide) ?_
    refine t_Ve (e_fails0 e7) ?_
    refine t_some ⟨Or.inr ⟨cc, by rw [pst_s]; exact g1⟩, ?_, fun a q => by rw [pst_f q]; exact g2.1 a q, fun j q4 q5 q7 => by rw [pst_i q7]; exact g2.2 j q4 q5⟩
    unfold rPt
    rw [pst_i (by decide)]
    exact ⟨g3.1, g3.2.1⟩
/-- one question after the other -/
theorem e_ask1 {tx : Int → Int} {n p k : Int} {M X : jM} {f g : jM → Option (Int × jM)} {Q : Int × jM → Prop} (hO : okT tx n) (hx : rTx tx n M) (ha : rAt tx n p M) (h7 : M 166 7 = -1) (hk : 0 ≤ k ∧ k < 58) (hX : fr6 M X ∧ rAt tx n p X) (hf : ∀ Y, wd tx n p ≠ sw k → Y 166 4 = p → Y 166 5 = p → fr6 M Y → jT (f Y) Q) (hg : ∀ Y, wd tx n p = sw k → Y 166 4 = p → Y 166 5 = p → fr6 M Y → jT (g Y) Q) : jT (jbW (f_X10_isWord k X) fun v Y => if jw v = 0 then f Y else g Y) Q := by
  refine t_W (t_mono (e_isW hO (rTx_fr hx hX.1) hX.2 (by rw [hX.1.2 7 (by decide) (by decide)]; exact h7) hk) (fun q hq => ?_))
  obtain ⟨g0, g1, g2, g3⟩ := hq
  rw [g0]
  by_cases c : wd tx n p = sw k
  · rw [b2_t c]
    exact t_neg (by decide) (hg q.2 c g1 g2 (fr6_t hX.1 g3))
  · rw [b2_f c]
    exact t_pos (by decide) (hf q.2 c g1 g2 (fr6_t hX.1 g3))
theorem e_callTold {tx : Int → Int} {n p : Int} {M : jM} (hO : okT tx n) (hx : rTx tx n M) (ha : rAt tx n p M) (h7 : M 166 7 = -1) : jT (f_X10_callTold M) (fun q => q.1 = ixW (wd tx n p) W5 0 ∧ q.2 166 4 = p ∧ q.2 166 5 = p ∧ fr6 M q.2) := by
  unfold f_X10_callTold
  refine e_ask1 hO hx ha h7 (by decide) ⟨fr6_r M, ha⟩ (fun Y n0 y4 y5 yf => ?_) (fun Y n0 y4 y5 yf => ?_)
  · refine e_ask1 hO hx ha h7 (by decide) ⟨yf, rAt_p ha y4⟩ (fun Y n1 y4 y5 yf => ?_) (fun Y n1 y4 y5 yf => ?_)
    · refine e_ask1 hO hx ha h7 (by decide) ⟨yf, rAt_p ha y4⟩ (fun Y n2 y4 y5 yf => ?_) (fun Y n2 y4 y5 yf => ?_)
      · refine t_some ⟨?_, y4, y5, yf⟩
        unfold W5 ixW ixW ixW ixW
        rw [if_neg n0, if_neg n1, if_neg n2]
      · refine t_some ⟨?_, y4, y5, yf⟩
        unfold W5 ixW ixW ixW
        rw [if_neg n0, if_neg n1, if_pos n2]
        rfl
    · refine t_some ⟨?_, y4, y5, yf⟩
      unfold W5 ixW ixW
      rw [if_neg n0, if_pos n1]
      rfl
  · refine t_some ⟨?_, y4, y5, yf⟩
    unfold W5 ixW
    rw [if_pos n0]
theorem e_wordTold {tx : Int → Int} {n p : Int} {M : jM} (hO : okT tx n) (hx : rTx tx n M) (ha : rAt tx n p M) (h7 : M 166 7 = -1) : jT (f_X10_wordTold M) (fun q => q.1 = ixW (wd tx n p) W2 0 ∧ q.2 166 4 = p ∧ q.2 166 5 = p ∧ fr6 M q.2) := by
  unfold f_X10_wordTold
  refine e_ask1 hO hx ha h7 (by decide) ⟨fr6_r M, ha⟩ (fun Y n0 y4 y5 yf => ?_) (fun Y n0 y4 y5 yf => ?_)
  · refine e_ask1 hO hx ha h7 (by decide) ⟨yf, rAt_p ha y4⟩ (fun Y n1 y4 y5 yf => ?_) (fun Y n1 y4 y5 yf => ?_)
    · refine e_ask1 hO hx ha h7 (by decide) ⟨yf, rAt_p ha y4⟩ (fun Y n2 y4 y5 yf => ?_) (fun Y n2 y4 y5 yf => ?_)
      · refine e_ask1 hO hx ha h7 (by decide) ⟨yf, rAt_p ha y4⟩ (fun Y n3 y4 y5 yf => ?_) (fun Y n3 y4 y5 yf => ?_)
        · refine e_ask1 hO hx ha h7 (by decide) ⟨yf, rAt_p ha y4⟩ (fun Y n4 y4 y5 yf => ?_) (fun Y n4 y4 y5 yf => ?_)
          · refine e_ask1 hO hx ha h7 (by decide) ⟨yf, rAt_p ha y4⟩ (fun Y n5 y4 y5 yf => ?_) (fun Y n5 y4 y5 yf => ?_)
            · refine e_ask1 hO hx ha h7 (by decide) ⟨yf, rAt_p ha y4⟩ (fun Y n6 y4 y5 yf => ?_) (fun Y n6 y4 y5 yf => ?_)
              · refine e_ask1 hO hx ha h7 (by decide) ⟨yf, rAt_p ha y4⟩ (fun Y n7 y4 y5 yf => ?_) (fun Y n7 y4 y5 yf => ?_)
                · refine e_ask1 hO hx ha h7 (by decide) ⟨yf, rAt_p ha y4⟩ (fun Y n8 y4 y5 yf => ?_) (fun Y n8 y4 y5 yf => ?_)
                  · refine e_ask1 hO hx ha h7 (by decide) ⟨yf, rAt_p ha y4⟩ (fun Y n9 y4 y5 yf => ?_) (fun Y n9 y4 y5 yf => ?_)
                    · refine t_some ⟨?_, y4, y5, yf⟩
                      unfold W2 ixW ixW ixW ixW ixW ixW ixW ixW ixW ixW ixW
                      rw [if_neg n0, if_neg n1, if_neg n2, if_neg n3, if_neg n4, if_neg n5, if_neg n6, if_neg n7, if_neg n8, if_neg n9]
                    · refine t_some ⟨?_, y4, y5, yf⟩
                      unfold W2 ixW ixW ixW ixW ixW ixW ixW ixW ixW ixW
                      rw [if_neg n0, if_neg n1, if_neg n2, if_neg n3, if_neg n4, if_neg n5, if_neg n6, if_neg n7, if_neg n8, if_pos n9]
                      rfl
                  · refine t_some ⟨?_, y4, y5, yf⟩
                    unfold W2 ixW ixW ixW ixW ixW ixW ixW ixW ixW
                    rw [if_neg n0, if_neg n1, if_neg n2, if_neg n3, if_neg n4, if_neg n5, if_neg n6, if_neg n7, if_pos n8]
                    rfl
                · refine t_some ⟨?_, y4, y5, yf⟩
                  unfold W2 ixW ixW ixW ixW ixW ixW ixW ixW
                  rw [if_neg n0, if_neg n1, if_neg n2, if_neg n3, if_neg n4, if_neg n5, if_neg n6, if_pos n7]
                  rfl
              · refine t_some ⟨?_, y4, y5, yf⟩
                unfold W2 ixW ixW ixW ixW ixW ixW ixW
                rw [if_neg n0, if_neg n1, if_neg n2, if_neg n3, if_neg n4, if_neg n5, if_pos n6]
                rfl
            · refine t_some ⟨?_, y4, y5, yf⟩
              unfold W2 ixW ixW ixW ixW ixW ixW
              rw [if_neg n0, if_neg n1, if_neg n2, if_neg n3, if_neg n4, if_pos n5]
              rfl
          · refine t_some ⟨?_, y4, y5, yf⟩
            unfold W2 ixW ixW ixW ixW ixW
            rw [if_neg n0, if_neg n1, if_neg n2, if_neg n3, if_pos n4]
            rfl
        · refine t_some ⟨?_, y4, y5, yf⟩
          unfold W2 ixW ixW ixW ixW
          rw [if_neg n0, if_neg n1, if_neg n2, if_pos n3]
          rfl
      · refine t_some ⟨?_, y4, y5, yf⟩
        unfold W2 ixW ixW ixW
        rw [if_neg n0, if_neg n1, if_pos n2]
        rfl
    · refine t_some ⟨?_, y4, y5, yf⟩
      unfold W2 ixW ixW
      rw [if_neg n0, if_pos n1]
      rfl
  · refine t_some ⟨?_, y4, y5, yf⟩
    unfold W2 ixW
    rw [if_pos n0]
