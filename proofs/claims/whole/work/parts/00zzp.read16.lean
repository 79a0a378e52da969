/-! ===== reading: a code ===== -/
theorem e_code {M : jM} {v r c : Int} (h7 : M 166 7 = -1) (hr : M 171 3 = r) (hrb : 0 ≤ r ∧ r < 6) (hc : M 171 (482 + r + 1) = c) (hcb : 0 ≤ c ∧ c < 600) : f_X10_code v M = some (jst (jst M 171 (489 + c) v) 171 (482 + r + 1) (c + 1)) := by
  have e3 : jst M 171 (489 + c) v 171 3 = r := by rw [pst_i (by omega)]; exact hr
  unfold f_X10_code
  rw [e_failed (by omega), if_pos h7, eR, if_pos (by decide), pw_of (z := 3) (by omega) (by omega), hr, pw_of (z := 482 + r + 1) (by omega) (by omega), hc, eC (by omega), eC (by omega), eL, pw_of (z := 489 + c) (by omega) (by omega), eC (by omega), eL, e3, pw_of (z := 482 + r + 1) (by omega) (by omega), eC (by omega), eC (by omega), eL]
theorem c_xadd {M : jM} {t v c : Int} (hl : jln (t + 1) = 600) (hc : M t 1 = c) (hcb : 0 ≤ c ∧ c < 600) : f_X5_add t v M = some (jst (jst M (t + 1) c v) t 1 (c + 1)) := by
  have e1 : jst M (t + 1) c v t 1 = c := by rw [pst_f (by omega)]; exact hc
  unfold f_X5_add
  rw [hl, hc, pw_of (z := 600) (by omega) (by omega), pw_of (z := c) (by omega) (by omega), if_neg (by omega), eC (by omega), eL, e1, eL]
theorem ln_x {e : Int} (h : e = 3 ∨ e = 56) : jln (e + 7 + 1) = 600 := by
  rcases h with h | h <;> subst h <;> decide +kernel
