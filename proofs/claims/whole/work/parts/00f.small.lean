/-! ===== the smallest methods as equations ===== -/
theorem eR {R : Type} (v : Int) (k : Int → Option R) : jbR (some v) k = k v := rfl
theorem eV {R : Type} (v : jM) (k : jM → Option R) : jbV (some v) k = k v := rfl
theorem eW {R : Type} (v : Int) (M : jM) (k : Int → jM → Option R) : jbW (some (v, M)) k = k v M := rfl
theorem eL {A B : Type} (a : A) (f : A → B) : jlet a f = f a := rfl
theorem eK {A B : Type} (a : A) (f : A → B) : jk a f = f a := rfl
theorem eC {R : Type} {c : Prop} [Decidable c] {o : Option R} (h : c) : jck c o = o := if_pos h
theorem e_min {a b : Int} (ha : -2147483648 ≤ a ∧ a ≤ 2147483647) (hb : -2147483648 ≤ b ∧ b ≤ 2147483647) : f_J9_min_7cf53 a b = some (min a b) := by
  unfold f_J9_min_7cf53
  rw [pw_of ha.1 ha.2, pw_of hb.1 hb.2]
  by_cases h : b < a
  · rw [if_pos h, Int.min_def, if_neg (by omega)]
  · rw [if_neg h, Int.min_def, if_pos (by omega)]
theorem e_max {a b : Int} (ha : -2147483648 ≤ a ∧ a ≤ 2147483647) (hb : -2147483648 ≤ b ∧ b ≤ 2147483647) : f_J9_max_7cf53 a b = some (max a b) := by
  unfold f_J9_max_7cf53
  rw [pw_of ha.1 ha.2, pw_of hb.1 hb.2]
  by_cases h : a < b
  · rw [if_pos h, Int.max_def, if_pos (by omega)]
  · rw [if_neg h, Int.max_def]
    by_cases h2 : a ≤ b
    · rw [if_pos h2, show a = b from by omega]
    · rw [if_neg h2]
theorem pcmp_of {a b : Int} (ha : -9223372036854775808 ≤ a ∧ a ≤ 9223372036854775807) (hb : -9223372036854775808 ≤ b ∧ b ≤ 9223372036854775807) : jcmp a b = if a < b then -1 else if a = b then 0 else 1 := by
  unfold jcmp
  rw [pwl_of ha.1 ha.2, pwl_of hb.1 hb.2]
theorem e_minL {a b : Int} (ha : -9223372036854775808 ≤ a ∧ a ≤ 9223372036854775807) (hb : -9223372036854775808 ≤ b ∧ b ≤ 9223372036854775807) : f_J9_min_f86c9 a b = some (min a b) := by
  unfold f_J9_min_f86c9
  rw [pcmp_of ha hb, Int.min_def]
  by_cases h : a < b
  · rw [if_pos h, pw_of (by omega) (by omega)]
    simp [show a ≤ b from by omega]
  · rw [if_neg h]
    by_cases h2 : a = b
    · rw [if_pos h2, pw_of (by omega) (by omega)]
      simp [h2]
    · rw [if_neg h2, pw_of (by omega) (by omega)]
      simp [show ¬ a ≤ b from by omega]
theorem e_maxL {a b : Int} (ha : -9223372036854775808 ≤ a ∧ a ≤ 9223372036854775807) (hb : -9223372036854775808 ≤ b ∧ b ≤ 9223372036854775807) : f_J9_max_f86c9 a b = some (max a b) := by
  unfold f_J9_max_f86c9
  rw [pcmp_of ha hb, Int.max_def]
  by_cases h : a < b
  · rw [if_pos h, pw_of (by omega) (by omega)]
    simp [show a ≤ b from by omega]
  · rw [if_neg h]
    by_cases h2 : a = b
    · rw [if_pos h2, pw_of (by omega) (by omega)]
      simp [h2]
    · rw [if_neg h2, pw_of (by omega) (by omega)]
      simp [show ¬ a ≤ b from by omega]
theorem e_abs {a : Int} (ha : -2147483648 ≤ a ∧ a ≤ 2147483647) : f_J9_abs_0f7a4 a = some (if 0 ≤ a then a else -a) := by
  unfold f_J9_abs_0f7a4
  rw [pw_of ha.1 ha.2]
  split <;> rfl
theorem pxr_sign {a b : Int} (ha : -2147483648 ≤ a ∧ a ≤ 2147483647) (hb : 0 < b ∧ b ≤ 2147483647) : 0 ≤ jxr a b ↔ 0 ≤ a := by
  have tI : ∀ z : Int, -2147483648 ≤ z → z ≤ 2147483647 → (Int32.ofInt z).toInt = z := fun z h1 h2 => Int32.toInt_ofInt_of_le (by simpa using h1) (by
    have : z < 2147483648 := by omega
    simpa using this)
  have h1 := BitVec.msb_eq_toInt (x := (Int32.ofInt a).toBitVec)
  have h2 := BitVec.msb_eq_toInt (x := (Int32.ofInt b).toBitVec)
  have h3 := BitVec.msb_eq_toInt (x := (Int32.ofInt a ^^^ Int32.ofInt b).toBitVec)
  have e1 : (Int32.ofInt a).toBitVec.toInt = a := tI a ha.1 ha.2
  have e2 : (Int32.ofInt b).toBitVec.toInt = b := tI b (by omega) hb.2
  have e3 : (Int32.ofInt a ^^^ Int32.ofInt b).toBitVec.toInt = jxr a b := rfl
  rw [e1] at h1
  rw [e2] at h2
  rw [e3, Int32.toBitVec_xor, BitVec.msb_xor, h1, h2, decide_eq_false (show ¬ b < 0 by omega), Bool.xor_false] at h3
  have h4 := decide_eq_decide.mp h3
  omega
theorem pxr_b (a b : Int) : -2147483648 ≤ jxr a b ∧ jxr a b ≤ 2147483647 := by
  unfold jxr
  have h1 := Int32.le_toInt (Int32.ofInt a ^^^ Int32.ofInt b)
  have h2 := Int32.toInt_lt (Int32.ofInt a ^^^ Int32.ofInt b)
  simp at h1 h2
  omega
theorem e_fdiv {a b : Int} (ha : -2147483648 ≤ a ∧ a ≤ 2147483647) (hb : 0 < b ∧ b ≤ 2147483647) : f_J9_floorDiv_7cf53 a b = some (a / b) := by
  unfold f_J9_floorDiv_7cf53
  rw [pw_of ha.1 ha.2, pw_of (by omega) hb.2, eC (by omega), eL, pw_of (pxr_b a b).1 (pxr_b a b).2]
  have hx := pxr_sign ha hb
  have hd := Int.tdiv_eq_ediv (a := a) (b := b)
  have hs : b.sign = 1 := Int.sign_eq_one_of_pos hb.1
  by_cases h0 : 0 ≤ a
  · rw [if_pos (hx.mpr h0), hd, if_pos (Or.inl h0), Int.add_zero]
  · rw [if_neg (fun q => h0 (hx.mp q))]
    have hle : -2147483648 ≤ a.tdiv b * b ∧ a.tdiv b * b ≤ 2147483647 := by
      have h5 : b * (a.tdiv b) + a.tmod b = a := Int.mul_tdiv_add_tmod a b
      have h6 : a.tmod b ≤ 0 := by
        have := Int.tmod_nonneg (a := -a) b (by omega)
        rw [Int.neg_tmod] at this
        omega
      have h7 : a ≤ a.tdiv b * b := by rw [Int.mul_comm]; omega
      have h8 : a.tdiv b * b ≤ 0 := by
        have : a.tdiv b ≤ 0 := by
          have := Int.tdiv_nonneg (a := -a) (b := b) (by omega) (by omega)
          rw [Int.neg_tdiv] at this
          omega
        exact Int.mul_nonpos_of_nonpos_of_nonneg this (by omega)
      omega
    rw [pw_of hle.1 hle.2]
    by_cases hdv : b ∣ a
    · rw [if_pos (Int.tdiv_mul_cancel hdv), hd, if_pos (Or.inr hdv), Int.add_zero]
    · rw [if_neg (fun q => hdv ⟨a.tdiv b, by rw [Int.mul_comm]; exact q.symm⟩), hd, if_neg (by omega), hs]
      congr 1
      omega
