/-! ===== what the reference asks of its rows: bounds, and the words of the scoring ===== -/
def bP (P : Int → Int) : Prop := (0 ≤ P 15 ∧ P 15 ≤ 511) ∧ (0 ≤ P 16 ∧ P 16 ≤ 600) ∧ (-1 ≤ P 17 ∧ P 17 ≤ 5) ∧ (0 ≤ P 18 ∧ P 18 ≤ 4095) ∧ (-1 ≤ P 19 ∧ P 19 ≤ 5) ∧ (-1 ≤ P 20 ∧ P 20 ≤ 11) ∧ (-5 ≤ P 21 ∧ P 21 ≤ 5) ∧ (0 ≤ P 22 ∧ P 22 ≤ 1)
def bT (T : Int → Int) : Prop := (0 ≤ T 0 ∧ T 0 ≤ 10) ∧ (0 ≤ T 1 ∧ T 1 ≤ 6) ∧ (1 ≤ T 2 ∧ T 2 ≤ 9) ∧ (0 ≤ T 3 ∧ T 3 ≤ 6)
  ∧ (∀ i, 0 ≤ i → i < 10 → 0 ≤ T (4 + i) ∧ T (4 + i) ≤ 2)
  ∧ (∀ i, 0 ≤ i → i < 6 → 0 ≤ T (110 + i) ∧ T (110 + i) ≤ 600)
  ∧ (∀ i, 0 ≤ i → i < 6 → 0 ≤ T (116 + i) ∧ T (116 + i) ≤ 12)
  ∧ (∀ i, 0 ≤ i → i < 72 → 0 ≤ T (122 + i) ∧ T (122 + i) ≤ 600)
  ∧ (∀ i, 0 ≤ i → i < 72 → 0 ≤ T (194 + i) ∧ T (194 + i) ≤ 3)
  ∧ (∀ i, 0 ≤ i → i < 216 → 0 ≤ T (266 + i) ∧ T (266 + i) ≤ 9)
def bN (N : Int → Int) : Prop := (∀ i, 0 ≤ i → i < 648 → -5 ≤ N i ∧ N i ≤ 5) ∧ (∀ i, 0 ≤ i → i < 162 → 0 ≤ N (648 + i) ∧ N (648 + i) ≤ 10)
  ∧ (∀ i, 0 ≤ i → i < 72 → 0 ≤ N (810 + i) ∧ N (810 + i) ≤ 7) ∧ (∀ i, 0 ≤ i → i < 72 → 0 ≤ N (882 + i) ∧ N (882 + i) ≤ 1)
  ∧ (∀ i, 0 ≤ i → i < 10 → 0 ≤ N (954 + i) ∧ N (954 + i) ≤ 2000) ∧ (0 ≤ N 964 ∧ N 964 ≤ 3) ∧ (0 ≤ N 965 ∧ N 965 ≤ 600) ∧ (0 ≤ N 966 ∧ N 966 ≤ 50) ∧ (1 ≤ N 967 ∧ N 967 ≤ 3)
  ∧ (∀ i, 0 ≤ i → i < 3 → 0 ≤ N (968 + i) ∧ N (968 + i) ≤ 300)
def q_is (P T N : Int → Int) (s k : Int) : Int := b2 (0 ≤ k ∧ k < T (116 + s) ∧ N (882 + (12 * s + k)) = 0 ∧ T (122 + (12 * s + k)) ≤ P 16)
def q_el (T : Int → Int) (s k i : Int) : Int := T (266 + 3 * (12 * s + k) + i)
def q_many (T : Int → Int) (s k : Int) : Int := T (194 + (12 * s + k))
def q_jump (T : Int → Int) (e : Int) : Int := b2 (T (4 + e) = 0)
def q_calls (P N : Int → Int) (s k : Int) : Int := if P 22 = 0 then N (810 + (12 * s + k)) else 0
def q_in (set k : Int) : Int := b2 (set.toNat.testBit k.toNat = true)
def q_late (P T N : Int → Int) (s k : Int) : Int := if s = P 17 then q_in (P 18) k else b2 (T (4 + q_el T s k 0) = 0 ∧ N 965 ≤ T (122 + (12 * s + k)))
def q_grade (P N : Int → Int) (s k j : Int) : Int := if s = P 19 ∧ k = P 20 then P 21 else N (9 * (12 * s + k) + j)
theorem b2_01 (c : Prop) [Decidable c] : b2 c = 0 ∨ b2 c = 1 := by
  have := b2_b c
  omega
theorem q_is_b (P T N : Int → Int) (s k : Int) : q_is P T N s k = 0 ∨ q_is P T N s k = 1 := b2_01 _
theorem q_jump_b (T : Int → Int) (e : Int) : q_jump T e = 0 ∨ q_jump T e = 1 := b2_01 _
theorem q_in_b (s k : Int) : q_in s k = 0 ∨ q_in s k = 1 := b2_01 _
theorem q_late_b (P T N : Int → Int) (s k : Int) : q_late P T N s k = 0 ∨ q_late P T N s k = 1 := by
  unfold q_late
  split
  · exact q_in_b _ _
  · exact b2_01 _
theorem q_calls_b {P N : Int → Int} (hN : bN N) {s k : Int} (hs : 0 ≤ s ∧ s < 6) (hk : 0 ≤ k ∧ k < 12) : 0 ≤ q_calls P N s k ∧ q_calls P N s k ≤ 7 := by
  unfold q_calls
  split
  · exact hN.2.2.1 (12 * s + k) (by omega) (by omega)
  · omega
theorem q_is_k {P T N : Int → Int} {s k : Int} (h : q_is P T N s k ≠ 0) : 0 ≤ k ∧ k < T (116 + s) := by
  unfold q_is at h
  rcases b2_c (c := 0 ≤ k ∧ k < T (116 + s) ∧ N (882 + (12 * s + k)) = 0 ∧ T (122 + (12 * s + k)) ≤ P 16) with ⟨h1, h2⟩ | ⟨h1, h2⟩
  · exact absurd h1 h
  · exact ⟨h2.1, h2.2.1⟩
theorem e_in {v lo hi : Int} (h1 : -2147483648 ≤ v ∧ v ≤ 2147483647) (h2 : -2147483648 ≤ lo ∧ lo ≤ 2147483647) (h3 : -2147483648 ≤ hi ∧ hi ≤ 2147483647) : f_X10_in v lo hi = some (b2 (lo ≤ v ∧ v ≤ hi)) := by
  unfold f_X10_in b2
  rw [pw_of h1.1 h1.2, pw_of h2.1 h2.2, pw_of h3.1 h3.2]
  by_cases c1 : v < lo
  · rw [if_pos c1, if_neg (by omega)]
  · rw [if_neg c1]
    by_cases c2 : hi < v
    · rw [if_pos c2, if_neg (by omega)]
    · rw [if_neg c2, if_pos (by omega)]
theorem pn_nat {z : Int} (h : 0 ≤ z) : z = ((z.toNat : Nat) : Int) := by omega
theorem e_bit {s k : Int} (hs : 0 ≤ s ∧ s ≤ 2147483647) (hk : 0 ≤ k ∧ k < 32) : jnd (jsr s k) 1 = q_in s k := by
  have h := pb_bit (n := s.toNat) (k := k.toNat) (by omega) (by omega)
  rw [← pn_nat hs.1, ← pn_nat hk.1] at h
  rw [h]
  rfl
theorem e_isIn {s k : Int} (hs : 0 ≤ s ∧ s ≤ 2147483647) (hk : 0 ≤ k ∧ k < 32) : f_X10_isIn s k = some (q_in s k) := by
  unfold f_X10_isIn
  rw [e_bit hs hk]
  rcases q_in_b s k with h | h <;> rw [h] <;> rfl
theorem e_is {M : jM} {s k : Int} (hP : bP (M 166)) (hT : bT (M 169)) (hN : bN (M 170)) (hs : 0 ≤ s ∧ s < 6) (hk : -2147483648 ≤ k ∧ k ≤ 2147483647) : f_X10_is s k M = some (q_is (M 166) (M 169) (M 170) s k) := by
  have t1 := hT.2.2.2.2.2.2.1 s hs.1 hs.2
  unfold f_X10_is q_is
  rw [eC (by rw [pw_of (by omega) (by omega)]; omega), pw_of (z := 116 + s) (by omega) (by omega), e_in hk (by omega) (by omega), eR]
  by_cases c1 : 0 ≤ k ∧ k ≤ M 169 (116 + s) - 1
  · rw [b2_t c1, if_neg (by decide)]
    unfold f_X10_tryAt
    have t2 := hN.2.2.2.1 (12 * s + k) (by omega) (by omega)
    have t3 := hT.2.2.2.2.2.2.2.1 (12 * s + k) (by omega) (by omega)
    rw [eR, pw_of (z := 882 + (12 * s + k)) (by omega) (by omega), eC (by omega), pw_of (by omega) (by omega)]
    by_cases c2 : M 170 (882 + (12 * s + k)) = 0
    · rw [if_pos c2, eR, pw_of (z := 122 + (12 * s + k)) (by omega) (by omega), eC (by omega), pw_of (z := M 169 (122 + (12 * s + k))) (by omega) (by omega), pw_of (z := M 166 16) (by have := hP.2.1; omega) (by have := hP.2.1; omega)]
      by_cases c3 : M 166 16 < M 169 (122 + (12 * s + k))
      · rw [if_pos c3, b2_f (by omega)]
      · rw [if_neg c3, b2_t (by omega)]
    · rw [if_neg c2, b2_f (by omega)]
  · rw [b2_f c1, if_pos (by decide), b2_f (by omega)]
theorem e_el {M : jM} {s k i : Int} (hs : 0 ≤ s ∧ s < 6) (hk : 0 ≤ k ∧ k < 12) (hi : 0 ≤ i ∧ i < 3) : f_X10_elementOf s k i M = some (q_el (M 169) s k i) := by
  unfold f_X10_elementOf f_X10_tryAt q_el
  rw [eR, pw_of (by omega) (by omega), eC (by omega)]
theorem e_many {M : jM} {s k : Int} (hs : 0 ≤ s ∧ s < 6) (hk : 0 ≤ k ∧ k < 12) : f_X10_elementsOf s k M = some (q_many (M 169) s k) := by
  unfold f_X10_elementsOf f_X10_tryAt q_many
  rw [eR, pw_of (by omega) (by omega), eC (by omega)]
theorem e_isJump {M : jM} {e : Int} (hT : bT (M 169)) (he : 0 ≤ e ∧ e < 10) : f_X10_isJump e M = some (q_jump (M 169) e) := by
  unfold f_X10_isJump q_jump
  have t := hT.2.2.2.2.1 e he.1 he.2
  rw [pw_of (z := 4 + e) (by omega) (by omega), eC (by omega), pw_of (by omega) (by omega)]
  unfold b2
  split <;> rfl
theorem e_calls {M : jM} {s k : Int} (hP : bP (M 166)) (hs : 0 ≤ s ∧ s < 6) (hk : 0 ≤ k ∧ k < 12) : f_X10_callsOf s k M = some (q_calls (M 166) (M 170) s k) := by
  unfold f_X10_callsOf f_X10_tryAt q_calls
  have t := hP.2.2.2.2.2.2.2
  rw [eR, pw_of (z := M 166 22) (by omega) (by omega), pw_of (by omega) (by omega), eC (by omega)]
  split <;> rfl
theorem q_el_b {T : Int → Int} (hT : bT T) {s k i : Int} (hs : 0 ≤ s ∧ s < 6) (hk : 0 ≤ k ∧ k < 12) (hi : 0 ≤ i ∧ i < 3) : 0 ≤ q_el T s k i ∧ q_el T s k i ≤ 9 := by
  have := hT.2.2.2.2.2.2.2.2.2 (3 * (12 * s + k) + i) (by omega) (by omega)
  unfold q_el
  rw [show 266 + 3 * (12 * s + k) + i = 266 + (3 * (12 * s + k) + i) from by omega]
  exact this
theorem q_many_b {T : Int → Int} (hT : bT T) {s k : Int} (hs : 0 ≤ s ∧ s < 6) (hk : 0 ≤ k ∧ k < 12) : 0 ≤ q_many T s k ∧ q_many T s k ≤ 3 :=
  hT.2.2.2.2.2.2.2.2.1 (12 * s + k) (by omega) (by omega)
theorem e_late {M : jM} {s k : Int} (hP : bP (M 166)) (hT : bT (M 169)) (hN : bN (M 170)) (hs : 0 ≤ s ∧ s < 6) (hk : 0 ≤ k ∧ k < 12) : f_X10_isLate s k M = some (q_late (M 166) (M 169) (M 170) s k) := by
  unfold f_X10_isLate q_late
  have p1 := hP.2.2.1
  have p2 := hP.2.2.2.1
  have n1 := hN.2.2.2.2.2.2.1
  rw [pw_of (z := s) (by omega) (by omega), pw_of (z := M 166 17) (by omega) (by omega)]
  by_cases c : s = M 166 17
  · rw [if_pos c, if_pos c, e_isIn (by omega) (by omega), eR]
    rcases q_in_b (M 166 18) k with h | h <;> rw [h] <;> rfl
  · rw [if_neg c, if_neg c, e_el hs hk (by omega), eR]
    have t1 := q_el_b hT hs hk (i := 0) (by omega)
    rw [e_isJump hT (by omega), eR]
    have t2 := hT.2.2.2.2.2.2.2.1 (12 * s + k) (by omega) (by omega)
    unfold q_jump f_X10_tryAt
    by_cases c2 : M 169 (4 + q_el (M 169) s k 0) = 0
    · rw [b2_t c2, if_neg (by decide), eR, pw_of (z := 122 + (12 * s + k)) (by omega) (by omega), eC (by omega), pw_of (z := 965) (by omega) (by omega), eC (by omega), pw_of (by omega) (by omega), pw_of (by omega) (by omega)]
      by_cases c3 : M 169 (122 + (12 * s + k)) < M 170 965
      · rw [if_pos c3, b2_f (by omega)]
      · rw [if_neg c3, b2_t (by omega)]
    · rw [b2_f c2, if_pos (by decide), b2_f (by omega)]
theorem e_grade {M : jM} {s k j : Int} (hP : bP (M 166)) (hs : 0 ≤ s ∧ s < 6) (hk : 0 ≤ k ∧ k < 12) (hj : 0 ≤ j ∧ j < 9) : f_X10_gradeBy s k j M = some (q_grade (M 166) (M 170) s k j) := by
  unfold f_X10_gradeBy q_grade f_X10_tryAt
  have p1 := hP.2.2.2.2.1
  have p2 := hP.2.2.2.2.2.1
  rw [eK, eR, pw_of (z := s) (by omega) (by omega), pw_of (z := k) (by omega) (by omega), pw_of (z := M 166 19) (by omega) (by omega), pw_of (z := M 166 20) (by omega) (by omega), pw_of (by omega) (by omega), eC (by omega), show 0 + 9 * (12 * s + k) + j = 9 * (12 * s + k) + j from by omega]
  by_cases c1 : s = M 166 19
  · rw [if_pos c1]
    by_cases c2 : k = M 166 20
    · rw [if_pos c2, if_pos ⟨c1, c2⟩]
    · rw [if_neg c2, if_neg (fun q => c2 q.2)]
  · rw [if_neg c1, if_neg (fun q => c1 q.1)]
theorem q_grade_b {P N : Int → Int} (hP : bP P) (hN : bN N) {s k j : Int} (hs : 0 ≤ s ∧ s < 6) (hk : 0 ≤ k ∧ k < 12) (hj : 0 ≤ j ∧ j < 9) : -5 ≤ q_grade P N s k j ∧ q_grade P N s k j ≤ 5 := by
  unfold q_grade
  split
  · exact hP.2.2.2.2.2.2.1
  · exact hN.1 _ (by omega) (by omega)
