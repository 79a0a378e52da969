/-! ===== struck elements, worth, gain, points of the reference ===== -/
def q_stood (P T N : Int → Int) (s k i : Int) : Int := sZ (fun o => if q_is P T N s o = 0 then 0 else sZ (fun x => b2 (q_el T s o x = q_el T s k i)) (if o = k then i else q_many T s o)) (k + 1)
theorem q_stood_t {P T N : Int → Int} (hT : bT T) {s k i o : Int} (hs : 0 ≤ s ∧ s < 6) (hk : 0 ≤ k ∧ k < 12) (hi : 0 ≤ i ∧ i < 3) (ho : 0 ≤ o ∧ o < 12) : 0 ≤ (if q_is P T N s o = 0 then 0 else sZ (fun x => b2 (q_el T s o x = q_el T s k i)) (if o = k then i else q_many T s o)) ∧ (if q_is P T N s o = 0 then 0 else sZ (fun x => b2 (q_el T s o x = q_el T s k i)) (if o = k then i else q_many T s o)) ≤ 3 := by
  split
  · omega
  · have h1 := q_many_b hT hs ho
    have h2 : 0 ≤ (if o = k then i else q_many T s o) ∧ (if o = k then i else q_many T s o) ≤ 3 := by split <;> omega
    have h3 := sZ_b (f := fun x => b2 (q_el T s o x = q_el T s k i)) (lo := 0) (hi := 1) h2.1 (fun x _ _ => b2_b _)
    omega
theorem q_stood_b {P T N : Int → Int} (hT : bT T) {s k i : Int} (hs : 0 ≤ s ∧ s < 6) (hk : 0 ≤ k ∧ k < 12) (hi : 0 ≤ i ∧ i < 3) : 0 ≤ q_stood P T N s k i ∧ q_stood P T N s k i ≤ 36 := by
  have := sZ_b (f := fun o => if q_is P T N s o = 0 then 0 else sZ (fun x => b2 (q_el T s o x = q_el T s k i)) (if o = k then i else q_many T s o)) (lo := 0) (hi := 3) (z := k + 1) (by omega) (fun o h0 h1 => q_stood_t hT hs hk hi (by omega))
  unfold q_stood
  omega
set_option maxHeartbeats 1000000 in
theorem e_stood {M : jM} {s k i : Int} (hP : bP (M 166)) (hT : bT (M 169)) (hN : bN (M 170)) (hs : 0 ≤ s ∧ s < 6) (hk : 0 ≤ k ∧ k < 12) (hi : 0 ≤ i ∧ i < 3) : f_X10_stoodAhead s k i M = some (q_stood (M 166) (M 169) (M 170) s k i) := by
  apply t_get
  unfold f_X10_stoodAhead
  refine t_Re (e_el hs hk hi) ?_
  have hel := q_el_b hT hs hk hi
  refine t_lp2 (fun n o => 0 ≤ o ∧ o ≤ k + 1 ∧ n = sZ (fun o => if q_is (M 166) (M 169) (M 170) s o = 0 then 0 else sZ (fun x => b2 (q_el (M 169) s o x = q_el (M 169) s k i)) (if o = k then i else q_many (M 169) s o)) o) (fun _ o => (k + 1 - o).toNat) ?_ jfuel 0 0 (by rw [jfuel_eq]; omega) ⟨by omega, by omega, rfl⟩
  rintro self n o ⟨ho1, ho2, hn⟩ hself
  rw [pw_of (z := k) (by omega) (by omega), pw_of (z := o) (by omega) (by omega)]
  refine t_if (fun hc => ?_) (fun hc => ?_)
  · refine t_some ?_
    show n = _
    rw [hn, show o = k + 1 from by omega]
    rfl
  · refine t_Re (e_is hP hT hN hs (by omega)) ?_
    have hsz := sZ_s (f := fun o => if q_is (M 166) (M 169) (M 170) s o = 0 then 0 else sZ (fun x => b2 (q_el (M 169) s o x = q_el (M 169) s k i)) (if o = k then i else q_many (M 169) s o)) ho1
    rcases q_is_b (M 166) (M 169) (M 170) s o with h | h
    · rw [h]
      refine t_pos (by decide) ?_
      refine t_let ?_
      refine hself _ _ ⟨by omega, by omega, ?_⟩ (by omega)
      rw [hsz, h, ← hn]
      simp
    · rw [h]
      refine t_neg (by decide) ?_
      have hmb := q_many_b hT hs (k := o) (by omega)
      generalize hlim : (if o = k then i else q_many (M 169) s o) = lim at hsz
      have hl : 0 ≤ lim ∧ lim ≤ 3 := by
        rw [← hlim]
        split <;> omega
      refine t_lp2 (fun m x => 0 ≤ x ∧ x ≤ lim ∧ m = n + sZ (fun x => b2 (q_el (M 169) s o x = q_el (M 169) s k i)) x) (fun _ x => (lim - x).toNat) ?_ jfuel n 0 (by rw [jfuel_eq]; omega) ⟨by omega, by omega, by rw [sZ_0]; omega⟩
      rintro self2 m x ⟨hx1, hx2, hm⟩ hself2
      refine t_k ?_
      have body : jT ((fun (s1_11 : Int) =>
            if jw s1_11 ≤ jw x then (
              jlet (o + 1) fun l6_13 =>
              self m l6_13)
            else (
              jbR (f_X10_elementOf s o x M) fun v15 =>
              jk (fun (s1_16 : Int) =>
                jlet ((m + s1_16)) fun l4_18 =>
                jlet (x + 1) fun l7_19 =>
                self2 l4_18 l7_19) fun (k17 : Int → Option (Int)) =>
              if jw v15 = jw (q_el (M 169) s k i) then (
                k17 1)
              else (
                k17 0))) lim) (fun r => r = q_stood (M 166) (M 169) (M 170) s k i) := by
        show jT (ite _ _ _) _
        rw [pw_of (z := lim) (by omega) (by omega), pw_of (z := x) (by omega) (by omega)]
        refine t_if (fun hc2 => ?_) (fun hc2 => ?_)
        · refine t_let ?_
          refine hself _ _ ⟨by omega, by omega, ?_⟩ (by omega)
          rw [hsz, h, ← hn, hm, show x = lim from by omega]
          simp
        · have hxe := q_el_b hT hs (k := o) (i := x) (by omega) (by omega)
          refine t_Re (e_el hs (by omega) (by omega)) ?_
          rw [pw_of (z := q_el (M 169) s o x) (by omega) (by omega), pw_of (z := q_el (M 169) s k i) (by omega) (by omega)]
          refine t_k ?_
          have hsx := sZ_s (f := fun x => b2 (q_el (M 169) s o x = q_el (M 169) s k i)) hx1
          refine t_if (fun hc3 => ?_) (fun hc3 => ?_)
          · refine t_let ?_
            refine t_let ?_
            refine hself2 _ _ ⟨by omega, by omega, ?_⟩ (by omega)
            rw [hsx, b2_t hc3]
            omega
          · refine t_let ?_
            refine t_let ?_
            refine hself2 _ _ ⟨by omega, by omega, ?_⟩ (by omega)
            rw [hsx, b2_f hc3]
            omega
      by_cases ek : o = k
      · refine t_pos ek ?_
        rw [if_pos ek] at hlim
        rw [← hlim] at body
        exact body
      · refine t_neg ek ?_
        rw [if_neg ek] at hlim
        refine t_Re (e_many hs (by omega)) ?_
        rw [← hlim] at body
        exact body
def q_struck (P T N : Int → Int) (s k i : Int) : Int := b2 ((if q_jump T (q_el T s k i) = 0 then 1 else N 967) ≤ q_stood P T N s k i)
theorem q_struck_b (P T N : Int → Int) (s k i : Int) : q_struck P T N s k i = 0 ∨ q_struck P T N s k i = 1 := b2_01 _
theorem e_struck {M : jM} {s k i : Int} (hP : bP (M 166)) (hT : bT (M 169)) (hN : bN (M 170)) (hs : 0 ≤ s ∧ s < 6) (hk : 0 ≤ k ∧ k < 12) (hi : 0 ≤ i ∧ i < 3) : f_X10_isStruck s k i M = some (q_struck (M 166) (M 169) (M 170) s k i) := by
  have h1 := q_el_b hT hs hk hi
  have h2 := q_stood_b (P := M 166) (N := M 170) hT hs hk hi
  have h3 := hN.2.2.2.2.2.2.2.2.1
  unfold f_X10_isStruck q_struck
  rw [e_stood hP hT hN hs hk hi, eR, e_el hs hk hi, eR, e_isJump hT (by omega), eR, eK]
  dsimp only
  rw [pw_of (z := q_stood (M 166) (M 169) (M 170) s k i) (by omega) (by omega), pw_of (z := 967) (by omega) (by omega), pw_of (z := M 170 967) (by omega) (by omega), pw_of (z := 1) (by omega) (by omega)]
  rcases q_jump_b (M 169) (q_el (M 169) s k i) with h | h
  · rw [h, if_pos (by decide), if_pos rfl]
    by_cases c : q_stood (M 166) (M 169) (M 170) s k i < 1
    · rw [if_pos c, b2_f (by omega)]
    · rw [if_neg c, b2_t (by omega)]
  · rw [h, if_neg (show ¬ jw 1 = 0 by decide), if_neg (show ¬ (1 : Int) = 0 by decide), eC (by omega)]
    by_cases c : q_stood (M 166) (M 169) (M 170) s k i < M 170 967
    · rw [if_pos c, b2_f (by omega)]
    · rw [if_neg c, b2_t (by omega)]
/-- a set of bits, told one by one -/
def q_or (f : Int → Int) : Nat → Nat
  | 0 => 0
  | n + 1 => if f (n : Int) = 0 then q_or f n else q_or f n ||| 2 ^ n
theorem q_or_lt (f : Int → Int) : ∀ n : Nat, q_or f n < 2 ^ n := by
  intro n
  induction n with
  | zero => exact Nat.one_pos
  | succ n ih =>
    unfold q_or
    have h1 : 2 ^ n < 2 ^ (n + 1) := Nat.pow_lt_pow_right (by decide) (by omega)
    split
    · omega
    · exact Nat.or_lt_two_pow (by omega) h1
theorem q_or_bit (f : Int → Int) : ∀ (n i : Nat), (q_or f n).testBit i = (decide (i < n) && decide (f (i : Int) ≠ 0)) := by
  intro n
  induction n with
  | zero => intro i; simp [q_or]
  | succ n ih =>
    intro i
    unfold q_or
    by_cases hi : i = n
    · subst hi
      by_cases h : f (i : Int) = 0
      · rw [if_pos h, ih]
        simp [h]
      · rw [if_neg h, Nat.testBit_or, ih, Nat.testBit_two_pow_self]
        simp [h]
    · have e : decide (i < n + 1) = decide (i < n) := by
        apply decide_eq_decide.mpr
        omega
      rw [e]
      split
      · exact ih i
      · rw [Nat.testBit_or, ih, Nat.testBit_two_pow_of_ne (by omega), Bool.or_false]
theorem q_or_congr {f g : Int → Int} : ∀ {n : Nat}, (∀ i : Int, 0 ≤ i → i < n → (f i = 0 ↔ g i = 0)) → q_or f n = q_or g n := by
  intro n
  induction n with
  | zero => intro _; rfl
  | succ n ih =>
    intro h
    unfold q_or
    rw [ih (fun i h0 h1 => h i h0 (by omega))]
    have := h n (by omega) (by omega)
    by_cases c : f (n : Int) = 0
    · rw [if_pos c, if_pos (this.mp c)]
    · rw [if_neg c, if_neg (fun q => c (this.mpr q))]
theorem e_struckOf {M : jM} {s k : Int} (hP : bP (M 166)) (hT : bT (M 169)) (hN : bN (M 170)) (hs : 0 ≤ s ∧ s < 6) (hk : 0 ≤ k ∧ k < 12) : f_X10_struckOf s k M = some ((q_or (q_struck (M 166) (M 169) (M 170) s k) (q_many (M 169) s k).toNat : Nat) : Int) := by
  apply t_get
  unfold f_X10_struckOf
  have hm := q_many_b hT hs hk
  refine t_lp2 (fun n i => 0 ≤ i ∧ i ≤ q_many (M 169) s k ∧ n = ((q_or (q_struck (M 166) (M 169) (M 170) s k) i.toNat : Nat) : Int)) (fun _ i => (q_many (M 169) s k - i).toNat) ?_ jfuel 0 0 (by rw [jfuel_eq]; omega) ⟨by omega, by omega, rfl⟩
  rintro self n i ⟨hi1, hi2, hn⟩ hself
  refine t_Re (e_many hs hk) ?_
  rw [pw_of (z := q_many (M 169) s k) (by omega) (by omega), pw_of (z := i) (by omega) (by omega)]
  have hlt := q_or_lt (q_struck (M 166) (M 169) (M 170) s k) i.toNat
  have h8 : 2 ^ i.toNat ≤ 2 ^ 3 := Nat.pow_le_pow_right (by decide) (by omega)
  refine t_if (fun hc => ?_) (fun hc => ?_)
  · refine t_some ?_
    show n = _
    rw [hn, show i = q_many (M 169) s k from by omega]
  · refine t_Re (e_struck hP hT hN hs hk (by omega)) ?_
    refine t_k ?_
    have e1 : (i + 1).toNat = i.toNat + 1 := by omega
    have e2 : ((i.toNat : Nat) : Int) = i := by omega
    rcases q_struck_b (M 166) (M 169) (M 170) s k i with h | h
    · rw [h]
      refine t_pos (by decide) ?_
      refine t_let ?_
      refine t_let ?_
      refine hself _ _ ⟨by omega, by omega, ?_⟩ (by omega)
      rw [e1]
      unfold q_or
      rw [e2, if_pos h, hn]
      have := pb_or (n := q_or (q_struck (M 166) (M 169) (M 170) s k) i.toNat) (m := 0) (by omega) (by omega)
      rw [Nat.or_zero] at this
      exact this
    · rw [h]
      refine t_neg (by decide) ?_
      refine t_let ?_
      refine t_let ?_
      refine hself _ _ ⟨by omega, by omega, ?_⟩ (by omega)
      rw [e1]
      unfold q_or
      rw [e2, if_neg (by omega), hn]
      have h5 := pb_sl i.toNat (by omega)
      rw [e2] at h5
      rw [h5]
      exact pb_or (by omega) (by omega)
