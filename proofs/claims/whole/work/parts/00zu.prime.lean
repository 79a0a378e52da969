/-! ===== prime ===== -/
section PH
variable {P P' : Int → Int} (T N : Int → Int)
theorem h_is (h : P 16 = P' 16) : q_is P T N = q_is P' T N := by
  funext s k; unfold q_is; rw [h]
theorem h_struck (h : P 16 = P' 16) : q_struck P T N = q_struck P' T N := by
  funext s k i; unfold q_struck q_stood; rw [h_is T N h]
theorem h_plain (h : P 16 = P' 16) (h2 : P 22 = P' 22) : q_plain P T N = q_plain P' T N := by
  funext s k
  have e1 : q_bases P T N = q_bases P' T N := by funext s k; unfold q_bases; rw [h_struck T N h]
  have e2 : q_calls P N = q_calls P' N := by funext s k; unfold q_calls; rw [h2]
  unfold q_plain
  rw [e1, e2]
theorem h_best (h : P 16 = P' 16) : q_best P T N = q_best P' T N := by
  funext s k
  unfold q_best
  have : ∀ n, q_mx P T N s k n = q_mx P' T N s k n := fun n => by
    induction n with
    | zero => rfl
    | succ n ih => unfold q_mx; rw [ih, h_struck T N h]
  exact this _
theorem h_gain (h : P 16 = P' 16) (h15 : P 15 = P' 15) (h19 : P 19 = P' 19) (h20 : P 20 = P' 20) (h21 : P 21 = P' 21) : q_gain P T N = q_gain P' T N := by
  funext s k
  unfold q_gain q_mean
  have : q_grade P N s k = q_grade P' N s k := by funext j; unfold q_grade; rw [h19, h20, h21]
  rw [h_best T N h, this, h15]
end PH
/-- greedy: the greatest first -/
def pw2 (k : Int) : Int := ((2 ^ k.toNat : Nat) : Int)
def sW (b f : Int → Int) : Int := sS (fun k => if f k = 0 then 0 else b k) 12
def opt (A b G : Int → Int) : Prop := ∀ f : Int → Int, (∀ k, f k = 0 ∨ f k = 1) → (∀ k, 0 ≤ k → k < 12 → f k ≠ 0 → A k ≠ 0) → sS f 12 = sS G 12 → sW b f ≤ sW b G ∧ (sW b f = sW b G → sW pw2 G ≤ sW pw2 f)
theorem opt_0 {A b G : Int → Int} (hG : ∀ k, G k = 0) : opt A b G := by
  intro f h01 hA hc
  have h0 : sS G 12 = 0 := by
    have := sS_b (f := G) (lo := 0) (hi := 0) (n := 12) (fun i _ _ => by rw [hG]; omega)
    omega
  have hf : ∀ i : Int, 0 ≤ i → i < 12 → f i = 0 := fun i q0 q1 => by
    have := sS_ge (f := f) (n := 12) (i := i) (fun j => by rcases h01 j with h | h <;> omega) q0 (by omega)
    rcases h01 i with h | h <;> omega
  have e : ∀ b : Int → Int, sW b f = sW b G := fun b => sS_congr (fun i q0 q1 => by rw [hf i q0 (by omega), hG])
  rw [e, e]
  exact ⟨Int.le_refl _, fun _ => Int.le_refl _⟩
theorem sW_upd {b f g : Int → Int} {k : Int} (hk : 0 ≤ k ∧ k < 12) (h : ∀ i, i ≠ k → g i = f i) (h0 : f k = 0) (h1 : g k = 1) : sW b g = sW b f + b k := by
  unfold sW
  rw [sS_upd (f := fun k => if f k = 0 then 0 else b k) (g := fun k => if g k = 0 then 0 else b k) (k := k) (fun i hi => by rw [h i hi]) hk.1 (by omega), if_pos h0, if_neg (by omega)]
  omega
theorem pw2_le {a b : Int} (h : a ≤ b) : pw2 a ≤ pw2 b := by
  unfold pw2
  have : 2 ^ a.toNat ≤ 2 ^ b.toNat := Nat.pow_le_pow_right (by decide) (by omega)
  omega
theorem opt_s {A b G G' : Int → Int} {g : Int} (hG : opt A b G) (h01 : ∀ k, G k = 0 ∨ G k = 1) (hg : 0 ≤ g ∧ g < 12) (hg0 : G g = 0) (hmax : ∀ x, 0 ≤ x → x < 12 → A x ≠ 0 → G x = 0 → b x ≤ b g ∧ (b x = b g → g ≤ x)) (h1 : G' g = 1) (h2 : ∀ k, k ≠ g → G' k = G k) : opt A b G' := by
  intro f f01 hA hc
  have hs : sS G' 12 = sS G 12 + 1 := by
    rw [sS_upd h2 hg.1 (by omega), h1, hg0]
    omega
  by_cases hx : ∃ x, 0 ≤ x ∧ x < 12 ∧ f x ≠ 0 ∧ G x = 0
  · obtain ⟨x, x0, x1, x2, x3⟩ := hx
    have fx : f x = 1 := by rcases f01 x with h | h <;> omega
    have hfs : sS f 12 = sS (fun k => if k = x then 0 else f k) 12 + 1 := by
      rw [sS_upd (f := fun k => if k = x then 0 else f k) (g := f) (k := x) (fun i hi => (if_neg hi).symm) x0 (by omega), if_pos rfl]
      omega
    have ih := hG (fun k => if k = x then 0 else f k) (fun k => by
      by_cases c : k = x
      · exact Or.inl (if_pos c)
      · rw [if_neg c]; exact f01 k) (fun k q0 q1 q2 => by
      by_cases c : k = x
      · exact absurd (if_pos c) q2
      · rw [if_neg c] at q2; exact hA k q0 q1 q2) (by omega)
    have u1 : ∀ b : Int → Int, sW b f = sW b (fun k => if k = x then 0 else f k) + b x := fun b => sW_upd ⟨x0, x1⟩ (fun i hi => (if_neg hi).symm) (if_pos rfl) fx
    have u2 : ∀ b : Int → Int, sW b G' = sW b G + b g := fun b => sW_upd hg h2 hg0 h1
    have hm := hmax x x0 x1 (hA x x0 x1 x2) x3
    rw [u1, u1, u2, u2]
    refine ⟨by omega, fun q => ?_⟩
    have hb : b x = b g := by omega
    have := ih.2 (by omega)
    have := pw2_le (hm.2 hb)
    omega
  · exfalso
    have := sS_le (f := f) (g := G) (n := 12) (fun i q0 q1 => by
      rcases f01 i with h | h
      · rcases h01 i with h' | h' <;> omega
      · rcases h01 i with h' | h'
        · exact absurd ⟨i, q0, by omega, by omega, h'⟩ hx
        · omega)
    omega
theorem or_val (f : Int → Int) : ∀ n : Nat, ((q_or f n : Nat) : Int) = sS (fun k => if f k = 0 then 0 else pw2 k) n := by
  intro n
  induction n with
  | zero => rfl
  | succ n ih =>
    show ((if f (n : Int) = 0 then q_or f n else q_or f n ||| 2 ^ n : Nat) : Int) = sS (fun k => if f k = 0 then 0 else pw2 k) n + (if f (n : Int) = 0 then 0 else pw2 (n : Int))
    rw [← ih]
    split
    · omega
    · have h1 := q_or_lt f n
      have h2 := Nat.two_pow_add_eq_or_of_lt h1 1
      rw [Nat.mul_one] at h2
      rw [Nat.or_comm, ← h2]
      unfold pw2
      rw [Int.toNat_natCast]
      omega
theorem q_val {n : Nat} (h : n < 4096) : sW pw2 (q_in (n : Int)) = (n : Int) := by
  have := or_val (fun k => q_in (n : Int) k) 12
  rw [q_or_of (m := 12) (by omega)] at this
  exact this.symm
/-- what may be late, and what it brings -/
def q_may (P T N : Int → Int) (s k : Int) : Int := if q_is P T N s k = 0 then 0 else q_jump T (q_el T s k 0)
def q_bon (P T N : Int → Int) (s k : Int) : Int := q_plain P T N s k * N 966 / 100
theorem q_may_b (P T N : Int → Int) (s k : Int) : q_may P T N s k = 0 ∨ q_may P T N s k = 1 := by
  unfold q_may
  split
  · exact Or.inl rfl
  · exact b2_01 _
theorem q_bon_b {P T N : Int → Int} (hT : bT T) (hN : bN N) {s k : Int} (hs : 0 ≤ s ∧ s < 6) (hk : 0 ≤ k ∧ k < 12) : 0 ≤ q_bon P T N s k ∧ q_bon P T N s k ≤ 3000 := by
  have h1 := q_plain_b (P := P) hT hN hs hk
  have h2 := hN.2.2.2.2.2.2.2.1
  have h3 := mul_bnd h1.1 h1.2 h2.1 h2.2
  unfold q_bon
  omega
/-- the greatest so far, among those that sel takes -/
def q_top (sel b : Int → Int) (g i : Int) : Prop := (g = -1 ∧ ∀ x, 0 ≤ x → x < i → sel x = 0) ∨ (0 ≤ g ∧ g < i ∧ sel g ≠ 0 ∧ ∀ x, 0 ≤ x → x < i → sel x ≠ 0 → b x ≤ b g ∧ (b x = b g → g ≤ x))
theorem c_great {t e s l : Int} {M : jM} {P T N : Int → Int} (hC : cE e M T N) (hs : 0 ≤ s ∧ s < T 1) (hw : wT t e s M P T N) (hl : 0 ≤ l ∧ l ≤ 4095) (hll : ∀ k, 0 ≤ k → k < 12 → q_in l k ≠ 0 → q_is P T N s k ≠ 0) :
    jT (f_X8_greatestBonus t l M) (fun g => q_top (fun k => if q_in l k = 0 then 0 else q_may P T N s k) (q_bon P T N s) g (T (116 + s))) := by
  have hT := hC.2.1
  have hN := hC.2.2.1
  have t1 := hT.2.1
  have hs6 : 0 ≤ s ∧ s < 6 := by omega
  have tt := hT.2.2.2.2.2.2.1 s hs6.1 hs6.2
  have sk := hC.2.2.2.2.2.2.2.2.2.2.2.2.2 s hs.1 hs.2
  have y966 := hC.2.2.2.2.2.1 2 (by omega) (by omega)
  rw [show (964 : Int) + 2 = 966 from rfl] at y966
  have hbo : ∀ k, q_is P T N s k ≠ 0 → f_X8_bonusOf t k M = some (q_bon P T N s k) := fun k hk => by
    have hkk := q_is_k hk
    have h2 := (hw.2.2.2.2.2.2.1 k hk).2.1
    rw [c_bonus (kd_e hC.1) hw.1 (by omega) (by rw [h2]; exact q_plain_b hT hN hs6 (by omega)) (by rw [y966]; exact hN.2.2.2.2.2.2.2.1), h2, y966]
    rfl
  unfold f_X8_greatestBonus
  refine t_lp2 (fun g i => 0 ≤ i ∧ i ≤ T (116 + s) ∧ q_top (fun k => if q_in l k = 0 then 0 else q_may P T N s k) (q_bon P T N s) g i) (fun _ i => (T (116 + s) - i).toNat) ?_ jfuel (-1) 0 (by rw [jfuel_eq]; omega) ⟨by omega, by omega, Or.inl ⟨rfl, fun x q0 q1 => by omega⟩⟩
  rintro self g i ⟨hi1, hi2, ht⟩ hself
  rw [hw.2.1, sk.1, pw_of (z := T (116 + s)) (by omega) (by omega), pw_of (z := i) (by omega) (by omega)]
  refine t_ck (kd_g hC.1 (by omega)) ?_
  refine t_if (fun c => ?_) (fun c => ?_)
  · refine t_some ?_
    rw [show T (116 + s) = i from by omega]
    exact ht
  · have stay : (if q_in l i = 0 then 0 else q_may P T N s i) = 0 → q_top (fun k => if q_in l k = 0 then 0 else q_may P T N s k) (q_bon P T N s) g (i + 1) := fun h0 => by
      rcases ht with ⟨x1, x2⟩ | ⟨x1, x2, x3, x4⟩
      · exact Or.inl ⟨x1, fun x q0 q1 => by
          by_cases cx : x = i
          · subst cx; exact h0
          · exact x2 x q0 (by omega)⟩
      · exact Or.inr ⟨x1, by omega, x3, fun x q0 q1 q2 => by
          by_cases cx : x = i
          · subst cx; exact absurd h0 q2
          · exact x4 x q0 (by omega) q2⟩
    refine t_k ?_
    refine t_k ?_
    rw [e_bit (by omega) (by omega)]
    rcases q_in_b l i with q | q
    · rw [q]
      refine t_pos (by decide) ?_
      refine t_pos (by decide) ?_
      refine t_let ?_
      exact hself _ _ ⟨by omega, by omega, stay (if_pos q)⟩ (by omega)
    · rw [q]
      refine t_neg (by decide) ?_
      refine t_Re (c_begins hT hC.2.2.2.1 hs hC.2.2.2.2 rfl (kd_e hC.1) (kd_g hC.1 (by omega)) hw.1 hw.2.1 (by omega)) ?_
      have hiq := hll i hi1 (by omega) (by omega)
      have hmy : (if q_in l i = 0 then 0 else q_may P T N s i) = q_jump T (q_el T s i 0) := by
        rw [if_neg (by omega)]
        exact if_neg hiq
      have hj01 : q_jump T (q_el T s i 0) = 0 ∨ q_jump T (q_el T s i 0) = 1 := b2_01 _
      rcases hj01 with qj | qj
      · rw [qj]
        refine t_pos (by decide) ?_
        refine t_pos (by decide) ?_
        refine t_let ?_
        exact hself _ _ ⟨by omega, by omega, stay (by rw [hmy]; exact qj)⟩ (by omega)
      · rw [qj]
        refine t_neg (by decide) ?_
        refine t_neg (by decide) ?_
        refine t_k ?_
        have gb : -1 ≤ g ∧ g < i := by rcases ht with ⟨x1, x2⟩ | ⟨x1, x2, x3, x4⟩ <;> omega
        rw [pw_of (z := g) (by omega) (by omega), pw_of (z := -1) (by omega) (by omega)]
        refine t_if (fun c1 => ?_) (fun c1 => ?_)
        · refine t_let ?_
          refine hself _ _ ⟨by omega, by omega, Or.inr ⟨by omega, by omega, by dsimp only; omega, fun x q0 q1 q2 => ?_⟩⟩ (by omega)
          rcases ht with ⟨x1, x2⟩ | ⟨x1, x2, x3, x4⟩
          · by_cases cx : x = i
            · subst cx; exact ⟨Int.le_refl _, fun _ => Int.le_refl _⟩
            · exact absurd (x2 x q0 (by omega)) q2
          · omega
        · rcases ht with ⟨x1, x2⟩ | ⟨x1, x2, x3, x4⟩
          · omega
          · have hgq : q_is P T N s g ≠ 0 := fun h => x3 (by
              dsimp only
              unfold q_may
              rw [if_pos h]
              split <;> rfl)
            have b1 := q_bon_b (P := P) hT hN hs6 (k := i) (by omega)
            have b2 := q_bon_b (P := P) hT hN hs6 (k := g) (by omega)
            refine t_Re (hbo i hiq) ?_
            refine t_Re (hbo g hgq) ?_
            rw [pw_of (z := q_bon P T N s i) (by omega) (by omega), pw_of (z := q_bon P T N s g) (by omega) (by omega)]
            refine t_if (fun c2 => ?_) (fun c2 => ?_)
            · refine t_let ?_
              refine hself _ _ ⟨by omega, by omega, Or.inr ⟨x1, by omega, x3, fun x q0 q1 q2 => ?_⟩⟩ (by omega)
              by_cases cx : x = i
              · subst cx; exact ⟨c2, fun _ => by omega⟩
              · exact x4 x q0 (by omega) q2
            · refine t_let ?_
              refine hself _ _ ⟨by omega, by omega, Or.inr ⟨by omega, by omega, by dsimp only; omega, fun x q0 q1 q2 => ?_⟩⟩ (by omega)
              by_cases cx : x = i
              · subst cx; exact ⟨Int.le_refl _, fun _ => Int.le_refl _⟩
              · have := x4 x q0 (by omega) q2
                exact ⟨by omega, fun _ => by omega⟩

theorem andnot_in {n m : Nat} {k : Int} : q_in ((n ^^^ (n &&& m) : Nat) : Int) k = if q_in (n : Int) k = 0 then 0 else if q_in (m : Int) k = 0 then 1 else 0 := by
  unfold q_in
  rw [Int.toNat_natCast, Int.toNat_natCast, Int.toNat_natCast, Nat.testBit_xor, Nat.testBit_and]
  cases n.testBit k.toNat <;> cases m.testBit k.toNat <;> decide
theorem or_in {n : Nat} {g k : Int} (hg : 0 ≤ g) (hk : 0 ≤ k) : q_in ((n ||| 2 ^ g.toNat : Nat) : Int) k = if k = g then 1 else q_in (n : Int) k := by
  unfold q_in
  rw [Int.toNat_natCast, Int.toNat_natCast, or_bit]
  by_cases c : k = g
  · subst c
    rw [if_pos rfl, decide_eq_true rfl, Bool.or_true]
    exact b2_t rfl
  · rw [if_neg c, decide_eq_false (by omega), Bool.or_false]
theorem sS_card {n m : Nat} {f : Int → Int} (hf : ∀ k, f k = 0 ∨ f k = 1) (h : ∀ k, 0 ≤ k → k < 12 → q_in (n : Int) k ≠ 0 → f k ≠ 0) : sS (q_in (n : Int)) 12 ≤ sS f 12 := sS_le (fun i q0 q1 => by
  have := h i q0 (by omega)
  rcases hf i with x | x <;> rcases q_in_b (n : Int) i with y | y <;> omega)
/-- what the component answers -/
def q_prm (P T N : Int → Int) (s m : Int) (n : Nat) : Prop := n < 4096 ∧ (∀ k, 0 ≤ k → k < 12 → q_in (n : Int) k ≠ 0 → q_may P T N s k ≠ 0) ∧ opt (q_may P T N s) (q_bon P T N s) (q_in (n : Int)) ∧ sS (q_in (n : Int)) 12 = m
theorem q_may_is {P T N : Int → Int} {s k : Int} (h : q_may P T N s k ≠ 0) : q_is P T N s k ≠ 0 := fun h0 => h (by unfold q_may; exact if_pos h0)
theorem c_prime {t e s m : Int} {M : jM} {P T N : Int → Int} (hC : cE e M T N) (hs : 0 ≤ s ∧ s < T 1) (hw : wT t e s M P T N) (hm : 0 ≤ m ∧ m ≤ 12) :
    jT (f_X8_bestLate t m M) (fun v => ∃ n : Nat, v = (n : Int) ∧ q_prm P T N s (min m (sS (q_may P T N s) 12)) n) := by
  have hT := hC.2.1
  have hN := hC.2.2.1
  have t1 := hT.2.1
  have hs6 : 0 ≤ s ∧ s < 6 := by omega
  have tt := hT.2.2.2.2.2.2.1 s hs6.1 hs6.2
  have hOb := q_or_lt (q_is P T N s) (T (116 + s)).toNat
  have hOb2 : 2 ^ (T (116 + s)).toNat ≤ 2 ^ 12 := Nat.pow_le_pow_right (by decide) (by omega)
  unfold f_X8_bestLate
  refine t_lp2 (fun l i => 0 ≤ i ∧ i ≤ m ∧ ∃ n : Nat, l = (n : Int) ∧ q_prm P T N s i n) (fun _ i => (m - i).toNat) ?_ jfuel 0 0 (by rw [jfuel_eq]; omega) ⟨by omega, by omega, 0, rfl, by decide, fun k _ _ h => absurd (b2_f (by rw [Int.toNat_natCast, Nat.zero_testBit]; decide)) h, opt_0 (fun k => b2_f (by rw [Int.toNat_natCast, Nat.zero_testBit]; decide)), by decide⟩
  rintro self l i ⟨hi1, hi2, n, hl, n1, n2, n3, n4⟩ hself
  have hcard := sS_card (m := 0) (q_may_b P T N s) n2
  rw [pw_of (z := m) (by omega) (by omega), pw_of (z := i) (by omega) (by omega)]
  refine t_if (fun c => ?_) (fun c => ?_)
  · exact t_some ⟨n, hl, n1, n2, n3, by omega⟩
  · rw [hw.2.2.1, hl, pb_andnot (by omega)]
    have hin : ∀ k, 0 ≤ k → k < 12 → q_in ((q_or (q_is P T N s) (T (116 + s)).toNat ^^^ (q_or (q_is P T N s) (T (116 + s)).toNat &&& n) : Nat) : Int) k = if q_is P T N s k = 0 then 0 else if q_in (n : Int) k = 0 then 1 else 0 := fun k q0 q1 => by
      rw [andnot_in]
      by_cases ck : k < T (116 + s)
      · rw [q_or_in ⟨q0, ck⟩]
        rcases q_is_b P T N s k with q | q
        · rw [q, b2_f (by decide)]
        · rw [q, b2_t (by decide)]
      · have e1 : q_is P T N s k = 0 := b2_f (fun h => ck h.2.1)
        have e2 : q_in ((q_or (q_is P T N s) (T (116 + s)).toNat : Nat) : Int) k = 0 := by
          unfold q_in
          refine b2_f ?_
          rw [Int.toNat_natCast, q_or_bit, decide_eq_false (by omega), Bool.false_and]
          decide
        rw [e1, e2]
    have hav : q_or (q_is P T N s) (T (116 + s)).toNat ^^^ (q_or (q_is P T N s) (T (116 + s)).toNat &&& n) < 2 ^ 12 := Nat.xor_lt_two_pow (by omega) (Nat.and_lt_two_pow _ (by omega))
    have hsel : ∀ k, 0 ≤ k → k < 12 → ((if q_in ((q_or (q_is P T N s) (T (116 + s)).toNat ^^^ (q_or (q_is P T N s) (T (116 + s)).toNat &&& n) : Nat) : Int) k = 0 then 0 else q_may P T N s k) ≠ 0 ↔ q_may P T N s k ≠ 0 ∧ q_in (n : Int) k = 0) := fun k q0 q1 => by
      rw [hin k q0 q1]
      by_cases x : q_is P T N s k = 0
      · have : q_may P T N s k = 0 := if_pos x
        rw [if_pos x, if_pos rfl]
        omega
      · rw [if_neg x]
        by_cases y : q_in (n : Int) k = 0
        · rw [if_pos y, if_neg (by decide)]
          omega
        · rw [if_neg y, if_pos rfl]
          omega
    refine t_R (t_mono (c_great hC hs hw (l := ((q_or (q_is P T N s) (T (116 + s)).toNat ^^^ (q_or (q_is P T N s) (T (116 + s)).toNat &&& n) : Nat) : Int)) (by omega) (fun k q0 q1 q2 => by
      rw [hin k q0 q1] at q2
      intro h
      rw [if_pos h] at q2
      exact q2 rfl)) (fun g hg => ?_))
    have htail : ∀ k, T (116 + s) ≤ k → q_may P T N s k = 0 := fun k hk => if_pos (b2_f (fun h => by omega))
    rcases hg with ⟨x1, x2⟩ | ⟨x1, x2, x3, x4⟩
    · rw [pw_of (z := g) (by omega) (by omega), pw_of (z := -1) (by omega) (by omega)]
      refine t_pos x1 ?_
      refine t_some ⟨n, rfl, n1, n2, n3, ?_⟩
      have : sS (q_may P T N s) 12 ≤ sS (q_in (n : Int)) 12 := sS_le (fun k q0 q1 => by
        by_cases ck : k < T (116 + s)
        · have h1 := x2 k q0 ck
          have h2 := hsel k q0 (by omega)
          dsimp only at h1
          rcases q_may_b P T N s k with y | y <;> rcases q_in_b (n : Int) k with z | z <;> omega
        · rw [htail k (by omega)]
          rcases q_in_b (n : Int) k with z | z <;> omega)
      omega
    · rw [pw_of (z := g) (by omega) (by omega), pw_of (z := -1) (by omega) (by omega)]
      refine t_neg (by omega) ?_
      rw [or_sl (by omega) (by omega)]
      refine t_let ?_
      refine t_let ?_
      have hgs := (hsel g x1 (by omega)).1 x3
      have hor : ∀ k, 0 ≤ k → q_in ((n ||| 2 ^ g.toNat : Nat) : Int) k = if k = g then 1 else q_in (n : Int) k := fun k hk => or_in x1 hk
      have hlt : n ||| 2 ^ g.toNat < 2 ^ 12 := Nat.or_lt_two_pow (by omega) (Nat.pow_lt_pow_right (by decide) (by omega))
      -- below zero, q_in reads bit 0: the sums do not look there
      have e1 : sS (q_in ((n ||| 2 ^ g.toNat : Nat) : Int)) 12 = sS (fun k => if k = g then 1 else q_in (n : Int) k) 12 := sS_congr (fun k q0 _ => hor k q0)
      have e2 : ∀ b : Int → Int, sW b (q_in ((n ||| 2 ^ g.toNat : Nat) : Int)) = sW b (fun k => if k = g then 1 else q_in (n : Int) k) := fun b => sS_congr (fun k q0 _ => by rw [hor k q0])
      have ho : opt (q_may P T N s) (q_bon P T N s) (fun k => if k = g then 1 else q_in (n : Int) k) := opt_s (g := g) n3 (fun k => q_in_b _ k) (by omega) hgs.2 (fun x q0 q1 q2 q3 => by
        by_cases cx : x < T (116 + s)
        · exact x4 x q0 cx ((hsel x q0 q1).2 ⟨q2, q3⟩)
        · exact absurd (htail x (by omega)) q2) (if_pos rfl) (fun k hk => if_neg hk)
      refine hself _ _ ⟨by omega, by omega, _, rfl, hlt, fun k q0 q1 q2 => ?_, fun f f01 hA hc => ?_, ?_⟩ (by omega)
      · rw [hor k q0] at q2
        by_cases ck : k = g
        · rw [ck]; exact hgs.1
        · rw [if_neg ck] at q2
          exact n2 k q0 q1 q2
      · rw [e1] at hc
        rw [e2, e2]
        exact ho f f01 hA hc
      · rw [e1, sS_upd (f := q_in (n : Int)) (k := g) (fun k hk => if_neg hk) x1 (by omega), if_pos rfl, hgs.2, n4]
        omega

theorem sS_tail {f : Int → Int} {n : Int} (hn : 0 ≤ n ∧ n ≤ 12) (h : ∀ i, n ≤ i → f i = 0) : sS f 12 = sZ f n := by
  have := sS_zero (f := f) (J := n.toNat) (12 - n.toNat) (fun i hi => h i (by omega))
  rw [show n.toNat + (12 - n.toNat) = 12 from by omega] at this
  exact this
def pL (P : Int → Int) (s v : Int) : Int → Int := pS (pS P 17 s) 18 v
theorem pL_n {P : Int → Int} {s v i : Int} (h1 : i ≠ 17) (h2 : i ≠ 18) : pL P s v i = P i := by unfold pL; rw [pS_n h2, pS_n h1]
theorem pL_17 {P : Int → Int} {s v : Int} : pL P s v 17 = s := by unfold pL; rw [pS_n (by decide), pS_s]
theorem pL_18 {P : Int → Int} {s v : Int} : pL P s v 18 = v := pS_s _ _ _
theorem pL_bP {P : Int → Int} (h : bP P) {s v : Int} (hs : 0 ≤ s ∧ s < 6) (hv : 0 ≤ v ∧ v ≤ 4095) : bP (pL P s v) := by
  obtain ⟨p15, p16, p17, p18, p19, p20, p21, p22⟩ := h
  unfold bP
  rw [pL_17, pL_18, pL_n (by decide) (by decide), pL_n (by decide) (by decide), pL_n (by decide) (by decide), pL_n (by decide) (by decide), pL_n (by decide) (by decide), pL_n (by decide) (by decide)]
  exact ⟨p15, p16, by omega, hv, p19, p20, p21, p22⟩
theorem r_pts {P T N : Int → Int} (hT : bT T) {s : Int} (hs : 0 ≤ s ∧ s < 6) {n : Nat} (hn : n < 4096) (h : ∀ k, 0 ≤ k → k < 12 → q_in (n : Int) k ≠ 0 → q_may P T N s k ≠ 0) : q_points (pL P s (n : Int)) T N s = sZ (fun k => if q_is P T N s k = 0 then 0 else q_plain P T N s k + q_gain P T N s k) (T (116 + s)) + sW (q_bon P T N s) (q_in (n : Int)) := by
  have tt := hT.2.2.2.2.2.2.1 s hs.1 hs.2
  have e16 : pL P s (n : Int) 16 = P 16 := pL_n (by decide) (by decide)
  have e22 : pL P s (n : Int) 22 = P 22 := pL_n (by decide) (by decide)
  have hw : sW (q_bon P T N s) (q_in (n : Int)) = sZ (fun k => if q_in (n : Int) k = 0 then 0 else q_bon P T N s k) (T (116 + s)) := by
    refine sS_tail (by omega) (fun i hi => if_pos ?_)
    by_cases ci : i < 12
    · rcases q_in_b (n : Int) i with q | q
      · exact q
      · have := q_is_k (q_may_is (h i (by omega) ci (by omega)))
        omega
    · exact q_in_hi (J := 12) (by omega) (by omega)
  rw [hw, ← sZ_add]
  unfold q_points
  refine sZ_congr (fun k q0 q1 => ?_)
  unfold q_ptsAt q_worth q_late
  rw [h_is T N e16, h_plain T N e16 e22, h_gain T N e16 (pL_n (by decide) (by decide)) (pL_n (by decide) (by decide)) (pL_n (by decide) (by decide)) (pL_n (by decide) (by decide)), pL_17, pL_18, if_pos rfl]
  have hm := h k q0 (by omega)
  by_cases c1 : q_is P T N s k = 0
  · have hm0 : q_may P T N s k = 0 := if_pos c1
    rw [if_pos c1, if_pos c1]
    by_cases c2 : q_in (n : Int) k = 0
    · rw [if_pos c2]
      rfl
    · exact absurd hm0 (hm c2)
  · rw [if_neg c1, if_neg c1]
    by_cases c2 : q_in (n : Int) k = 0
    · rw [if_pos c2, if_pos c2]
      omega
    · rw [if_neg c2, if_neg c2]
      unfold q_bon
      omega
theorem andnot_0 {n m : Nat} (hn : n < 4096) : n ^^^ (n &&& m) = 0 ↔ ∀ k : Int, 0 ≤ k → k < 12 → q_in (n : Int) k ≠ 0 → q_in (m : Int) k ≠ 0 := by
  constructor
  · intro h k q0 q1 q2 q3
    have := andnot_in (n := n) (m := m) (k := k)
    rw [h, if_neg q2, if_pos q3] at this
    have h0 : q_in ((0 : Nat) : Int) k = 0 := b2_f (by rw [Int.toNat_natCast, Nat.zero_testBit]; decide)
    omega
  · intro h
    apply Nat.eq_of_testBit_eq
    intro i
    rw [Nat.zero_testBit, Nat.testBit_xor, Nat.testBit_and]
    cases hb : n.testBit i
    · rfl
    · have hi : i < 12 := by
        rcases Nat.lt_or_ge i 12 with x | x
        · exact x
        · rw [Nat.testBit_lt_two_pow (Nat.lt_of_lt_of_le hn (Nat.pow_le_pow_right (n := 2) (i := 12) (j := i) (by decide) x))] at hb
          exact absurd hb (by decide)
      have h1 := h (i : Int) (by omega) (by omega)
      unfold q_in at h1
      rw [Int.toNat_natCast, Int.toNat_natCast, Int.toNat_natCast, hb, b2_t rfl] at h1
      cases hc : m.testBit i
      · rw [hc] at h1
        exact absurd (b2_f (by decide)) (h1 (by decide))
      · rfl

theorem or_0 {n : Nat} (hn : n < 2147483648) : jor (n : Int) 0 = (n : Int) := by
  have := pb_or (n := n) (m := 0) hn (by decide)
  rw [Nat.or_zero] at this
  exact this
theorem q_may_or {P T N : Int → Int} (hT : bT T) {s : Int} (hs : 0 ≤ s ∧ s < 6) : ∀ k, 0 ≤ k → q_in ((q_or (q_may P T N s) (T (116 + s)).toNat : Nat) : Int) k = q_may P T N s k := fun k hk => by
  have tt := hT.2.2.2.2.2.2.1 s hs.1 hs.2
  by_cases c : k < T (116 + s)
  · rw [q_or_in ⟨hk, c⟩]
    rcases q_may_b P T N s k with q | q
    · rw [q]; exact b2_f (by decide)
    · rw [q]; exact b2_t (by decide)
  · have e1 : q_may P T N s k = 0 := if_pos (b2_f (fun h => c h.2.1))
    rw [e1]
    exact q_in_hi (J := (T (116 + s)).toNat) (q_or_lt _ _) (by omega)
set_option maxHeartbeats 2000000 in
theorem z_35 {M : jM} (hI : Inv M) {a1 a2 : Int} (j1 : jin a1) (j2 : jin a2) : jT (s_35 a1 a2 M) Inv := by
  obtain ⟨hC, hT, hN, hP, hR, hQ, hcP⟩ := inv_ctx hI
  have t0 := hT.1
  have t1 := hT.2.1
  have t2 := hT.2.2.1
  have t3 := hT.2.2.2.1
  have he := hC.1
  have hb2 := jin_b j2
  unfold s_35
  by_cases c1 : 0 ≤ a1 ∧ a1 < M 169 1
  · by_cases c2 : 0 ≤ a2 ∧ a2 ≤ 12
    · have hs6 : 0 ≤ a1 ∧ a1 < 6 := by omega
      have tt := hT.2.2.2.2.2.2.1 a1 hs6.1 hs6.2
      obtain ⟨⟨u0, M4⟩, e4, u1, u2, u3, u4⟩ := c_tallied hC rfl hQ c1
      dsimp only at u1 u2 u3 u4
      obtain ⟨v, e5, n, hv, n1, n2, n3, n4⟩ := c_prime (cE_fr hC u2) c1 u3 c2
      refine stQ hI (code := 0) (val := (n : Int)) (by omega) (fun _ => by omega) ?_ (fun M3 h8 => ?_)
      · unfold w_prime f_X9_prime
        rw [c_wSk0 hC rfl c1, eR, if_pos rfl, eK, pw_of hb2.1 hb2.2, if_neg (by omega), pw_of (z := 12) (by omega) (by omega), if_pos c2.2, e4, eW, u1, eC (ln_t (by omega)).2.2, e5, eR, eT3, if_pos rfl]
        exact wQ0 hv (by omega) (fr8_7 he u2)
      · obtain ⟨r6, r9, r0⟩ := ref_A h8
        obtain ⟨b9, b0, b6⟩ := ref_B hP h8
        unfold f_X10_prime
        refine t_let ?_
        refine t_Ve (e_all (by rw [b9]; exact hT)) ?_
        refine t_We (e_noSk0 (by rw [r9]; exact hT) (by rw [r9]; exact c1)) (t_pos (by decide) ?_)
        refine t_Re (e_in hb2 (by omega) (by omega)) ?_
        refine t_k ?_
        rw [b2_t c2]
        refine t_neg (by decide) ?_
        refine t_We (e_thr0 _ _) (t_pos (by decide) ?_)
        refine t_lp2 (fun l k => 0 ≤ k ∧ k ≤ M 169 (116 + a1) ∧ l = ((q_or (q_may (P0 M) (M 169) (M 170) a1) k.toNat : Nat) : Int)) (fun _ k => (M 169 (116 + a1) - k).toNat) ?_ jfuel 0 0 (by rw [jfuel_eq]; omega) ⟨by omega, by omega, rfl⟩
        rintro self l k ⟨hk1, hk2, hl⟩ hself
        have hlt := q_or_lt (q_may (P0 M) (M 169) (M 170) a1) k.toNat
        have hlt2 : 2 ^ k.toNat ≤ 2 ^ 12 := Nat.pow_le_pow_right (by decide) (by omega)
        rw [r9, pw_of (z := 116 + a1) (by omega) (by omega), pw_of (z := M 169 (116 + a1)) (by omega) (by omega), pw_of (z := k) (by omega) (by omega)]
        refine t_ck (by omega) ?_
        refine t_if (fun c => ?_) (fun c => ?_)
        · have ek : k = M 169 (116 + a1) := by omega
          subst ek
          have hmo := q_may_or (P := P0 M) (N := M 170) hT hs6
          generalize hA : q_or (q_may (P0 M) (M 169) (M 170) a1) (M 169 (116 + a1)).toNat = A at hl hlt hmo
          subst hl
          have hcA : sS (q_in (A : Int)) 12 = sS (q_may (P0 M) (M 169) (M 170) a1) 12 := sS_congr (fun i q0 _ => hmo i q0)
          have hbA := bits_b (A : Int)
          refine t_Re (e_bits (by omega)) ?_
          refine t_Re (e_min (by omega) (by omega)) ?_
          refine t_let ?_
          have hnA : n ≤ A := by
            have h1 := (andnot_0 (m := A) n1).2 (fun k q0 q1 q2 => by rw [hmo k q0]; exact n2 k q0 q1 q2)
            have h2 : n &&& A = n := by
              apply Nat.eq_of_testBit_eq
              intro i
              have := congrArg (fun z => Nat.testBit z i) h1
              rw [Nat.zero_testBit, Nat.testBit_xor, Nat.testBit_and] at this
              rw [Nat.testBit_and]
              cases hx : n.testBit i <;> cases hy : A.testBit i <;> rw [hx, hy] at this <;> first | rfl | exact absurd this (by decide)
            have h3 := Nat.and_le_right (n := n) (m := A)
            omega
          have hpt := fun (m : Nat) (hm : m < 4096) h => r_pts (P := P0 M) (N := M 170) hT hs6 (n := m) hm h
          have hptn := hpt n n1 n2
          have p18 := hQ.1.2.2.2.1
          have hbPn : ∀ v : Int, 0 ≤ v → v ≤ 4095 → bP (pL (P0 M) a1 v) := fun v h0 h1 => pL_bP hcP.1 hs6 ⟨h0, h1⟩
          have hbJn : ∀ v : Int, bJ (pL (P0 M) a1 v) (M 169) := fun v => by
            have := hcP.2.1
            unfold bJ
            rw [pL_n (by decide) (by decide)]
            exact this
          have hpbn := q_points_b (hbPn (n : Int) (by omega) (by omega)) hT hN (hbJn _) hs6
          refine t_lp4 (fun best pts v M5 => 0 ≤ v ∧ v ≤ (A : Int) + 1 ∧ frX M3 M5 ∧ M5 166 0 = 0 ∧ (∃ w, (0 ≤ w ∧ w ≤ 4095) ∧ M5 166 = pL (P0 M) a1 w) ∧ M5 169 = M 169 ∧ M5 170 = M 170 ∧ (v ≤ n → best = -1 ∨ ((0 ≤ best ∧ best < 4096) ∧ -12000 ≤ pts ∧ pts < q_points (pL (P0 M) a1 (n : Int)) (M 169) (M 170) a1)) ∧ ((n : Int) < v → best = (n : Int) ∧ pts = q_points (pL (P0 M) a1 (n : Int)) (M 169) (M 170) a1)) (fun _ _ v _ => ((A : Int) + 1 - v).toNat) ?_ jfuel (-1) 0 0 _ (by rw [jfuel_eq]; omega) ⟨by omega, by omega, frX_j (frX_0A M3) (by decide), by rw [pst_i (by decide)]; exact mA_0 M3, ⟨P0 M 18, p18, by
            rw [pS_jst r6]
            unfold pL
            have : pS (P0 M) 17 a1 18 = P0 M 18 := pS_n (by decide)
            rw [← this, pS_self]⟩, by rw [pst_f (by decide)]; exact r9, by rw [pst_f (by decide)]; exact r0, fun _ => Or.inl rfl, fun h => by omega⟩
          rintro self2 best pts v M5 ⟨hv1, hv2, hx, hx0, ⟨w, hwb, hw⟩, f9, f0, hlo, hhi⟩ hself2
          have hbb : -1 ≤ best ∧ best < 4096 := by
            by_cases q : v ≤ (n : Int)
            · rcases hlo q with h | h <;> omega
            · have := hhi (by omega); omega
          have hpb : best ≠ -1 → -12000 ≤ pts ∧ pts ≤ 120000 := fun h => by
            by_cases q : v ≤ (n : Int)
            · rcases hlo q with h | h <;> omega
            · have := hhi (by omega); omega
          rw [pw_of (z := (A : Int)) (by omega) (by omega), pw_of (z := v) (by omega) (by omega)]
          refine t_if (fun c3 => ?_) (fun c3 => ?_)
          · exact rQ hx0 (fun _ => (hhi (by omega)).1) hx (by rw [hw]; exact hbPn w hwb.1 hwb.2)
          · obtain ⟨m, hm⟩ := Int.eq_ofNat_of_zero_le hv1
            subst hm
            have m1 : m < 4096 := by omega
            have hxl : m ^^^ (m &&& A) < 2 ^ 12 := Nat.xor_lt_two_pow (by omega) (Nat.lt_of_le_of_lt (Nat.and_le_left (n := m) (m := A)) (by omega))
            rw [pb_andnot (by omega), pw_of (z := ((m ^^^ (m &&& A) : Nat) : Int)) (by omega) (by omega)]
            have hsub := andnot_0 (m := A) m1
            have hcn : sS (q_in (n : Int)) 12 = min a2 (sS (q_in (A : Int)) 12) := by rw [n4, hcA]
            refine t_if (fun c4 => ?_) (fun c4 => ?_)
            · have hsm : ∀ k, 0 ≤ k → k < 12 → q_in (m : Int) k ≠ 0 → q_may (P0 M) (M 169) (M 170) a1 k ≠ 0 := fun k q0 q1 q2 => by
                rw [← hmo k q0]
                exact hsub.1 (by omega) k q0 q1 q2
              have hmb := bits_b (m : Int)
              refine t_Re (e_bits (by omega)) ?_
              rw [pw_of (z := sS (q_in (m : Int)) 12) (by omega) (by omega), pw_of (z := min a2 (sS (q_in (A : Int)) 12)) (by omega) (by omega)]
              refine t_if (fun c5 => ?_) (fun c5 => ?_)
              · refine t_let ?_
                have x6 : jst M5 166 18 (m : Int) 166 = pL (P0 M) a1 (m : Int) := by
                  rw [pS_jst hw]
                  unfold pL
                  rw [pS_pS]
                have x9 : jst M5 166 18 (m : Int) 169 = M 169 := by rw [pst_f (by decide)]; exact f9
                have x0 : jst M5 166 18 (m : Int) 170 = M 170 := by rw [pst_f (by decide)]; exact f0
                refine t_W (t_mono (e_points (M := jst M5 166 18 (m : Int)) (s := a1) (by rw [x6]; exact hbPn _ (by omega) (by omega)) (by rw [x9]; exact hT) (by rw [x0]; exact hN) (by rw [x6, x9]; exact hbJn _) hs6) (fun p hp => ?_))
                obtain ⟨g1, g2⟩ := hp
                rw [x6, x9, x0] at g1
                have hptm := hpt m m1 hsm
                have ho := n3 (q_in (m : Int)) (fun k => q_in_b _ k) hsm (by omega)
                rw [q_val m1, q_val n1] at ho
                have hpbm := q_points_b (hbPn (m : Int) (by omega) (by omega)) hT hN (hbJn _) hs6
                rw [← g1] at hptm hpbm
                have y1 : frX M3 p.2 := frX_t (frX_j hx (by decide)) (frX_3 g2)
                have y6 : p.2 166 = pL (P0 M) a1 (m : Int) := by rw [g2 166 (by decide)]; exact x6
                have y2 : p.2 166 0 = 0 := by rw [g2 166 (by decide), pst_i (by decide)]; exact hx0
                have y9 : p.2 169 = M 169 := by rw [g2 169 (by decide)]; exact x9
                have y0 : p.2 170 = M 170 := by rw [g2 170 (by decide)]; exact x0
                have same : m = n → p.1 = q_points (pL (P0 M) a1 (n : Int)) (M 169) (M 170) a1 := fun q => by rw [g1, q]
                refine t_k ?_
                rw [pw_of (z := best) (by omega) (by omega), pw_of (z := -1) (by omega) (by omega)]
                refine t_if (fun c6 => ?_) (fun c6 => ?_)
                · refine t_let ?_
                  refine hself2 _ _ _ _ ⟨by omega, by omega, y1, y2, ⟨(m : Int), by omega, y6⟩, y9, y0, fun q => Or.inr ⟨by omega, by omega, ?_⟩, fun q => ?_⟩ (by omega)
                  · by_cases z : p.1 = q_points (pL (P0 M) a1 (n : Int)) (M 169) (M 170) a1
                    · have := ho.2 (by omega)
                      omega
                    · omega
                  · have hmn : m = n := by
                      rcases Nat.lt_or_ge n m with z | z
                      · have := hhi (by omega)
                        omega
                      · omega
                    exact ⟨by omega, same hmn⟩
                · have hpb' := hpb c6
                  rw [pw_of (z := pts) (by omega) (by omega), pw_of (z := p.1) (by omega) (by omega)]
                  refine t_if (fun c7 => ?_) (fun c7 => ?_)
                  · refine t_let ?_
                    refine hself2 _ _ _ _ ⟨by omega, by omega, y1, y2, ⟨(m : Int), by omega, y6⟩, y9, y0, fun q => Or.inr ⟨by omega, by omega, ?_⟩, fun q => ?_⟩ (by omega)
                    · by_cases z : p.1 = q_points (pL (P0 M) a1 (n : Int)) (M 169) (M 170) a1
                      · have := ho.2 (by omega)
                        omega
                      · omega
                    · have hmn : m = n := by
                        rcases Nat.lt_or_ge n m with z | z
                        · have := hhi (by omega)
                          omega
                        · omega
                      exact ⟨by omega, same hmn⟩
                  · refine t_let ?_
                    refine hself2 _ _ _ _ ⟨by omega, by omega, y1, y2, ⟨(m : Int), by omega, y6⟩, y9, y0, fun q => hlo (by omega), fun q => ?_⟩ (by omega)
                    by_cases z : (n : Int) < (m : Int)
                    · exact hhi z
                    · have hmn : m = n := by omega
                      have := same hmn
                      rcases hlo (by omega) with h | h <;> omega
              · refine t_let ?_
                refine hself2 _ _ _ _ ⟨by omega, by omega, hx, hx0, ⟨w, hwb, hw⟩, f9, f0, fun q => hlo (by omega), fun q => ?_⟩ (by omega)
                refine hhi ?_
                rcases Nat.lt_or_ge n m with z | z
                · omega
                · have hmn : m = n := by omega
                  rw [hmn] at c5
                  exact absurd hcn c5
            · refine t_let ?_
              refine hself2 _ _ _ _ ⟨by omega, by omega, hx, hx0, ⟨w, hwb, hw⟩, f9, f0, fun q => hlo (by omega), fun q => ?_⟩ (by omega)
              refine hhi ?_
              rcases Nat.lt_or_ge n m with z | z
              · omega
              · have hmn : m = n := by omega
                subst hmn
                have := hsub.2 (fun k q0 q1 q2 => by rw [hmo k q0]; exact n2 k q0 q1 q2)
                omega
        · have hos := q_or_s (f := q_may (P0 M) (M 169) (M 170) a1) hk1
          refine t_Re (e_is (by rw [r6]; exact hcP.1) (by rw [r9]; exact hT) (by rw [r0]; exact hN) hs6 (by omega)) ?_
          rw [r6, r9, r0]
          refine t_k ?_
          refine t_k ?_
          rcases q_is_b (P0 M) (M 169) (M 170) a1 k with q | q
          · rw [q]
            refine t_pos (by decide) ?_
            refine t_let ?_
            refine t_let ?_
            have hm0 : q_may (P0 M) (M 169) (M 170) a1 k = 0 := if_pos q
            rw [hl, or_0 (by omega)]
            exact hself _ _ ⟨by omega, by omega, by rw [hos, if_pos hm0]⟩ (by omega)
          · rw [q]
            refine t_neg (by decide) ?_
            have heb := q_el_b hT (s := a1) (k := k) (i := 0) hs6 (by omega) (by omega)
            refine t_Re (e_el hs6 (by omega) (by omega)) ?_
            rw [r9]
            refine t_Re (e_isJump (by rw [r9]; exact hT) (by omega)) ?_
            rw [r9]
            have hm0 : q_may (P0 M) (M 169) (M 170) a1 k = q_jump (M 169) (q_el (M 169) a1 k 0) := if_neg (by omega)
            have hj01 : q_jump (M 169) (q_el (M 169) a1 k 0) = 0 ∨ q_jump (M 169) (q_el (M 169) a1 k 0) = 1 := b2_01 _
            rcases hj01 with qj | qj
            · rw [qj]
              refine t_pos (by decide) ?_
              refine t_let ?_
              refine t_let ?_
              rw [hl, or_0 (by omega)]
              exact hself _ _ ⟨by omega, by omega, by rw [hos, if_pos (by omega)]⟩ (by omega)
            · rw [qj]
              refine t_neg (by decide) ?_
              refine t_let ?_
              refine t_let ?_
              rw [hl, or_sl (by omega) (by omega)]
              exact hself _ _ ⟨by omega, by omega, by rw [hos, if_neg (by omega)]⟩ (by omega)
    · refine stQ hI (code := 2) (val := 0) (by omega) (fun h => by omega) ?_ (fun M3 h8 => ?_)
      · unfold w_prime f_X9_prime
        rw [c_wSk0 hC rfl c1, eR, if_pos rfl, eK, pw_of hb2.1 hb2.2, pw_of (z := 12) (by omega) (by omega)]
        by_cases c3 : a2 < 0
        · rw [if_pos c3, eT3, if_neg (by decide), if_neg (by decide), if_pos rfl]
          exact wQ1 (by decide) (fr8_r M)
        · rw [if_neg c3, if_neg (by omega), eT3, if_neg (by decide), if_neg (by decide), if_pos rfl]
          exact wQ1 (by decide) (fr8_r M)
      · obtain ⟨r6, r9, r0⟩ := ref_A h8
        obtain ⟨b9, b0, b6⟩ := ref_B hP h8
        unfold f_X10_prime
        refine t_let ?_
        refine t_Ve (e_all (by rw [b9]; exact hT)) ?_
        refine t_We (e_noSk0 (by rw [r9]; exact hT) (by rw [r9]; exact c1)) (t_pos (by decide) ?_)
        refine t_Re (e_in hb2 (by omega) (by omega)) ?_
        refine t_k ?_
        rw [b2_f c2]
        refine t_pos (by decide) ?_
        refine t_We (e_thr1 _ _) (t_neg (by decide) ?_)
        exact rQt (by decide) (frX_0A M3) (by rw [r6]; exact hcP.1)
  · refine stQ hI (code := 1) (val := 0) (by omega) (fun h => by omega) ?_ (fun M3 h8 => ?_)
    · unfold w_prime f_X9_prime
      rw [c_wSk1 hC rfl j1 c1, eR, if_neg (by decide), eT3, if_neg (by decide), if_pos rfl]
      exact wQ1 (by decide) (fr8_r M)
    · obtain ⟨r6, r9, r0⟩ := ref_A h8
      obtain ⟨b9, b0, b6⟩ := ref_B hP h8
      unfold f_X10_prime
      refine t_let ?_
      refine t_Ve (e_all (by rw [b9]; exact hT)) ?_
      refine t_We (e_noSk1 (by rw [r9]; exact hT) (jin_b j1) (by rw [r9]; exact c1)) (t_neg (by decide) ?_)
      exact rQt (by decide) (frX_0A M3) (by rw [r6]; exact hcP.1)
