/-! ===== the program's event, held against the reference's rows ===== -/
theorem kd_e {e : Int} (h : e = 3 ∨ e = 56) : jkd e = 1 := by
  rcases h with h | h <;> subst h <;> decide +kernel
theorem kd_g0 : ∀ s, s < 6 → jkd (3 + 16 + 1 + 6 * ((s : Nat) : Int)) = 6 ∧ jkd (56 + 16 + 1 + 6 * ((s : Nat) : Int)) = 6 := by decide +kernel
theorem kd_g {e s : Int} (h : e = 3 ∨ e = 56) (hs : 0 ≤ s ∧ s < 6) : jkd (e + 16 + 1 + 6 * s) = 6 := by
  have := kd_g0 s.toNat (by omega)
  rw [← pn_nat hs.1] at this
  rcases h with h | h <;> subst h
  · exact this.1
  · exact this.2
def ctr (v : Int) : Int := if v ≤ 9999 then v else if 10020 ≤ v then v - 20 else 10000 - v
/-- names: letters and lengths against rows of six letters -/
def rNm (L Z T : Int → Int) (base n : Int) : Prop := ∀ i, 0 ≤ i → i < n → (1 ≤ Z i ∧ Z i ≤ 6) ∧ ∀ k, 0 ≤ k → k < 6 → (k < Z i → 97 ≤ L (6 * i + k) ∧ L (6 * i + k) ≤ 122) ∧ T (base + 6 * i + k) = if k < Z i then L (6 * i + k) else 0
/-- a skater's rows at g -/
def rSk (g : Int) (M : jM) (T N : Int → Int) (s : Int) : Prop := M g 0 = T (116 + s) ∧ M g 1 = ((q_or (fun k => N (882 + (12 * s + k))) (T (116 + s)).toNat : Nat) : Int) ∧ M g 2 = T (110 + s)
  ∧ (∀ k, 0 ≤ k → k < T (116 + s) → M (g + 1) k = T (122 + (12 * s + k)) ∧ M (g + 2) k = T (194 + (12 * s + k)) ∧ (∀ i, 0 ≤ i → i < T (194 + (12 * s + k)) → M (g + 3) (k * 3 + i) = T (266 + 3 * (12 * s + k) + i)) ∧ M (g + 4) k = N (810 + (12 * s + k)) ∧ ∀ j, 0 ≤ j → j < T 2 → M (g + 5) (k * 9 + j) = N (9 * (12 * s + k) + j))
  ∧ ∀ c j, 0 ≤ c → c < 3 → 0 ≤ j → j < T 2 → M (g + 5) ((12 + c) * 9 + j) = N (648 + 9 * (3 * s + c) + j)
/-- a rule's codes -/
def rRl (e : Int) (M : jM) (T : Int → Int) (r : Int) : Prop := ∃ n1 n2 : Nat, 0 ≤ M (e + 9) r ∧ M (e + 10) r = M (e + 9) r + n1 ∧ M (e + 11) r = M (e + 9) r + n1 + n2 ∧ M (e + 9) r + n1 + n2 ≤ 600 ∧ 0 ≤ T (482 + r) ∧ T (482 + r + 1) ≤ 600
  ∧ (∀ i : Int, 0 ≤ i → i < n1 + n2 → M (e + 8) (M (e + 9) r + i) = ctr (T (489 + T (482 + r) + i)) ∧ T (489 + T (482 + r) + i) ≠ 10009)
  ∧ okc 14 (la T (489 + T (482 + r)) n1) [] [true]
  ∧ (n2 = 0 ∧ T (482 + r + 1) = T (482 + r) + n1 ∨ 0 < n2 ∧ okc 14 (la T (489 + T (482 + r) + n1) n2) [] [false] ∧ T (489 + T (482 + r) + n1 + n2) = 10009 ∧ T (482 + r + 1) = T (482 + r) + n1 + n2 + 1)
/-- what is told is whole: elements stand ahead -/
def bL (T : Int → Int) : Prop := ∀ s k, 0 ≤ s → s < T 1 → 0 ≤ k → k < T (116 + s) → 1 ≤ T (194 + (12 * s + k)) ∧ ∀ i, 0 ≤ i → i < T (194 + (12 * s + k)) → T (266 + 3 * (12 * s + k) + i) < T 0
def rE (e : Int) (M : jM) (T N : Int → Int) : Prop := M e 0 = T 2 ∧ (∀ i, 0 ≤ i → i < 7 → M (e + 1) i = N (964 + i)) ∧ M (e + 2) 3 = T 0 ∧ M (e + 13) 3 = T 1 ∧ M (e + 7) 0 = T 3
  ∧ rNm (M (e + 3)) (M (e + 4)) T 14 (T 0) ∧ rNm (M (e + 14)) (M (e + 15)) T 74 (T 1)
  ∧ (∀ i, 0 ≤ i → i < T 0 → M (e + 5) i = N (954 + i) ∧ M (e + 6) i = T (4 + i))
  ∧ (∀ r, 0 ≤ r → r < T 3 → rRl e M T r)
  ∧ ∀ s, 0 ≤ s → s < T 1 → rSk (e + 16 + 1 + 6 * s) M T N s
theorem rSk_fr {g : Int} {M M' : jM} {T N : Int → Int} {s : Int} (h : rSk g M T N s) (hf : ∀ a, g ≤ a → a ≤ g + 5 → M' a = M a) : rSk g M' T N s := by
  unfold rSk
  rw [hf g (by omega) (by omega), hf (g + 1) (by omega) (by omega), hf (g + 2) (by omega) (by omega), hf (g + 3) (by omega) (by omega), hf (g + 4) (by omega) (by omega), hf (g + 5) (by omega) (by omega)]
  exact h
theorem rRl_fr {e : Int} {M M' : jM} {T : Int → Int} {r : Int} (h : rRl e M T r) (hf : ∀ a, e + 8 ≤ a → a ≤ e + 11 → M' a = M a) : rRl e M' T r := by
  unfold rRl
  rw [hf (e + 8) (by omega) (by omega), hf (e + 9) (by omega) (by omega), hf (e + 10) (by omega) (by omega), hf (e + 11) (by omega) (by omega)]
  exact h
theorem rE_fr {e : Int} {M M' : jM} {T N : Int → Int} (hT1 : T 1 ≤ 6) (h : rE e M T N) (hf : ∀ a, e ≤ a → a ≤ e + 52 → a ≠ e + 12 → M' a = M a) : rE e M' T N := by
  unfold rE
  rw [hf e (by omega) (by omega) (by omega), hf (e + 1) (by omega) (by omega) (by omega), hf (e + 2) (by omega) (by omega) (by omega), hf (e + 3) (by omega) (by omega) (by omega), hf (e + 4) (by omega) (by omega) (by omega), hf (e + 5) (by omega) (by omega) (by omega), hf (e + 6) (by omega) (by omega) (by omega), hf (e + 7) (by omega) (by omega) (by omega), hf (e + 13) (by omega) (by omega) (by omega), hf (e + 14) (by omega) (by omega) (by omega), hf (e + 15) (by omega) (by omega) (by omega)]
  obtain ⟨h1, h2, h3, h4, h5, h6, h7, h8, h9, h10⟩ := h
  exact ⟨h1, h2, h3, h4, h5, h6, h7, h8, fun r h0 h1 => rRl_fr (h9 r h0 h1) (fun a q1 q2 => hf a (by omega) (by omega) (by omega)), fun s h0 h1 => rSk_fr (h10 s h0 h1) (fun a q1 q2 => hf a (by omega) (by omega) (by omega))⟩
theorem la_cons (f : Int → Int) (a : Int) (n : Nat) : la f a (n + 1) = f a :: la f (a + 1) n := rfl
theorem bR_of {e : Int} {M : jM} {T : Int → Int} (h : ∀ r, 0 ≤ r → r < T 3 → rRl e M T r) : bR T := by
  intro r h0 h1
  obtain ⟨n1, n2, q1, q2, q3, q4, q5, q6, q7, q8, q9⟩ := h r h0 h1
  rcases q9 with ⟨c1, c2⟩ | ⟨c1, c2, c3, c4⟩
  · refine ⟨q5, by omega, q6, ?_⟩
    rw [show (T (482 + r + 1) - T (482 + r)).toNat = n1 from by omega]
    have := okc_base (d := 14) (e := 16) (u := []) (by decide) q8
    rwa [List.append_nil, List.append_nil] at this
  · refine ⟨q5, by omega, q6, ?_⟩
    rw [show (T (482 + r + 1) - T (482 + r)).toNat = n1 + (n2 + 1) from by omega, la_app, la_snoc]
    have x1 := okc_base (d := 14) (e := 16) (u := []) (by decide) q8
    rw [List.append_nil, List.append_nil] at x1
    refine okc_app x1 (okc_app (s1 := [false] ++ [true]) (okc_base (d := 14) (e := 16) (u := [true]) (by decide) c2) ?_)
    rw [c3]
    exact ⟨[true], rfl, by decide, rfl⟩
/-- a skater has an attempt, by the program -/
theorem c_has {g s k : Int} {M : jM} {T N : Int → Int} (hT : bT T) (hN : bN N) (hs : 0 ≤ s ∧ s < 6) (h : rSk g M T N s) (hk : -2147483648 ≤ k ∧ k ≤ 2147483647) : f_X6_has g k M = some (b2 (0 ≤ k ∧ k < T (116 + s) ∧ N (882 + (12 * s + k)) = 0)) := by
  have t1 := hT.2.2.2.2.2.2.1 s hs.1 hs.2
  unfold f_X6_has
  rw [h.1, h.2.1, pw_of hk.1 hk.2, pw_of (z := T (116 + s)) (by omega) (by omega)]
  by_cases c1 : k < 0
  · rw [if_pos c1, b2_f (by omega)]
  · rw [if_neg c1]
    by_cases c2 : T (116 + s) ≤ k
    · rw [if_pos c2, b2_f (by omega)]
    · have hlt := q_or_lt (fun k => N (882 + (12 * s + k))) (T (116 + s)).toNat
      have h12 : 2 ^ (T (116 + s)).toNat ≤ 2 ^ 12 := Nat.pow_le_pow_right (by decide) (by omega)
      rw [if_neg c2, e_bit (by omega) (by omega)]
      have hb : q_in ((q_or (fun k => N (882 + (12 * s + k))) (T (116 + s)).toNat : Nat) : Int) k = b2 (N (882 + (12 * s + k)) ≠ 0) := by
        unfold q_in
        rw [Int.toNat_natCast, q_or_bit]
        apply b2_congr
        rw [← pn_nat (z := k) (by omega)]
        simp
        intro _
        omega
      rw [hb]
      by_cases c3 : N (882 + (12 * s + k)) = 0
      · rw [b2_f (fun q => q c3), b2_t ⟨by omega, by omega, c3⟩]; rfl
      · rw [b2_t c3, b2_f (by omega)]; rfl
