/-! ===== the reference's trimmed mean ===== -/
def q_tr (drop : Int) (l : List Int) : Int := trS drop (l.mergeSort (fun a b => decide (a ≤ b)))
theorem q_tr_of {drop : Int} {S l : List Int} (hS : Srt S) (hp : S.Perm l) : trS drop S = q_tr drop l := by
  unfold q_tr
  have h1 : (l.mergeSort (fun a b => decide (a ≤ b))).Pairwise (fun a b => decide (a ≤ b) = true) :=
    List.pairwise_mergeSort (le := fun a b : Int => decide (a ≤ b)) (fun a b c h1 h2 => by simp at *; omega) (fun a b => by simp; omega) l
  have h2 : Srt (l.mergeSort (fun a b => decide (a ≤ b))) := h1.imp (fun h => by simpa using h)
  rw [srt_uniq hS h2 (hp.trans (List.mergeSort_perm l _).symm)]
theorem q_tr_perm {drop : Int} {l m : List Int} (h : l.Perm m) : q_tr drop l = q_tr drop m := by
  have h1 : (l.mergeSort (fun a b => decide (a ≤ b))).Pairwise (fun a b => decide (a ≤ b) = true) :=
    List.pairwise_mergeSort (le := fun a b : Int => decide (a ≤ b)) (fun a b c h1 h2 => by simp at *; omega) (fun a b => by simp; omega) l
  have h2 : Srt (l.mergeSort (fun a b => decide (a ≤ b))) := h1.imp (fun h => by simpa using h)
  rw [← q_tr_of h2 ((List.mergeSort_perm l _).trans h)]
  rfl
theorem la_drop (f : Int → Int) {d n : Nat} (h : d ≤ n) (a : Int) : (la f a n).drop d = la f (a + d) (n - d) := by
  have := la_app f d (n - d) a
  rw [Nat.add_sub_cancel' h] at this
  rw [this, List.drop_append_of_le_length (by rw [la_len]; omega), List.drop_eq_nil_of_le (by rw [la_len]; omega), List.nil_append]
theorem la_take (f : Int → Int) {d n : Nat} (h : d ≤ n) (a : Int) : (la f a n).take d = la f a d := by
  have := la_app f d (n - d) a
  rw [Nat.add_sub_cancel' h] at this
  rw [this, List.take_append_of_le_length (by rw [la_len]; omega), List.take_of_length_le (by rw [la_len]; omega)]
theorem la_mid (f : Int → Int) {d m n : Nat} (h : d + m ≤ n) (a : Int) : mid d m (la f a n) = (la f (a + d) m).sum := by
  unfold mid
  rw [la_drop f (by omega), la_take f (by omega)]
theorem la_sum_b {f : Int → Int} {lo hi : Int} {n : Nat} {a : Int} (h : ∀ i, a ≤ i → i < a + n → lo ≤ f i ∧ f i ≤ hi) : lo * n ≤ (la f a n).sum ∧ (la f a n).sum ≤ hi * n := by
  have := mid_le (d := 0) (m := n) (l := la f a n) (lo := lo) (hi := hi) (fun x hx => by
    obtain ⟨i, h1, h2, h3⟩ := la_mem.mp hx
    rw [← h3]
    exact h i h1 h2) (by rw [la_len]; omega)
  rwa [la_mid f (by omega), show a + ((0 : Nat) : Int) = a from by omega] at this
theorem tdiv2 {a : Int} (h : 0 ≤ a) : (a).tdiv 2 = a / 2 := Int.tdiv_eq_ediv_of_nonneg h
set_option maxHeartbeats 1000000 in
theorem e_trimmed {M : jM} {n : Int} (hN : bN (M 170)) (hn : 1 ≤ n ∧ n ≤ 9) (hb : ∀ i, 0 ≤ i → i < n → -5 ≤ M 173 i ∧ M 173 i ≤ 10) :
    jT (f_X10_trimmed n M) (fun p => p.1 = q_tr (M 170 964) (la (M 173) 0 n.toNat) ∧ ∀ a, a ≠ 173 → p.2 a = M a) := by
  unfold f_X10_trimmed
  refine t_lp2 (fun a M2 => 1 ≤ a ∧ a ≤ n ∧ (la (M2 173) 0 n.toNat).Perm (la (M 173) 0 n.toNat) ∧ (∀ i j, 0 ≤ i → i < j → j < a → M2 173 i ≤ M2 173 j) ∧ ∀ c, c ≠ 173 → M2 c = M c) (fun a _ => (n - a).toNat) ?_ jfuel 1 M (by rw [jfuel_eq]; omega) ⟨by omega, by omega, List.Perm.refl _, fun i j h1 h2 h3 => by omega, fun _ _ => rfl⟩
  rintro self a M2 ⟨ha1, ha2, hp, hsort, hfr⟩ hself
  have hbd : ∀ i, 0 ≤ i → i < n → -5 ≤ M2 173 i ∧ M2 173 i ≤ 10 := fun i h0 h1 => by
    refine perm_bnd hp (fun x hx => ?_) (M2 173 i) (la_mem.mpr ⟨i, by omega, by omega, rfl⟩)
    obtain ⟨k, q1, q2, q3⟩ := la_mem.mp hx
    rw [← q3]
    exact hb k (by omega) (by omega)
  refine t_if (fun hc => ?_) (fun hc => ?_)
  · rw [pw_of (by omega) (by omega), pw_of (by omega) (by omega)] at hc
    have hd : M2 170 = M 170 := hfr 170 (by decide)
    have n1 := hN.2.2.2.2.2.1
    rw [pw_of (z := 964) (by omega) (by omega), pw_of (z := n - 1) (by omega) (by omega), pw_of (z := 2) (by omega) (by omega), tdiv2 (by omega), hd]
    refine t_ck (by omega) ?_
    refine t_Re (e_min (by omega) (by omega)) ?_
    generalize hv : min (M 170 964) ((n - 1) / 2) = v
    have hv0 : 0 ≤ v ∧ 2 * v < n := by omega
    refine t_lp2 (fun acc i => v ≤ i ∧ i ≤ n - v ∧ acc = (la (M2 173) v (i - v).toNat).sum) (fun _ i => (n - v - i).toNat) ?_ jfuel 0 v (by rw [jfuel_eq]; omega) ⟨by omega, by omega, by rw [show (v - v).toNat = 0 from by omega]; rfl⟩
    rintro self2 acc i ⟨hi1, hi2, hacc⟩ hself2
    have hsb := la_sum_b (f := M2 173) (lo := -5) (hi := 10) (n := (i - v).toNat) (a := v) (fun k h0 h1 => hbd k (by omega) (by omega))
    refine t_if (fun hc2 => ?_) (fun hc2 => ?_)
    · rw [pw_of (by omega) (by omega), pw_of (by omega) (by omega)] at hc2
      refine t_Re (e_fdiv (by omega) (by omega)) ?_
      refine t_some ⟨?_, hfr⟩
      have hsrt : Srt (la (M2 173) 0 n.toNat) := la_srt (fun i j h1 h2 h3 => hsort i j h1 h2 (by omega))
      rw [← q_tr_of hsrt hp]
      show 100 * acc / (n - 2 * v) = _
      unfold trS
      simp only [la_len]
      rw [show ((n.toNat : Nat) : Int) - 1 = n - 1 from by omega, hv, la_mid _ (by omega)]
      rw [hacc, show i = n - v from by omega, show (n - v - v).toNat = n.toNat - 2 * v.toNat from by omega, show (0 : Int) + ((v.toNat : Nat) : Int) = v from by omega, show ((n.toNat - 2 * v.toNat : Nat) : Int) = n - 2 * v from by omega]
    · rw [pw_of (by omega) (by omega), pw_of (by omega) (by omega)] at hc2
      rw [pw_of (z := i) (by omega) (by omega)]
      refine t_ck (by omega) ?_
      refine t_let ?_
      refine t_let ?_
      refine hself2 _ _ ⟨by omega, by omega, ?_⟩ (by omega)
      rw [show (i + 1 - v).toNat = (i - v).toNat + 1 from by omega, la_snoc, List.sum_append, ← hacc, show v + (((i - v).toNat : Nat) : Int) = i from by omega]
      simp
  · rw [pw_of (by omega) (by omega), pw_of (by omega) (by omega)] at hc
    refine t_lp2 (fun b M3 => 0 ≤ b ∧ b ≤ a ∧ (la (M3 173) 0 n.toNat).Perm (la (M 173) 0 n.toNat) ∧ (∀ i j, 0 ≤ i → i < j → j ≤ a → j ≠ b → M3 173 i ≤ M3 173 j) ∧ ∀ c, c ≠ 173 → M3 c = M c) (fun b _ => b.toNat) ?_ jfuel a M2 (by rw [jfuel_eq]; omega) ⟨by omega, by omega, hp, fun i j h1 h2 h3 h4 => hsort i j h1 h2 (by omega), hfr⟩
    rintro self2 b M3 ⟨hb1, hb2, hp3, hs3, hfr3⟩ hself2
    have hbd3 : ∀ i, 0 ≤ i → i < n → -5 ≤ M3 173 i ∧ M3 173 i ≤ 10 := fun i h0 h1 => by
      refine perm_bnd hp3 (fun x hx => ?_) (M3 173 i) (la_mem.mpr ⟨i, by omega, by omega, rfl⟩)
      obtain ⟨k, q1, q2, q3⟩ := la_mem.mp hx
      rw [← q3]
      exact hb k (by omega) (by omega)
    refine t_if (fun hc2 => ?_) (fun hc2 => ?_)
    · rw [pw_of (by omega) (by omega)] at hc2
      refine t_let ?_
      exact hself _ _ ⟨by omega, by omega, hp3, fun i j h1 h2 h3 => hs3 i j h1 h2 (by omega) (by omega), hfr3⟩ (by omega)
    · rw [pw_of (by omega) (by omega)] at hc2
      have q1 := hbd3 (b - 1) (by omega) (by omega)
      have q2 := hbd3 b (by omega) (by omega)
      rw [pw_of (z := b - 1) (by omega) (by omega), pw_of (z := b) (by omega) (by omega), pw_of (z := M3 173 (b - 1)) (by omega) (by omega), pw_of (z := M3 173 b) (by omega) (by omega)]
      refine t_ck (by omega) ?_
      refine t_ck (by omega) ?_
      refine t_if (fun hc3 => ?_) (fun hc3 => ?_)
      · refine t_let ?_
        refine hself _ _ ⟨by omega, by omega, hp3, fun i j h1 h2 h3 => ?_, hfr3⟩ (by omega)
        by_cases hj : j = b
        · subst hj
          by_cases hi : i = j - 1
          · subst hi; exact hc3
          · have := hs3 i (j - 1) h1 (by omega) (by omega) (by omega)
            omega
        · exact hs3 i j h1 h2 (by omega) hj
      · refine t_ck (by omega) ?_
        refine t_let ?_
        refine t_ck (by omega) ?_
        refine t_ck (by omega) ?_
        refine t_let ?_
        refine t_ck (by omega) ?_
        refine t_let ?_
        refine t_let ?_
        have g1 : jst (jst M3 173 b (M3 173 (b - 1))) 173 (b - 1) (M3 173 b) 173 b = M3 173 (b - 1) := by
          rw [pst_i (by omega), pst_s]
        have g2 : jst (jst M3 173 b (M3 173 (b - 1))) 173 (b - 1) (M3 173 b) 173 (b - 1) = M3 173 b := pst_s _ _ _ _
        have g3 : ∀ i, i ≠ b → i ≠ b - 1 → jst (jst M3 173 b (M3 173 (b - 1))) 173 (b - 1) (M3 173 b) 173 i = M3 173 i := fun i h1 h2 => by
          rw [pst_i h2, pst_i h1]
        refine hself2 _ _ ⟨by omega, by omega, (la_swap (b := b) (by omega) (by omega) g1 g2 g3).trans hp3, fun i j h1 h2 h3 h4 => ?_, fun c hc => by rw [pst_f hc, pst_f hc]; exact hfr3 c hc⟩ (by omega)
        by_cases e1 : j = b
        · subst e1
          rw [g1]
          by_cases e2 : i = j - 1
          · subst e2; rw [g2]; omega
          · rw [g3 i (by omega) e2]
            exact hs3 i (j - 1) h1 (by omega) (by omega) (by omega)
        · rw [g3 j e1 (by omega)]
          by_cases e2 : i = b
          · subst e2
            rw [g1]
            exact hs3 (i - 1) j (by omega) (by omega) h3 e1
          · by_cases e3 : i = b - 1
            · subst e3
              rw [g2]
              exact hs3 b j (by omega) (by omega) h3 e1
            · rw [g3 i e2 e3]
              exact hs3 i j h1 h2 h3 e1
