/-! ===== sways ===== -/
theorem sS_swap (f : Int → Int → Int) (n : Nat) : ∀ m : Nat, sS (fun a => sS (f a) n) m = sS (fun b => sS (fun a => f a b) m) n := by
  intro m
  induction m with
  | zero =>
    show (0 : Int) = sS (fun _ => 0) n
    induction n with
    | zero => rfl
    | succ n ih => show (0 : Int) = sS (fun _ => 0) n + 0; omega
  | succ m ih =>
    show sS (fun a => sS (f a) n) m + sS (f (m : Int)) n = sS (fun b => sS (fun a => f a b) m + f (m : Int) b) n
    rw [ih, sS_add]
theorem sS_le {f g : Int → Int} : ∀ {n : Nat}, (∀ i : Int, 0 ≤ i → i < n → f i ≤ g i) → sS f n ≤ sS g n := by
  intro n
  induction n with
  | zero => intro _; exact Int.le_refl _
  | succ n ih =>
    intro h
    have h1 := ih (fun i h0 h1 => h i h0 (by omega))
    have h2 := h n (by omega) (by omega)
    show sS f n + f n ≤ sS g n + g n
    omega
theorem sS_lt {f g : Int → Int} : ∀ {n : Nat} {j : Int}, (∀ i : Int, 0 ≤ i → i < n → f i ≤ g i) → 0 ≤ j → j < n → f j < g j → sS f n < sS g n := by
  intro n
  induction n with
  | zero => intro j _ h0 h1; omega
  | succ n ih =>
    intro j h h0 h1 h2
    have h4 := h n (by omega) (by omega)
    show sS f n + f n < sS g n + g n
    by_cases c : j = n
    · subst c
      have := sS_le (f := f) (g := g) (n := n) (fun i h0 h1 => h i h0 (by omega))
      omega
    · have := ih (j := j) (fun i h0 h1 => h i h0 (by omega)) h0 (by omega) h2
      omega
theorem ah_irr (tot pts : Int → Int) (a : Int) : q_ahead tot pts a a = 0 := b2_f (by omega)
theorem ah_tot (tot pts : Int → Int) {a b : Int} (h : a ≠ b) : q_ahead tot pts a b = 1 - q_ahead tot pts b a := by
  unfold q_ahead
  by_cases c : tot b < tot a ∨ tot a = tot b ∧ (pts b < pts a ∨ pts a = pts b ∧ a < b)
  · rw [b2_t c, b2_f (by omega)]; rfl
  · rw [b2_f c, b2_t (by omega)]; rfl
theorem ah_trans {tot pts : Int → Int} {a b c : Int} (h1 : q_ahead tot pts a b = 1) (h2 : q_ahead tot pts b c = 1) : q_ahead tot pts a c = 1 := by
  have x1 : tot b < tot a ∨ tot a = tot b ∧ (pts b < pts a ∨ pts a = pts b ∧ a < b) := by
    rcases b2_c (c := tot b < tot a ∨ tot a = tot b ∧ (pts b < pts a ∨ pts a = pts b ∧ a < b)) with ⟨q, _⟩ | ⟨_, q⟩
    · unfold q_ahead at h1; omega
    · exact q
  have x2 : tot c < tot b ∨ tot b = tot c ∧ (pts c < pts b ∨ pts b = pts c ∧ b < c) := by
    rcases b2_c (c := tot c < tot b ∨ tot b = tot c ∧ (pts c < pts b ∨ pts b = pts c ∧ b < c)) with ⟨q, _⟩ | ⟨_, q⟩
    · unfold q_ahead at h2; omega
    · exact q
  exact b2_t (by omega)
theorem rank_sum (tot pts : Int → Int) (n s : Int) : q_rank tot pts n s = sZ (fun o => q_ahead tot pts o s) n := by
  unfold q_rank
  refine sZ_congr (fun o _ _ => ?_)
  by_cases c : o = s
  · rw [if_pos c, c, ah_irr]
  · rw [if_neg c]
theorem rank_lt1 {tot pts : Int → Int} {n a b : Int} (ha : 0 ≤ a ∧ a < n) (h : q_ahead tot pts a b = 1) : q_rank tot pts n a < q_rank tot pts n b := by
  rw [rank_sum, rank_sum]
  refine sS_lt (j := a) (fun i h0 h1 => ?_) ha.1 (by omega) ?_
  · rcases q_ahead_b tot pts i a with q | q
    · rcases q_ahead_b tot pts i b with q2 | q2 <;> omega
    · rw [ah_trans q h]; omega
  · rw [ah_irr, h]; decide
theorem rank_lt {tot pts : Int → Int} {n a b : Int} (ha : 0 ≤ a ∧ a < n) (hb : 0 ≤ b ∧ b < n) (hab : a ≠ b) : q_rank tot pts n a < q_rank tot pts n b ↔ q_ahead tot pts a b = 1 := by
  constructor
  · intro h
    rcases q_ahead_b tot pts a b with q | q
    · have h2 := ah_tot tot pts (a := b) (b := a) (fun e => hab e.symm)
      have := rank_lt1 hb (show q_ahead tot pts b a = 1 by omega)
      omega
    · exact q
  · exact rank_lt1 ha
/-! 64 bits -/
theorem pl_tb (n : Nat) : (Int64.ofInt (n : Int)).toBitVec = BitVec.ofNat 64 n := by
  rw [Int64.toBitVec_ofInt]
  exact BitVec.ofInt_natCast 64 n
theorem pl_toInt {x : Int64} {n : Nat} (h : x.toBitVec = BitVec.ofNat 64 n) (hn : n < 9223372036854775808) : x.toInt = (n : Int) := by
  show x.toBitVec.toInt = _
  rw [h, BitVec.toInt_eq_toNat_of_lt]
  · rw [BitVec.toNat_ofNat, Nat.mod_eq_of_lt (by omega)]
  · rw [BitVec.toNat_ofNat, Nat.mod_eq_of_lt (by omega)]; omega
theorem pl_or {n m : Nat} (hn : n < 9223372036854775808) (hm : m < 9223372036854775808) : jlor (n : Int) (m : Int) = ((n ||| m : Nat) : Int) := by
  unfold jlor
  apply pl_toInt
  · rw [Int64.toBitVec_or, pl_tb, pl_tb]
    exact (BitVec.ofNat_or).symm
  · exact Nat.or_lt_two_pow (n := 63) hn hm
theorem pl_sl : ∀ k, k < 40 → jlsl 1 ((k : Nat) : Int) = ((2 ^ k : Nat) : Int) := by decide +kernel
theorem pl_cnt : ∀ k, k < 40 → (((Int32.ofInt ((k : Nat) : Int)).toInt64 &&& 63).toBitVec.smod 64).toNat = k := by decide +kernel
theorem pl_bit {n k : Nat} (hn : n < 9223372036854775808) (hk : k < 40) : jlnd (jlsr (n : Int) (k : Int)) 1 = if n.testBit k then 1 else 0 := by
  have hsr : jlsr (n : Int) (k : Int) = ((n >>> k : Nat) : Int) := by
    unfold jlsr
    apply pl_toInt
    · rw [Int64.toBitVec_shiftRight, pl_tb]
      rw [BitVec.sshiftRight_eq', pl_cnt k hk]
      apply BitVec.eq_of_toNat_eq
      rw [BitVec.sshiftRight_eq_of_msb_false]
      · rw [BitVec.toNat_ushiftRight, BitVec.toNat_ofNat, BitVec.toNat_ofNat, Nat.mod_eq_of_lt (by omega), Nat.mod_eq_of_lt]
        exact Nat.lt_of_le_of_lt (Nat.shiftRight_le _ _) (by omega)
      · rw [BitVec.msb_eq_false_iff_two_mul_lt, BitVec.toNat_ofNat, Nat.mod_eq_of_lt (by omega)]
        omega
    · exact Nat.lt_of_le_of_lt (Nat.shiftRight_le _ _) hn
  have hnd : jlnd ((n >>> k : Nat) : Int) ((1 : Nat) : Int) = (((n >>> k) &&& 1 : Nat) : Int) := by
    unfold jlnd
    apply pl_toInt
    · rw [Int64.toBitVec_and, pl_tb, pl_tb]
      exact (BitVec.ofNat_and).symm
    · exact Nat.lt_of_le_of_lt Nat.and_le_left (Nat.lt_of_le_of_lt (Nat.shiftRight_le _ _) hn)
  rw [hsr, show (1 : Int) = ((1 : Nat) : Int) from rfl, hnd, Nat.and_one_is_mod]
  rw [Nat.testBit, Nat.and_comm, Nat.and_one_is_mod]
  rcases Nat.mod_two_eq_zero_or_one (n >>> k) with h | h <;> rw [h] <;> rfl
/-- pairs that stand the other way round -/
def q_dif (f g : Int → Int → Int) (a b : Int) : Int := if f a b = g a b then 0 else 1
def q_turn (f g : Int → Int → Int) (n : Int) : Int := sZ (fun a => sZ (q_dif f g a) a) n
theorem turn_up {f g : Int → Int → Int} (hf : ∀ a b : Int, a ≠ b → f a b = 1 - f b a) (hg : ∀ a b : Int, a ≠ b → g a b = 1 - g b a) (n : Int) : sZ (fun a => sZ (fun b => if a < b then q_dif f g a b else 0) n) n = q_turn f g n := by
  unfold q_turn
  have h1 : sZ (fun a => sZ (fun b => if a < b then q_dif f g a b else 0) n) n = sZ (fun b => sZ (fun a => if a < b then q_dif f g a b else 0) n) n := sS_swap (fun a b => if a < b then q_dif f g a b else 0) n.toNat n.toNat
  rw [h1]
  refine sZ_congr (fun b h0 h1 => ?_)
  have h2 : sZ (fun a => if a < b then q_dif f g a b else 0) n = sZ (fun a => if a < b then q_dif f g a b else 0) b := by
    unfold sZ
    rw [show n.toNat = b.toNat + (n - b).toNat from by omega]
    exact sS_zero _ (fun i hi => if_neg (by omega))
  rw [h2]
  refine sZ_congr (fun a q0 q1 => ?_)
  rw [if_pos q1]
  unfold q_dif
  have x1 := hf a b (by omega)
  have x2 := hg a b (by omega)
  by_cases c : f a b = g a b
  · rw [if_pos c, if_pos (by omega)]
  · rw [if_neg c, if_neg (by omega)]
theorem q_dif_b (f g : Int → Int → Int) (a b : Int) : 0 ≤ q_dif f g a b ∧ q_dif f g a b ≤ 1 := by
  unfold q_dif
  split <;> omega
theorem q_turn_b {f g : Int → Int → Int} {n : Int} (hn : 0 ≤ n ∧ n ≤ 6) : 0 ≤ q_turn f g n ∧ q_turn f g n ≤ 36 := by
  have := sZ_b (f := fun a => sZ (q_dif f g a) a) (lo := 0) (hi := 6) hn.1 (fun a h0 h1 => by
    have := sZ_b (f := q_dif f g a) (lo := 0) (hi := 1) h0 (fun b _ _ => q_dif_b f g a b)
    omega)
  unfold q_turn
  omega
set_option maxHeartbeats 2000000 in
theorem c_turn {e v : Int} {M : jM} {P T N : Int → Int} (hC : cE e M T N) (hQ : cQ P T 600 0) (hW : aW e M P T N) (hJ : aJ M P T N) (hv : cP (pS P 15 v) T) :
    jT (f_X7_turnedPairs v M) (fun p => p.1 = q_turn (q_ahead (q_total P T N) (q_points P T N)) (q_ahead (q_total (pS P 15 v) T N) (q_points (pS P 15 v) T N)) (T 1) ∧ fr7 e M p.2) := by
  have hT := hC.2.1
  have hN := hC.2.2.1
  have hcP := cQ_cP hT hQ
  have t1 := hT.2.1
  unfold f_X7_turnedPairs
  refine t_lp2 (fun i M3 => 0 ≤ i ∧ i ≤ T 1 ∧ (∀ a, a ≠ 112 → M3 a = M a) ∧ ∀ o, 0 ≤ o → o < i → M3 112 o = q_rank (q_total P T N) (q_points P T N) (T 1) o) (fun i _ => (T 1 - i).toNat) ?_ jfuel 0 M (by rw [jfuel_eq]; omega) ⟨by omega, by omega, fun _ _ => rfl, fun o h0 h1 => by omega⟩
  rintro self i M3 ⟨hi1, hi2, hfr, hrk⟩ hself
  have he := hC.1
  have fr3_ : fr7 e M M3 := fun a q0 q1 => hfr a (by omega)
  have hC3 := cE_fr hC fr3_
  have hW3 : aW e M3 P T N := ⟨by rw [hfr 110 (by decide)]; exact hW.1, fun o h0 h1 => wT_keep (hW.2 o h0 h1) (fun a q0 q1 => hfr a (by omega))⟩
  have hJ3 : aJ M3 P T N := fun o h0 h1 => jgd_keep (hJ o h0 h1) (hfr _ (by omega))
  refine t_Re (c_skaters hC3 hW3.1) ?_
  rw [pw_of (z := T 1) (by omega) (by omega), pw_of (z := i) (by omega) (by omega)]
  refine t_if (fun hc => ?_) (fun hc => ?_)
  · have ei : i = T 1 := by omega
    subst ei
    have hj := c_judgeAll hC3 hv (by rw [pS_n (by decide)]; exact hQ.2.2.2.2.1) ⟨hW3.1, fun o h0 h1 => wT_congr pS_eq (hW3.2 o h0 h1)⟩
    rw [pS_s] at hj
    refine t_V (t_mono hj (fun M7 h7 => ?_))
    obtain ⟨u1, u2, u3⟩ := h7
    have fr7_ : fr7 e M M7 := fr7_t fr3_ (fun a q0 q1 => u1 a (by omega))
    have hC7 := cE_fr hC fr7_
    have hrk7 : ∀ o, 0 ≤ o → o < T 1 → M7 112 o = q_rank (q_total P T N) (q_points P T N) (T 1) o := fun o h0 h1 => by
      rw [u1 112 (by decide)]; exact hrk o h0 h1
    rw [← turn_up (fun a b h => ah_tot _ _ h) (fun a b h => ah_tot _ _ h)]
    refine t_lp2 (fun n a => 0 ≤ a ∧ a ≤ T 1 ∧ n = sZ (fun a => sZ (fun b => if a < b then q_dif (q_ahead (q_total P T N) (q_points P T N)) (q_ahead (q_total (pS P 15 v) T N) (q_points (pS P 15 v) T N)) a b else 0) (T 1)) a) (fun _ a => (T 1 - a).toNat) ?_ jfuel 0 0 (by rw [jfuel_eq]; omega) ⟨by omega, by omega, rfl⟩
    rintro self2 n a ⟨ha1, ha2, hn⟩ hself2
    refine t_Re (c_skaters hC7 u2.1) ?_
    rw [pw_of (z := T 1) (by omega) (by omega), pw_of (z := a) (by omega) (by omega)]
    refine t_if (fun hc2 => ?_) (fun hc2 => ?_)
    · refine t_some ⟨?_, fr7_⟩
      show n = _
      rw [hn, show a = T 1 from by omega]
    · refine t_let ?_
      have hsz := sZ_s (f := fun a => sZ (fun b => if a < b then q_dif (q_ahead (q_total P T N) (q_points P T N)) (q_ahead (q_total (pS P 15 v) T N) (q_points (pS P 15 v) T N)) a b else 0) (T 1)) ha1
      have hz0 : sZ (fun b => if a < b then q_dif (q_ahead (q_total P T N) (q_points P T N)) (q_ahead (q_total (pS P 15 v) T N) (q_points (pS P 15 v) T N)) a b else 0) (a + 1) = 0 := by
        have : sZ (fun b => if a < b then q_dif (q_ahead (q_total P T N) (q_points P T N)) (q_ahead (q_total (pS P 15 v) T N) (q_points (pS P 15 v) T N)) a b else 0) (a + 1) = sZ (fun _ => 0) (a + 1) := sZ_congr (fun b q0 q1 => if_neg (by omega))
        rw [this]
        have := sZ_b (f := fun _ => (0 : Int)) (lo := 0) (hi := 0) (z := a + 1) (by omega) (fun _ _ _ => by omega)
        omega
      refine t_lp2 (fun m b => a + 1 ≤ b ∧ b ≤ T 1 ∧ m = n + sZ (fun b => if a < b then q_dif (q_ahead (q_total P T N) (q_points P T N)) (q_ahead (q_total (pS P 15 v) T N) (q_points (pS P 15 v) T N)) a b else 0) b) (fun _ b => (T 1 - b).toNat) ?_ jfuel n (a + 1) (by rw [jfuel_eq]; omega) ⟨by omega, by omega, by rw [hz0]; omega⟩
      rintro self3 m b ⟨hb1, hb2, hm⟩ hself3
      refine t_Re (c_skaters hC7 u2.1) ?_
      rw [pw_of (z := T 1) (by omega) (by omega), pw_of (z := b) (by omega) (by omega)]
      refine t_if (fun hc3 => ?_) (fun hc3 => ?_)
      · refine t_let ?_
        refine hself2 _ _ ⟨by omega, by omega, ?_⟩ (by omega)
        rw [hsz, hm, hn, show b = T 1 from by omega]
      · refine t_ck (by omega) ?_
        refine t_ck (by omega) ?_
        rw [hrk7 a ha1 (by omega), hrk7 b (by omega) (by omega)]
        have rb1 := q_rank_b (tot := q_total P T N) (pts := q_points P T N) (n := T 1) (s := a) (by omega)
        have rb2 := q_rank_b (tot := q_total P T N) (pts := q_points P T N) (n := T 1) (s := b) (by omega)
        rw [pw_of (z := q_rank (q_total P T N) (q_points P T N) (T 1) a) (by omega) (by omega), pw_of (z := q_rank (q_total P T N) (q_points P T N) (T 1) b) (by omega) (by omega)]
        have hlt := rank_lt (tot := q_total P T N) (pts := q_points P T N) (n := T 1) (a := a) (b := b) (by omega) (by omega) (by omega)
        have hsb := sZ_s (f := fun b => if a < b then q_dif (q_ahead (q_total P T N) (q_points P T N)) (q_ahead (q_total (pS P 15 v) T N) (q_points (pS P 15 v) T N)) a b else 0) (z := b) (by omega)
        rw [if_pos (show a < b by omega)] at hsb
        have ja := u3 a ha1 (by omega)
        have jb := u3 b (by omega) (by omega)
        have hah := c_ahead hv.1 hT hN hv.2.1 ja.2.2 ja.1 jb.2.2 jb.1 (a := a) (b := b) (by omega) (by omega)
        have tail : ∀ z, z = q_ahead (q_total P T N) (q_points P T N) a b → jT ((fun (s0_22 : Int) =>
                jbR (f_X7_isAhead a b M7) fun v25 =>
                if jw s0_22 = jw v25 then (
                  jlet (b + 1) fun l4_26 =>
                  self3 m l4_26)
                else (
                  jlet (m + 1) fun l2_27 =>
                  jlet (b + 1) fun l4_28 =>
                  self3 l2_27 l4_28)) z) (fun p => p.1 = sZ (fun a => sZ (fun b => if a < b then q_dif (q_ahead (q_total P T N) (q_points P T N)) (q_ahead (q_total (pS P 15 v) T N) (q_points (pS P 15 v) T N)) a b else 0) (T 1)) (T 1) ∧ fr7 e M p.2) := by
          intro z hz
          refine t_Re hah ?_
          have x1 := q_ahead_b (q_total P T N) (q_points P T N) a b
          have x2 := q_ahead_b (q_total (pS P 15 v) T N) (q_points (pS P 15 v) T N) a b
          rw [hz, pw_of (z := q_ahead (q_total P T N) (q_points P T N) a b) (by omega) (by omega), pw_of (z := q_ahead (q_total (pS P 15 v) T N) (q_points (pS P 15 v) T N) a b) (by omega) (by omega)]
          refine t_if (fun c4 => ?_) (fun c4 => ?_)
          · refine t_let ?_
            refine hself3 _ _ ⟨by omega, by omega, ?_⟩ (by omega)
            rw [hsb, hm]
            have : q_dif (q_ahead (q_total P T N) (q_points P T N)) (q_ahead (q_total (pS P 15 v) T N) (q_points (pS P 15 v) T N)) a b = 0 := if_pos c4
            omega
          · refine t_let ?_
            refine t_let ?_
            refine hself3 _ _ ⟨by omega, by omega, ?_⟩ (by omega)
            rw [hsb, hm]
            have : q_dif (q_ahead (q_total P T N) (q_points P T N)) (q_ahead (q_total (pS P 15 v) T N) (q_points (pS P 15 v) T N)) a b = 1 := if_neg c4
            omega
        refine t_k ?_
        refine t_if (fun c4 => ?_) (fun c4 => ?_)
        · refine tail 0 ?_
          rcases q_ahead_b (q_total P T N) (q_points P T N) a b with q | q
          · exact q.symm
          · have := hlt.mpr q; omega
        · refine tail 1 ?_
          exact (hlt.mp (by omega)).symm
  · refine t_Re (c_rank hC3 hcP hW3.1 hJ3 (by omega)) ?_
    refine t_ck (by omega) ?_
    refine t_let ?_
    refine t_let ?_
    refine hself _ _ ⟨by omega, by omega, fun a ha => by rw [pst_f ha]; exact hfr a ha, fun o h0 h1 => ?_⟩ (by omega)
    by_cases co : o = i
    · subst co; exact pst_s _ _ _ _
    · rw [pst_i co]; exact hrk o h0 (by omega)
