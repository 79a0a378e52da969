/-! ===== steps of questions, III ===== -/
def pS (P : Int → Int) (i v : Int) : Int → Int := fun j => if j = i then v else P j
theorem pS_jst {X : jM} {P : Int → Int} (h : X 166 = P) (i v : Int) : jst X 166 i v 166 = pS P i v := by
  funext j
  rw [pst_a, h]
  rfl
theorem pS_s (P : Int → Int) (i v : Int) : pS P i v i = v := if_pos rfl
theorem pS_n {P : Int → Int} {i v j : Int} (h : j ≠ i) : pS P i v j = P j := if_neg h
theorem pS_15 {P T : Int → Int} {v : Int} (h : cQ P T 600 0) (hv : 0 ≤ v ∧ v ≤ 511) : bP (pS P 15 v) := by
  obtain ⟨-, p16, p17, p18, p19, p20, p21, p22⟩ := h.1
  unfold bP
  rw [pS_s, pS_n (by decide), pS_n (by decide), pS_n (by decide), pS_n (by decide), pS_n (by decide), pS_n (by decide), pS_n (by decide)]
  exact ⟨hv, p16, p17, p18, p19, p20, p21, p22⟩
theorem pS_eq {P : Int → Int} {v : Int} : pEq P (pS P 15 v) := ⟨(pS_n (by decide)).symm, (pS_n (by decide)).symm, (pS_n (by decide)).symm, (pS_n (by decide)).symm⟩
theorem sS_ge {f : Int → Int} : ∀ {n : Nat} {i : Int}, (∀ j, 0 ≤ f j) → 0 ≤ i → i < n → f i ≤ sS f n := by
  intro n
  induction n with
  | zero => intro i _ h0 h1; omega
  | succ n ih =>
    intro i hf h0 h1
    show f i ≤ sS f n + f (n : Int)
    by_cases c : i = n
    · subst c
      have : 0 ≤ sS f n := by
        have := sS_b (f := f) (lo := 0) (hi := sS f n) (n := n) 
        have h2 : ∀ m : Nat, 0 ≤ sS f m := fun m => by
          induction m with
          | zero => exact Int.le_refl _
          | succ m ihm => show 0 ≤ sS f m + f (m : Int); have := hf (m : Int); omega
        exact h2 n
      omega
    · have := ih (i := i) hf h0 (by omega)
      have := hf (n : Int)
      omega
theorem cP_of {P T : Int → Int} {v j : Int} (hT : bT T) (h : cQ P T 600 0) (hv : 0 ≤ v ∧ v < ((2 ^ (T 2).toNat : Nat) : Int)) (hj : 0 ≤ j ∧ j < T 2) (hi : q_in v j = 1) : cP (pS P 15 v) T := by
  have t2 := hT.2.2.1
  have h512 : 2 ^ (T 2).toNat ≤ 2 ^ 9 := Nat.pow_le_pow_right (by decide) (by omega)
  refine ⟨pS_15 h (by omega), ?_, by rw [pS_s]; exact hv.2⟩
  unfold bJ sZ
  rw [pS_s]
  have := sS_ge (f := q_in v) (n := (T 2).toNat) (i := j) (fun i => by rcases q_in_b v i with q | q <;> omega) hj.1 (by omega)
  omega
/-- a panel without one judge, of one judge -/
theorem pan_wo {T : Int → Int} {j : Int} (hT : bT T) (h1 : 2 ≤ T 2) (hj : 0 ≤ j ∧ j < T 2) : ∃ v, jnd ((2 ^ (T 2).toNat - 1 : Nat) : Int) (jxr (jsl 1 j) (-1)) = v ∧ (0 ≤ v ∧ v < ((2 ^ (T 2).toNat : Nat) : Int)) ∧ ∃ i, (0 ≤ i ∧ i < T 2) ∧ q_in v i = 1 := by
  have t2 := hT.2.2.1
  have hsl := pb_sl j.toNat (by omega)
  rw [← pn_nat hj.1] at hsl
  have h512 : 2 ^ (T 2).toNat ≤ 2 ^ 9 := Nat.pow_le_pow_right (by decide) (by omega)
  have h1p : 1 ≤ 2 ^ (T 2).toNat := Nat.one_le_two_pow
  refine ⟨(((2 ^ (T 2).toNat - 1) ^^^ ((2 ^ (T 2).toNat - 1) &&& 2 ^ j.toNat) : Nat) : Int), by rw [hsl]; exact pb_andnot (by omega), ?_, if j = 0 then 1 else 0, by split <;> omega, ?_⟩
  · have := Nat.xor_lt_two_pow (n := (T 2).toNat) (x := 2 ^ (T 2).toNat - 1) (y := (2 ^ (T 2).toNat - 1) &&& 2 ^ j.toNat) (by omega) (Nat.lt_of_le_of_lt Nat.and_le_left (by omega))
    omega
  · unfold q_in
    apply b2_t
    rw [Int.toNat_natCast, Nat.testBit_xor, Nat.testBit_and, Nat.testBit_two_pow_sub_one]
    by_cases c : j = 0
    · subst c
      rw [if_pos rfl]
      have : (2 ^ (0 : Int).toNat).testBit (1 : Int).toNat = false := by decide
      rw [this]
      simp
      omega
    · rw [if_neg c]
      have : (2 ^ j.toNat).testBit (0 : Int).toNat = false := Nat.testBit_two_pow_of_ne (by
        intro q
        have : (0 : Int).toNat = 0 := rfl
        omega)
      rw [this]
      simp
      omega
theorem pan_one {T : Int → Int} {j : Int} (hT : bT T) (hj : 0 ≤ j ∧ j < T 2) : jsl 1 j = ((2 ^ j.toNat : Nat) : Int) ∧ (0 ≤ ((2 ^ j.toNat : Nat) : Int) ∧ ((2 ^ j.toNat : Nat) : Int) < ((2 ^ (T 2).toNat : Nat) : Int)) ∧ q_in ((2 ^ j.toNat : Nat) : Int) j = 1 := by
  have t2 := hT.2.2.1
  have hsl := pb_sl j.toNat (by omega)
  rw [← pn_nat hj.1] at hsl
  have : 2 ^ j.toNat < 2 ^ (T 2).toNat := Nat.pow_lt_pow_right (by decide) (by omega)
  refine ⟨hsl, ⟨Int.natCast_nonneg _, Int.ofNat_lt.mpr this⟩, ?_⟩
  unfold q_in
  apply b2_t
  rw [Int.toNat_natCast, Nat.testBit_two_pow_self]
theorem c_totalBy {e s v : Int} {M : jM} {P T N : Int → Int} (hC : cE e M T N) (he : M 1 3 = e) (hQ : cQ P T 600 0) (hs : 0 ≤ s ∧ s < T 1) (hv : cP (pS P 15 v) T) :
    jT (f_X9_totalBy s v M) (fun p => p.1 = q_total (pS P 15 v) T N s ∧ fr7 e M p.2) := by
  have t1 := hC.2.1.2.1
  unfold f_X9_totalBy
  refine t_W (t_mono (c_tallied hC he hQ hs) (fun p hp => ?_))
  obtain ⟨u1, u2, u3, u4⟩ := hp
  rw [u1]
  refine t_ck (ln_t (by omega)).2.2 ?_
  have hj := c_judge (t := 111 + 6 + 7 * s) (by omega) (cE_fr hC u2) hs hv (by rw [pS_n (by decide)]; exact hQ.2.2.2.2.1) (wT_congr pS_eq u3)
  rw [pS_s] at hj
  refine t_V (t_mono hj (fun M6 h6 => ?_))
  exact t_some ⟨h6.2.2.2.2, fr7_t u2 (fun a q0 q1 => h6.1 a (by omega))⟩
theorem r_total {M3 X : jM} {P T N : Int → Int} {s : Int} (h6 : X 166 = P) (h9 : X 169 = T) (h0 : X 170 = N) (hT : bT T) (hN : bN N) (hR : bR T) (hcP : cP P T) (hs : 0 ≤ s ∧ s < 6) (hx : frX M3 X) (hx0 : X 166 0 = 0) : jT (jbW (f_X10_totalOf s X) fun v M9 => some (v, M9)) (fun q => q.2 166 0 = 0 ∧ ((0 : Int) = 0 → q.1 = q_total P T N s) ∧ frX M3 q.2 ∧ bP (q.2 166)) := by
  subst h6 h9 h0
  refine t_W (t_mono (e_total hcP.1 hT hN hcP.2.1 hR hs) (fun q hq => ?_))
  exact rQ (by rw [hq.2 166 (by decide) (by decide)]; exact hx0) (fun _ => hq.1) (frX_t hx (frX_34 hq.2)) (by rw [hq.2 166 (by decide) (by decide)]; exact hcP.1)
theorem frX_j {M X : jM} (h : frX M X) {i v : Int} (hi : 15 ≤ i ∧ i ≤ 22) : frX M (jst X 166 i v) := ⟨fun a q0 q1 => by rw [pst_f q0]; exact h.1 a q0 q1, fun j q0 q1 => by rw [pst_i (by omega)]; exact h.2 j q0 q1⟩
/-- alone -/
theorem z_26 {M : jM} (hI : Inv M) {a1 a2 : Int} (j1 : jin a1) (j2 : jin a2) : jT (s_26 a1 a2 M) Inv := by
  obtain ⟨hC, hT, hN, hP, hR, hQ, hcP⟩ := inv_ctx hI
  have t0 := hT.1
  have t1 := hT.2.1
  have t2 := hT.2.2.1
  have t3 := hT.2.2.2.1
  unfold s_26
  by_cases c1 : 0 ≤ a1 ∧ a1 < M 169 1
  · by_cases c2 : 0 ≤ a2 ∧ a2 < M 169 2
    · obtain ⟨p1, p2, p3⟩ := pan_one hT c2
      have hv := cP_of hT hQ p2 c2 p3
      have hmb := q_total_b hv.1 hT hN hv.2.1 (s := a1) (by omega)
      refine stQ hI (code := 0) (val := q_total (pS (P0 M) 15 ((2 ^ a2.toNat : Nat) : Int)) (M 169) (M 170) a1) (by omega) (fun _ => by omega) ?_ (fun M3 h8 => ?_)
      · unfold w_alone f_X9_alone
        obtain ⟨⟨v, M4⟩, e4, u1, u2⟩ := c_totalBy hC rfl hQ c1 hv
        rw [c_wSk0 hC rfl c1, eR, if_pos rfl, c_wJu0 hC rfl c2, eR, if_pos rfl, p1, e4, eW, eT3, if_pos rfl]
        exact wQ0 u1 (by omega) (fr8_7 hC.1 u2)
      · obtain ⟨r6, r9, r0⟩ := ref_A h8
        obtain ⟨b9, b0, b6⟩ := ref_B hP h8
        unfold f_X10_alone
        refine t_let ?_
        refine t_Ve (e_all (by rw [b9]; exact hT)) ?_
        refine t_We (e_noSk0 (by rw [r9]; exact hT) (by rw [r9]; exact c1)) (t_pos (by decide) ?_)
        refine t_We (e_noJu0 (by rw [r9]; exact hT) (by rw [r9]; exact c2)) (t_pos (by decide) ?_)
        refine t_let ?_
        rw [p1]
        exact r_total (pS_jst r6 _ _) (by rw [pst_f (by decide)]; exact r9) (by rw [pst_f (by decide)]; exact r0) hT hN hR hv (by omega) (frX_j (frX_0A M3) (by decide)) (by rw [pst_i (by decide)]; exact mA_0 M3)
    · refine stQ hI (code := 1) (val := 0) (by omega) (fun h => by omega) ?_ (fun M3 h8 => ?_)
      · unfold w_alone f_X9_alone
        rw [c_wSk0 hC rfl c1, eR, if_pos rfl, c_wJu1 hC rfl j2 c2, eR, if_neg (by decide), eT3, if_neg (by decide), if_pos rfl]
        exact wQ1 (by decide) (fr8_r M)
      · obtain ⟨r6, r9, r0⟩ := ref_A h8
        obtain ⟨b9, b0, b6⟩ := ref_B hP h8
        unfold f_X10_alone
        refine t_let ?_
        refine t_Ve (e_all (by rw [b9]; exact hT)) ?_
        refine t_We (e_noSk0 (by rw [r9]; exact hT) (by rw [r9]; exact c1)) (t_pos (by decide) ?_)
        refine t_We (e_noJu1 (by rw [r9]; exact hT) (jin_b j2) (by rw [r9]; exact c2)) (t_neg (by decide) ?_)
        exact rQt (by decide) (frX_0A M3) (by rw [r6]; exact hcP.1)
  · refine stQ hI (code := 1) (val := 0) (by omega) (fun h => by omega) ?_ (fun M3 h8 => ?_)
    · unfold w_alone f_X9_alone
      rw [c_wSk1 hC rfl j1 c1, eR, if_neg (by decide), eT3, if_neg (by decide), if_pos rfl]
      exact wQ1 (by decide) (fr8_r M)
    · obtain ⟨r6, r9, r0⟩ := ref_A h8
      obtain ⟨b9, b0, b6⟩ := ref_B hP h8
      unfold f_X10_alone
      refine t_let ?_
      refine t_Ve (e_all (by rw [b9]; exact hT)) ?_
      refine t_We (e_noSk1 (by rw [r9]; exact hT) (jin_b j1) (by rw [r9]; exact c1)) (t_neg (by decide) ?_)
      exact rQt (by decide) (frX_0A M3) (by rw [r6]; exact hcP.1)
theorem e_only1 {M : jM} (hT : bT (M 169)) (h : M 169 2 = 1) : f_X10_isOnlyOne M = some (1, jst M 166 0 2) := by
  unfold f_X10_isOnlyOne
  rw [eC (by decide), pw_of (z := 2) (by omega) (by omega), h, eK]
  dsimp only
  rw [if_pos rfl, e_thr1, eW, eC (Or.inr (by decide))]
theorem e_only0 {M : jM} (hT : bT (M 169)) (h : 2 ≤ M 169 2) : f_X10_isOnlyOne M = some (0, M) := by
  have t2 := hT.2.2.1
  unfold f_X10_isOnlyOne
  rw [eC (by decide), pw_of (z := 2) (by omega) (by omega), pw_of (z := M 169 2) (by omega) (by omega), pw_of (z := 1) (by omega) (by omega), eK]
  dsimp only
  rw [if_neg (by omega), e_thr0, eW, eC (Or.inl (by decide))]
theorem c_only {e : Int} {M : jM} {T N : Int → Int} (hC : cE e M T N) (he : M 1 3 = e) : f_X9_wantOtherJudge M = some (if 2 ≤ T 2 then 0 else 4) := by
  have t2 := hC.2.1.2.2.1
  unfold f_X9_wantOtherJudge
  rw [he, eC (kd_e hC.1), hC.2.2.2.2.1, pw_of (z := 2) (by omega) (by omega), pw_of (z := T 2) (by omega) (by omega)]
  split <;> rfl
/-- without -/
theorem z_24 {M : jM} (hI : Inv M) {a1 a2 : Int} (j1 : jin a1) (j2 : jin a2) : jT (s_24 a1 a2 M) Inv := by
  obtain ⟨hC, hT, hN, hP, hR, hQ, hcP⟩ := inv_ctx hI
  have t0 := hT.1
  have t1 := hT.2.1
  have t2 := hT.2.2.1
  have t3 := hT.2.2.2.1
  unfold s_24
  by_cases c1 : 0 ≤ a1 ∧ a1 < M 169 1
  · by_cases c2 : 0 ≤ a2 ∧ a2 < M 169 2
    · by_cases c3 : 2 ≤ M 169 2
      · obtain ⟨vv, p1, p2, pj, pj1, pj2⟩ := pan_wo hT c3 c2
        have hv := cP_of hT hQ p2 pj1 pj2
        have hmb := q_total_b hv.1 hT hN hv.2.1 (s := a1) (by omega)
        refine stQ hI (code := 0) (val := q_total (pS (P0 M) 15 vv) (M 169) (M 170) a1) (by omega) (fun _ => by omega) ?_ (fun M3 h8 => ?_)
        · unfold w_without f_X9_without
          obtain ⟨⟨v, M4⟩, e4, u1, u2⟩ := c_totalBy hC rfl hQ c1 hv
          rw [c_wSk0 hC rfl c1, eR, if_pos rfl, c_wJu0 hC rfl c2, eR, if_pos rfl, c_only hC rfl, eR, if_pos c3, if_pos rfl, c_evJ hC rfl, eR, p1, e4, eW, eT3, if_pos rfl]
          exact wQ0 u1 (by omega) (fr8_7 hC.1 u2)
        · obtain ⟨r6, r9, r0⟩ := ref_A h8
          obtain ⟨b9, b0, b6⟩ := ref_B hP h8
          unfold f_X10_without
          refine t_let ?_
          refine t_Ve (e_all (by rw [b9]; exact hT)) ?_
          refine t_We (e_noSk0 (by rw [r9]; exact hT) (by rw [r9]; exact c1)) (t_pos (by decide) ?_)
          refine t_We (e_noJu0 (by rw [r9]; exact hT) (by rw [r9]; exact c2)) (t_pos (by decide) ?_)
          refine t_We (e_only0 (by rw [r9]; exact hT) (by rw [r9]; exact c3)) (t_pos (by decide) ?_)
          refine t_let ?_
          rw [show mA (jst M3 166 0 0) 166 15 = ((2 ^ (M 169 2).toNat - 1 : Nat) : Int) from by rw [r6]; exact hQ.2.1, p1]
          exact r_total (pS_jst r6 _ _) (by rw [pst_f (by decide)]; exact r9) (by rw [pst_f (by decide)]; exact r0) hT hN hR hv (by omega) (frX_j (frX_0A M3) (by decide)) (by rw [pst_i (by decide)]; exact mA_0 M3)
      · refine stQ hI (code := 2) (val := 0) (by omega) (fun h => by omega) ?_ (fun M3 h8 => ?_)
        · unfold w_without f_X9_without
          rw [c_wSk0 hC rfl c1, eR, if_pos rfl, c_wJu0 hC rfl c2, eR, if_pos rfl, c_only hC rfl, eR, if_neg c3, if_neg (by decide), eT3, if_neg (by decide), if_neg (by decide), if_pos rfl]
          exact wQ1 (by decide) (fr8_r M)
        · obtain ⟨r6, r9, r0⟩ := ref_A h8
          obtain ⟨b9, b0, b6⟩ := ref_B hP h8
          unfold f_X10_without
          refine t_let ?_
          refine t_Ve (e_all (by rw [b9]; exact hT)) ?_
          refine t_We (e_noSk0 (by rw [r9]; exact hT) (by rw [r9]; exact c1)) (t_pos (by decide) ?_)
          refine t_We (e_noJu0 (by rw [r9]; exact hT) (by rw [r9]; exact c2)) (t_pos (by decide) ?_)
          refine t_We (e_only1 (by rw [r9]; exact hT) (by rw [r9]; omega)) (t_neg (by decide) ?_)
          exact rQt (by decide) (frX_0A M3) (by rw [r6]; exact hcP.1)
    · refine stQ hI (code := 1) (val := 0) (by omega) (fun h => by omega) ?_ (fun M3 h8 => ?_)
      · unfold w_without f_X9_without
        rw [c_wSk0 hC rfl c1, eR, if_pos rfl, c_wJu1 hC rfl j2 c2, eR, if_neg (by decide), eT3, if_neg (by decide), if_pos rfl]
        exact wQ1 (by decide) (fr8_r M)
      · obtain ⟨r6, r9, r0⟩ := ref_A h8
        obtain ⟨b9, b0, b6⟩ := ref_B hP h8
        unfold f_X10_without
        refine t_let ?_
        refine t_Ve (e_all (by rw [b9]; exact hT)) ?_
        refine t_We (e_noSk0 (by rw [r9]; exact hT) (by rw [r9]; exact c1)) (t_pos (by decide) ?_)
        refine t_We (e_noJu1 (by rw [r9]; exact hT) (jin_b j2) (by rw [r9]; exact c2)) (t_neg (by decide) ?_)
        exact rQt (by decide) (frX_0A M3) (by rw [r6]; exact hcP.1)
  · refine stQ hI (code := 1) (val := 0) (by omega) (fun h => by omega) ?_ (fun M3 h8 => ?_)
    · unfold w_without f_X9_without
      rw [c_wSk1 hC rfl j1 c1, eR, if_neg (by decide), eT3, if_neg (by decide), if_pos rfl]
      exact wQ1 (by decide) (fr8_r M)
    · obtain ⟨r6, r9, r0⟩ := ref_A h8
      obtain ⟨b9, b0, b6⟩ := ref_B hP h8
      unfold f_X10_without
      refine t_let ?_
      refine t_Ve (e_all (by rw [b9]; exact hT)) ?_
      refine t_We (e_noSk1 (by rw [r9]; exact hT) (jin_b j1) (by rw [r9]; exact c1)) (t_neg (by decide) ?_)
      exact rQt (by decide) (frX_0A M3) (by rw [r6]; exact hcP.1)
/-- which numbers are panels -/
theorem pan_in {J : Nat} (hJ : J ≤ 9) {v : Int} (hv : jin v) : jnd v (jxr ((2 ^ J - 1 : Nat) : Int) (-1)) = 0 ↔ 0 ≤ v ∧ v ≤ ((2 ^ J - 1 : Nat) : Int) := by
  have h512 : 2 ^ J ≤ 2 ^ 9 := Nat.pow_le_pow_right (by decide) hJ
  have h1p : 1 ≤ 2 ^ J := Nat.one_le_two_pow
  have hb := jin_b hv
  by_cases c : 0 ≤ v
  · have h := pb_andnot (n := v.toNat) (m := 2 ^ J - 1) (by omega)
    rw [← pn_nat c] at h
    rw [h, Nat.and_two_pow_sub_one_eq_mod]
    constructor
    · intro q
      have q1 : v.toNat ^^^ v.toNat % 2 ^ J = 0 := by omega
      have q2 : v.toNat = v.toNat % 2 ^ J := by
        have q3 : v.toNat ^^^ (v.toNat ^^^ v.toNat % 2 ^ J) = v.toNat % 2 ^ J := by rw [← Nat.xor_assoc, Nat.xor_self, Nat.zero_xor]
        rw [q1, Nat.xor_zero] at q3
        exact q3
      have := Nat.mod_lt v.toNat (show 2 ^ J > 0 by omega)
      omega
    · intro q
      rw [Nat.mod_eq_of_lt (by omega), Nat.xor_self]
      rfl
  · constructor
    · intro q
      exfalso
      unfold jnd at q
      have h1 := BitVec.msb_eq_toInt (x := (Int32.ofInt v &&& Int32.ofInt (jxr ((2 ^ J - 1 : Nat) : Int) (-1))).toBitVec)
      have h2 : (Int32.ofInt v &&& Int32.ofInt (jxr ((2 ^ J - 1 : Nat) : Int) (-1))).toBitVec.toInt = 0 := q
      rw [h2, Int32.toBitVec_and, BitVec.msb_and] at h1
      have h3 := BitVec.msb_eq_toInt (x := (Int32.ofInt v).toBitVec)
      have e3 : (Int32.ofInt v).toBitVec.toInt = v := Int32.toInt_ofInt_of_le (by have := hb.1; simpa using this) (by
        have : v < 2147483648 := by omega
        simpa using this)
      rw [e3, decide_eq_true (show v < 0 by omega)] at h3
      have h4 := BitVec.msb_eq_toInt (x := (Int32.ofInt (jxr ((2 ^ J - 1 : Nat) : Int) (-1))).toBitVec)
      unfold jxr at h4 h1
      rw [Int32.ofInt_toInt, Int32.toBitVec_xor, BitVec.msb_xor] at h4 h1
      have h5 : (Int32.ofInt ((2 ^ J - 1 : Nat) : Int)).toBitVec.msb = false := by
        have := BitVec.msb_eq_toInt (x := (Int32.ofInt ((2 ^ J - 1 : Nat) : Int)).toBitVec)
        rw [this]
        have e5 : (Int32.ofInt ((2 ^ J - 1 : Nat) : Int)).toBitVec.toInt = ((2 ^ J - 1 : Nat) : Int) := pb_toInt (pb_tb _) (by omega)
        rw [e5]
        exact decide_eq_false (by omega)
      have h6 : (Int32.ofInt (-1)).toBitVec.msb = true := by decide +kernel
      rw [h3, h5, h6] at h1
      simp at h1
    · intro q
      omega
theorem pan_bit {J v : Nat} (h : v < 2 ^ J) (h0 : v ≠ 0) : ∃ i : Int, (0 ≤ i ∧ i < J) ∧ q_in (v : Int) i = 1 := by
  obtain ⟨i, hi⟩ := Nat.exists_testBit_of_ne_zero h0
  have hJ : i < J := by
    apply Classical.byContradiction
    intro c
    rw [Nat.testBit_lt_two_pow (Nat.lt_of_lt_of_le h (Nat.pow_le_pow_right (by decide) (by omega)))] at hi
    cases hi
  refine ⟨i, by omega, ?_⟩
  unfold q_in
  apply b2_t
  rw [Int.toNat_natCast, Int.toNat_natCast]
  exact hi
/-- by -/
theorem z_31 {M : jM} (hI : Inv M) {a1 a2 : Int} (j1 : jin a1) (j2 : jin a2) : jT (s_31 a1 a2 M) Inv := by
  obtain ⟨hC, hT, hN, hP, hR, hQ, hcP⟩ := inv_ctx hI
  have t0 := hT.1
  have t1 := hT.2.1
  have t2 := hT.2.2.1
  have t3 := hT.2.2.2.1
  have h1p : 1 ≤ 2 ^ (M 169 2).toNat := Nat.one_le_two_pow
  have h512 : 2 ^ (M 169 2).toNat ≤ 2 ^ 9 := Nat.pow_le_pow_right (by decide) (by omega)
  have hb2 := jin_b j2
  unfold s_31
  by_cases c1 : 0 ≤ a1 ∧ a1 < M 169 1
  · by_cases c2 : 1 ≤ a2 ∧ a2 ≤ ((2 ^ (M 169 2).toNat - 1 : Nat) : Int)
    · obtain ⟨pj, pj1, pj2⟩ := pan_bit (J := (M 169 2).toNat) (v := a2.toNat) (by omega) (by omega)
      rw [← pn_nat (by omega)] at pj2
      have hv := cP_of hT hQ (v := a2) (by omega) (show 0 ≤ pj ∧ pj < M 169 2 by omega) pj2
      have hmb := q_total_b hv.1 hT hN hv.2.1 (s := a1) (by omega)
      refine stQ hI (code := 0) (val := q_total (pS (P0 M) 15 a2) (M 169) (M 170) a1) (by omega) (fun _ => by omega) ?_ (fun M3 h8 => ?_)
      · unfold w_by f_X9_by
        obtain ⟨⟨v, M4⟩, e4, u1, u2⟩ := c_totalBy hC rfl hQ c1 hv
        rw [c_wSk0 hC rfl c1, eR, if_pos rfl, eK, pw_of hb2.1 hb2.2, pw_of (z := 1) (by omega) (by omega), if_neg (by omega), c_evJ hC rfl, eR, pw_of (z := ((2 ^ (M 169 2).toNat - 1 : Nat) : Int)) (by omega) (by omega), if_pos c2.2, e4, eW, eT3, if_pos rfl]
        exact wQ0 u1 (by omega) (fr8_7 hC.1 u2)
      · obtain ⟨r6, r9, r0⟩ := ref_A h8
        obtain ⟨b9, b0, b6⟩ := ref_B hP h8
        unfold f_X10_by
        refine t_let ?_
        refine t_Ve (e_all (by rw [b9]; exact hT)) ?_
        refine t_We (e_noSk0 (by rw [r9]; exact hT) (by rw [r9]; exact c1)) (t_pos (by decide) ?_)
        refine t_k ?_
        refine t_k ?_
        rw [pw_of hb2.1 hb2.2]
        refine t_neg (by omega) ?_
        rw [show mA (jst M3 166 0 0) 166 15 = ((2 ^ (M 169 2).toNat - 1 : Nat) : Int) from by rw [r6]; exact hQ.2.1, (pan_in (by omega) j2).mpr (by omega)]
        refine t_pos (by decide) ?_
        refine t_We (e_thr0 _ _) (t_pos (by decide) ?_)
        refine t_let ?_
        exact r_total (pS_jst r6 _ _) (by rw [pst_f (by decide)]; exact r9) (by rw [pst_f (by decide)]; exact r0) hT hN hR hv (by omega) (frX_j (frX_0A M3) (by decide)) (by rw [pst_i (by decide)]; exact mA_0 M3)
    · refine stQ hI (code := 2) (val := 0) (by omega) (fun h => by omega) ?_ (fun M3 h8 => ?_)
      · unfold w_by f_X9_by
        rw [c_wSk0 hC rfl c1, eR, if_pos rfl, eK, pw_of hb2.1 hb2.2, pw_of (z := 1) (by omega) (by omega)]
        by_cases c3 : a2 < 1
        · rw [if_pos c3, eT3, if_neg (by decide), if_neg (by decide), if_pos rfl]
          exact wQ1 (by decide) (fr8_r M)
        · rw [if_neg c3, c_evJ hC rfl, eR, pw_of (z := ((2 ^ (M 169 2).toNat - 1 : Nat) : Int)) (by omega) (by omega), if_neg (by omega), eT3, if_neg (by decide), if_neg (by decide), if_pos rfl]
          exact wQ1 (by decide) (fr8_r M)
      · obtain ⟨r6, r9, r0⟩ := ref_A h8
        obtain ⟨b9, b0, b6⟩ := ref_B hP h8
        unfold f_X10_by
        refine t_let ?_
        refine t_Ve (e_all (by rw [b9]; exact hT)) ?_
        refine t_We (e_noSk0 (by rw [r9]; exact hT) (by rw [r9]; exact c1)) (t_pos (by decide) ?_)
        refine t_k ?_
        refine t_k ?_
        rw [pw_of hb2.1 hb2.2]
        refine t_if (fun c3 => ?_) (fun c3 => ?_)
        · refine t_We (e_thr1 _ _) (t_neg (by decide) ?_)
          exact rQt (by decide) (frX_0A M3) (by rw [r6]; exact hcP.1)
        · rw [show mA (jst M3 166 0 0) 166 15 = ((2 ^ (M 169 2).toNat - 1 : Nat) : Int) from by rw [r6]; exact hQ.2.1]
          have hne : jnd a2 (jxr ((2 ^ (M 169 2).toNat - 1 : Nat) : Int) (-1)) ≠ 0 := fun q => by
            have := (pan_in (by omega) j2).mp q
            omega
          have hjb : -2147483648 ≤ jnd a2 (jxr ((2 ^ (M 169 2).toNat - 1 : Nat) : Int) (-1)) ∧ jnd a2 (jxr ((2 ^ (M 169 2).toNat - 1 : Nat) : Int) (-1)) ≤ 2147483647 := by
            unfold jnd
            have h1 := Int32.le_toInt (Int32.ofInt a2 &&& Int32.ofInt (jxr ((2 ^ (M 169 2).toNat - 1 : Nat) : Int) (-1)))
            have h2 := Int32.toInt_lt (Int32.ofInt a2 &&& Int32.ofInt (jxr ((2 ^ (M 169 2).toNat - 1 : Nat) : Int) (-1)))
            simp only [Int.reducePow, Int.reduceNeg] at h1 h2
            omega
          rw [pw_of hjb.1 hjb.2]
          refine t_neg hne ?_
          refine t_We (e_thr1 _ _) (t_neg (by decide) ?_)
          exact rQt (by decide) (frX_0A M3) (by rw [r6]; exact hcP.1)
  · refine stQ hI (code := 1) (val := 0) (by omega) (fun h => by omega) ?_ (fun M3 h8 => ?_)
    · unfold w_by f_X9_by
      rw [c_wSk1 hC rfl j1 c1, eR, if_neg (by decide), eT3, if_neg (by decide), if_pos rfl]
      exact wQ1 (by decide) (fr8_r M)
    · obtain ⟨r6, r9, r0⟩ := ref_A h8
      obtain ⟨b9, b0, b6⟩ := ref_B hP h8
      unfold f_X10_by
      refine t_let ?_
      refine t_Ve (e_all (by rw [b9]; exact hT)) ?_
      refine t_We (e_noSk1 (by rw [r9]; exact hT) (jin_b j1) (by rw [r9]; exact c1)) (t_neg (by decide) ?_)
      exact rQt (by decide) (frX_0A M3) (by rw [r6]; exact hcP.1)
