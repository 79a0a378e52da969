/-! ===== panel ===== -/
theorem and15 (z : Int) : 0 ≤ jnd z 32767 ∧ jnd z 32767 ≤ 32767 := by
  unfold jnd
  have h1 : (Int32.ofInt 32767).toBitVec = BitVec.ofNat 32 32767 := pb_tb 32767
  have h2 : (Int32.ofInt z &&& Int32.ofInt 32767).toBitVec.toNat ≤ 32767 := by
    rw [Int32.toBitVec_and, h1, BitVec.toNat_and]
    exact Nat.le_trans Nat.and_le_right (by decide)
  have h3 : (Int32.ofInt z &&& Int32.ofInt 32767).toBitVec = BitVec.ofNat 32 (Int32.ofInt z &&& Int32.ofInt 32767).toBitVec.toNat := by
    rw [BitVec.ofNat_toNat, BitVec.setWidth_eq]
  have := pb_toInt h3 (by omega)
  rw [this]
  omega
def q_fr (S : Int) (i : Int) : Int := 1 - q_in S i
theorem q_fr_b (S i : Int) : 0 ≤ q_fr S i ∧ q_fr S i ≤ 1 := by
  unfold q_fr
  rcases q_in_b S i with h | h <;> omega
def isO (S among j : Int) : Int := b2 (q_in S j = 0 ∧ sZ (q_fr S) j = among)
def q_out (J S among : Int) : Int := q_first (isO S among) J.toNat 0
theorem sZ_mono {f : Int → Int} (hf : ∀ i, 0 ≤ f i) {a b : Int} (h0 : 0 ≤ a) (h : a ≤ b) : sZ f a ≤ sZ f b := by
  obtain ⟨n, rfl⟩ : ∃ n : Nat, b = a + n := ⟨(b - a).toNat, by omega⟩
  induction n with
  | zero => simp
  | succ n ih =>
    rw [show a + ((n + 1 : Nat) : Int) = (a + n) + 1 from by omega, sZ_s (by omega)]
    have := ih (by omega)
    have := hf (a + n)
    omega
theorem out_uniq {J S among j : Int} (hj : 0 ≤ j ∧ j < J) (h1 : q_in S j = 0) (h2 : sZ (q_fr S) j = among) : q_out J S among = j := by
  have hp : isO S among j ≠ 0 := by unfold isO; rw [b2_t ⟨h1, h2⟩]; decide
  have h := q_first_in (p := isO S among) (m := J.toNat) (i := 0) (k := j) hj.1 (by omega) hp
  obtain ⟨x1, x2, x3⟩ := h
  have x4 : q_in S (q_first (isO S among) J.toNat 0) = 0 ∧ sZ (q_fr S) (q_first (isO S among) J.toNat 0) = among := by
    rcases b2_c (c := q_in S (q_first (isO S among) J.toNat 0) = 0 ∧ sZ (q_fr S) (q_first (isO S among) J.toNat 0) = among) with ⟨q, _⟩ | ⟨_, q⟩
    · exact absurd q x3
    · exact q
  unfold q_out
  apply Classical.byContradiction
  intro hne
  have h5 := sZ_mono (f := q_fr S) (fun i => (q_fr_b S i).1) (a := q_first (isO S among) J.toNat 0 + 1) (b := j) (by omega) (by omega)
  rw [sZ_s x1] at h5
  have : q_fr S (q_first (isO S among) J.toNat 0) = 1 := by unfold q_fr; omega
  omega
/-- there is one -/
theorem out_in {J S among : Int} (hJ : 0 ≤ J) (ha : 0 ≤ among ∧ among < sZ (q_fr S) J) : ∃ j, (0 ≤ j ∧ j < J) ∧ q_in S j = 0 ∧ sZ (q_fr S) j = among := by
  have gen : ∀ n : Nat, (n : Int) ≤ J → among < sZ (q_fr S) n → ∃ j, (0 ≤ j ∧ j < J) ∧ q_in S j = 0 ∧ sZ (q_fr S) j = among := by
    intro n
    induction n with
    | zero => intro _ h; rw [show ((0 : Nat) : Int) = 0 from rfl, sZ_0] at h; omega
    | succ n ih =>
      intro hn h
      rw [show ((n + 1 : Nat) : Int) = (n : Int) + 1 from by omega, sZ_s (by omega)] at h
      by_cases c : among < sZ (q_fr S) n
      · exact ih (by omega) c
      · have := q_fr_b S n
        refine ⟨n, by omega, ?_, by omega⟩
        unfold q_fr at *
        rcases q_in_b S n with q | q <;> omega
  exact gen J.toNat (by omega) (by rw [← pn_nat hJ]; exact ha.2)
theorem out_spec {J S among : Int} (hJ : 0 ≤ J) (ha : 0 ≤ among ∧ among < sZ (q_fr S) J) : (0 ≤ q_out J S among ∧ q_out J S among < J) ∧ q_in S (q_out J S among) = 0 ∧ sZ (q_fr S) (q_out J S among) = among := by
  obtain ⟨j, h1, h2, h3⟩ := out_in hJ ha
  rw [out_uniq h1 h2 h3]
  exact ⟨h1, h2, h3⟩
/-- the draws: number and set -/
def q_dr (J x0 : Int) : Nat → Int × Nat
  | 0 => (x0, 0)
  | n + 1 => (1103515245 * (q_dr J x0 n).1 + 12345, (q_dr J x0 n).2 ||| 2 ^ (q_out J ((q_dr J x0 n).2 : Int) ((jnd (jsr (1103515245 * (q_dr J x0 n).1 + 12345) 16) 32767) % (J - n))).toNat)
theorem fr_or {J : Int} {S : Nat} {j : Int} (hj : 0 ≤ j ∧ j < J) (h : q_in (S : Int) j = 0) : sZ (q_fr ((S ||| 2 ^ j.toNat : Nat) : Int)) J = sZ (q_fr (S : Int)) J - 1 := by
  have key : ∀ i : Int, 0 ≤ i → q_fr ((S ||| 2 ^ j.toNat : Nat) : Int) i = q_fr (S : Int) i - b2 (i = j) := fun i hi => by
    unfold q_fr q_in
    rw [Int.toNat_natCast, Int.toNat_natCast, or_bit]
    by_cases c : i = j
    · subst c
      have h' : S.testBit i.toNat = false := by
        cases hb : S.testBit i.toNat
        · rfl
        · unfold q_in at h
          rw [Int.toNat_natCast, hb] at h
          cases h
      rw [h', b2_t rfl]
      simp [b2]
    · rw [b2_f c, decide_eq_false (show ¬ i.toNat = j.toNat by omega), Bool.or_false]
      omega
  have h1 : sZ (q_fr ((S ||| 2 ^ j.toNat : Nat) : Int)) J = sZ (fun i => q_fr (S : Int) i + (- b2 (i = j))) J := sZ_congr (fun i h0 _ => by rw [key i h0]; omega)
  rw [h1, sZ_add]
  have h2 : ∀ n : Nat, j < n → sS (fun i => - b2 (i = j)) n = -1 := by
    intro n
    induction n with
    | zero => intro q; omega
    | succ n ih =>
      intro q
      show sS (fun i => - b2 (i = j)) n + - b2 ((n : Int) = j) = -1
      by_cases c : (n : Int) = j
      · rw [b2_t c]
        have : sS (fun i => - b2 (i = j)) n = sS (fun _ => 0) n := sS_congr (fun i h0 h1 => by rw [b2_f (by omega)]; rfl)
        rw [this]
        have := sS_b (f := fun _ => (0 : Int)) (lo := 0) (hi := 0) (n := n) (fun _ _ _ => by omega)
        omega
      · rw [ih (by omega), b2_f c]; rfl
  have h3 : sZ (fun i => - b2 (i = j)) J = -1 := h2 J.toNat (by omega)
  omega
theorem dr_inv {J x0 : Int} (hJ : 1 ≤ J ∧ J ≤ 9) : ∀ n : Nat, (n : Int) ≤ J → (q_dr J x0 n).2 < 2 ^ J.toNat ∧ sZ (q_fr ((q_dr J x0 n).2 : Int)) J = J - n := by
  intro n
  induction n with
  | zero =>
    intro _
    refine ⟨Nat.two_pow_pos _, ?_⟩
    have : sZ (q_fr ((q_dr J x0 0).2 : Int)) J = sZ (fun _ => 1) J := sZ_congr (fun i _ _ => by
      show 1 - q_in ((0 : Nat) : Int) i = 1
      have : q_in ((0 : Nat) : Int) i = 0 := by
        unfold q_in
        apply b2_f
        rw [Int.toNat_natCast, Nat.zero_testBit]
        decide
      omega)
    rw [this]
    have := sZ_b (f := fun _ => (1 : Int)) (lo := 1) (hi := 1) (z := J) (by omega) (fun _ _ _ => by omega)
    omega
  | succ n ih =>
    intro hn
    obtain ⟨h1, h2⟩ := ih (by omega)
    have ha := and15 (jsr (1103515245 * (q_dr J x0 n).1 + 12345) 16)
    have hm := Int.emod_nonneg (jnd (jsr (1103515245 * (q_dr J x0 n).1 + 12345) 16) 32767) (show J - (n : Int) ≠ 0 by omega)
    have hm2 := Int.emod_lt_of_pos (jnd (jsr (1103515245 * (q_dr J x0 n).1 + 12345) 16) 32767) (show 0 < J - (n : Int) by omega)
    obtain ⟨o1, o2, o3⟩ := out_spec (J := J) (S := ((q_dr J x0 n).2 : Int)) (among := (jnd (jsr (1103515245 * (q_dr J x0 n).1 + 12345) 16) 32767) % (J - n)) (by omega) (by omega)
    constructor
    · exact Nat.or_lt_two_pow h1 (Nat.pow_lt_pow_right (by decide) (by omega))
    · show sZ (q_fr (((q_dr J x0 n).2 ||| 2 ^ (q_out J ((q_dr J x0 n).2 : Int) ((jnd (jsr (1103515245 * (q_dr J x0 n).1 + 12345) 16) 32767) % (J - n))).toNat : Nat) : Int)) J = _
      rw [fr_or o1 o2, h2]
      omega
theorem c_outside {e : Int} {M : jM} {T N : Int → Int} {S : Nat} {among : Int} (hC : cE e M T N) (he : M 1 3 = e) (hS : S < 2 ^ (T 2).toNat) (ha : 0 ≤ among ∧ among < sZ (q_fr (S : Int)) (T 2)) (ha2 : among ≤ 100) : f_X9_judgeOutside (S : Int) among M = some (q_out (T 2) (S : Int) among) := by
  have t2 := hC.2.1.2.2.1
  have h512 : 2 ^ (T 2).toNat ≤ 2 ^ 9 := Nat.pow_le_pow_right (by decide) (by omega)
  obtain ⟨o1, o2, o3⟩ := out_spec (J := T 2) (S := (S : Int)) (among := among) (by omega) ha
  apply t_get
  unfold f_X9_judgeOutside
  refine t_lp2 (fun c j => 0 ≤ j ∧ j ≤ q_out (T 2) (S : Int) among ∧ c = sZ (q_fr (S : Int)) j) (fun _ j => (T 2 - j).toNat) ?_ jfuel 0 0 (by rw [jfuel_eq]; omega) ⟨by omega, by omega, rfl⟩
  rintro self c j ⟨hj1, hj2, hc⟩ hself
  have hcb := sZ_b (f := q_fr (S : Int)) (lo := 0) (hi := 1) hj1 (fun i _ _ => q_fr_b _ i)
  rw [← hc] at hcb
  rw [he, hC.2.2.2.2.1, pw_of (z := T 2) (by omega) (by omega), pw_of (z := j) (by omega) (by omega)]
  refine t_ck (kd_e hC.1) ?_
  refine t_neg (by omega) ?_
  rw [e_bit (s := (S : Int)) (k := j) (by omega) (by omega)]
  have hsz := sZ_s (f := q_fr (S : Int)) hj1
  rcases q_in_b (S : Int) j with q | q
  · rw [q]
    refine t_pos (by decide) ?_
    have hfr : q_fr (S : Int) j = 1 := by unfold q_fr; omega
    rw [pw_of (z := c) (by omega) (by omega), pw_of (z := among) (by omega) (by omega)]
    refine t_if (fun c1 => ?_) (fun c1 => ?_)
    · refine t_some ?_
      exact (out_uniq (J := T 2) (by omega) q (by omega)).symm
    · refine t_let ?_
      refine t_let ?_
      have : j ≠ q_out (T 2) (S : Int) among := fun h => c1 (by rw [hc, h]; exact o3)
      exact hself _ _ ⟨by omega, by omega, by rw [hsz, hfr, hc]⟩ (by omega)
  · rw [q]
    refine t_neg (by decide) ?_
    refine t_let ?_
    have hfr : q_fr (S : Int) j = 0 := by unfold q_fr; omega
    have : j ≠ q_out (T 2) (S : Int) among := fun h => by rw [h] at q; omega
    exact hself _ _ ⟨by omega, by omega, by rw [hsz, hfr, hc]; omega⟩ (by omega)
set_option maxHeartbeats 1000000 in
theorem z_30 {M : jM} (hI : Inv M) {a1 a2 : Int} (j1 : jin a1) (j2 : jin a2) : jT (s_30 a1 a2 M) Inv := by
  obtain ⟨hC, hT, hN, hP, hR, hQ, hcP⟩ := inv_ctx hI
  have t0 := hT.1
  have t1 := hT.2.1
  have t2 := hT.2.2.1
  have t3 := hT.2.2.2.1
  have hb2 := jin_b j2
  have h512 : 2 ^ (M 169 2).toNat ≤ 2 ^ 9 := Nat.pow_le_pow_right (by decide) (by omega)
  unfold s_30
  by_cases c2 : 1 ≤ a2 ∧ a2 ≤ M 169 2
  · have hfin := (dr_inv (x0 := a1) t2 a2.toNat (by omega)).1
    have draw : ∀ m : Int, M 169 2 - a2 < m → m ≤ M 169 2 → ∀ y, y = jnd (jsr (1103515245 * (q_dr (M 169 2) a1 (M 169 2 - m).toNat).1 + 12345) 16) 32767 → (0 ≤ y.tmod m ∧ y.tmod m < m) ∧ y.tmod m = y % (M 169 2 - (((M 169 2 - m).toNat : Nat) : Int)) := fun m h0 h1 y hy => by
      have hyb := and15 (jsr (1103515245 * (q_dr (M 169 2) a1 (M 169 2 - m).toNat).1 + 12345) 16)
      rw [← hy] at hyb
      rw [Int.tmod_eq_emod_of_nonneg hyb.1, show M 169 2 - (((M 169 2 - m).toNat : Nat) : Int) = m from by omega]
      exact ⟨⟨Int.emod_nonneg _ (by omega), Int.emod_lt_of_pos _ (by omega)⟩, rfl⟩
    have drS : ∀ m : Int, M 169 2 - a2 < m → m ≤ M 169 2 → q_dr (M 169 2) a1 (M 169 2 - (m + -1)).toNat = (1103515245 * (q_dr (M 169 2) a1 (M 169 2 - m).toNat).1 + 12345, (q_dr (M 169 2) a1 (M 169 2 - m).toNat).2 ||| 2 ^ (q_out (M 169 2) ((q_dr (M 169 2) a1 (M 169 2 - m).toNat).2 : Int) ((jnd (jsr (1103515245 * (q_dr (M 169 2) a1 (M 169 2 - m).toNat).1 + 12345) 16) 32767) % (M 169 2 - (((M 169 2 - m).toNat : Nat) : Int)))).toNat) := fun m h0 h1 => by
      rw [show (M 169 2 - (m + -1)).toNat = (M 169 2 - m).toNat + 1 from by omega]
      rfl
    refine stQ hI (code := 0) (val := ((q_dr (M 169 2) a1 a2.toNat).2 : Int)) (by omega) (fun _ => by omega) ?_ (fun M3 h8 => ?_)
    · unfold w_panel f_X9_panel
      have hlp : jlp3 (fun (self8 : Int → Int → Int → Option (Int × Int)) (l3_5 : Int) (l4_6 : Int) (l5_7 : Int) =>
    if jw l5_7 ≤ jw ((M (M 1 3) 0) - a2) then (
      some (0, l4_6))
    else (
      if jw l5_7 ≤ 0 then (
        some (0, l4_6))
      else (
        jlet (((1103515245 * l3_5) + 12345)) fun l3_9 =>
        jck (jw l5_7 ≠ 0) <|
        jbR (f_X9_judgeOutside l4_6 ((jw (jnd (jus l3_9 16) 32767)).tmod (jw l5_7)) M) fun v12 =>
        jlet ((jor l4_6 (jsl 1 v12))) fun l4_13 =>
        jlet (l5_7 + (-1)) fun l5_14 =>
        self8 l3_9 l4_13 l5_14))) jfuel a1 0 (M 169 2) = some (0, ((q_dr (M 169 2) a1 a2.toNat).2 : Int)) := by
        apply t_get
        refine t_lp3 (fun x S m => M 169 2 - a2 ≤ m ∧ m ≤ M 169 2 ∧ x = (q_dr (M 169 2) a1 (M 169 2 - m).toNat).1 ∧ S = ((q_dr (M 169 2) a1 (M 169 2 - m).toNat).2 : Int)) (fun _ _ m => m.toNat) ?_ jfuel a1 0 (M 169 2) (by rw [jfuel_eq]; omega) ⟨by omega, by omega, by rw [show (M 169 2 - M 169 2).toNat = 0 from by omega]; rfl, by rw [show (M 169 2 - M 169 2).toNat = 0 from by omega]; rfl⟩
        rintro self x S m ⟨hm1, hm2, hx, hS⟩ hself
        obtain ⟨i1, i2⟩ := dr_inv (x0 := a1) t2 (M 169 2 - m).toNat (by omega)
        rw [hC.2.2.2.2.1, pw_of (z := m) (by omega) (by omega), pw_of (z := M 169 2 - a2) (by omega) (by omega)]
        refine t_if (fun hc => ?_) (fun hc => ?_)
        · refine t_some ?_
          rw [hS, show (M 169 2 - m).toNat = a2.toNat from by omega]
        · refine t_neg (by omega) ?_
          refine t_let ?_
          refine t_ck (by omega) ?_
          have hyb := and15 (jsr (1103515245 * x + 12345) 16)
          rw [pb_us16, pw_of (z := jnd (jsr (1103515245 * x + 12345) 16) 32767) (by omega) (by omega)]
          obtain ⟨d1, d2⟩ := draw m (by omega) hm2 (jnd (jsr (1103515245 * x + 12345) 16) 32767) (by rw [hx])
          have hou := c_outside (among := (jnd (jsr (1103515245 * x + 12345) 16) 32767).tmod m) hC rfl i1 (by omega) (by omega)
          rw [← hS] at hou
          refine t_Re hou ?_
          refine t_let ?_
          refine t_let ?_
          obtain ⟨o1, o2, o3⟩ := out_spec (J := M 169 2) (S := S) (among := (jnd (jsr (1103515245 * x + 12345) 16) 32767).tmod m) (by omega) (by rw [hS]; omega)
          refine hself _ _ _ ⟨by omega, by omega, ?_, ?_⟩ (by omega)
          · rw [drS m (by omega) hm2, hx]
          · rw [drS m (by omega) hm2, ← hx, ← hS, ← d2]
            rw [hS]
            rw [hS] at o1
            exact or_sl (by omega) (by omega)
      rw [c_wPn hC rfl j2, eR, if_pos c2, if_pos rfl, eC (kd_e hC.1), eL]
      rw [show (M (M 1 3) 0) = M 169 2 from hC.2.2.2.2.1] at hlp ⊢
      rw [hlp, eT2, if_pos rfl]
      exact wQ0 rfl (by omega) (fr8_r M)
    · obtain ⟨r6, r9, r0⟩ := ref_A h8
      obtain ⟨b9, b0, b6⟩ := ref_B hP h8
      unfold f_X10_panel
      refine t_let ?_
      rw [b9, pw_of (z := 2) (by omega) (by omega)]
      refine t_ck (by omega) ?_
      refine t_Re (e_in hb2 (by omega) (by omega)) ?_
      refine t_k ?_
      rw [b2_t c2]
      refine t_neg (by decide) ?_
      refine t_We (e_thr0 _ _) (t_pos (by decide) ?_)
      refine t_ck (by omega) ?_
      rw [b9]
      refine t_let ?_
      refine t_lp3 (fun x S m => M 169 2 - a2 ≤ m ∧ m ≤ M 169 2 ∧ x = (q_dr (M 169 2) a1 (M 169 2 - m).toNat).1 ∧ S = ((q_dr (M 169 2) a1 (M 169 2 - m).toNat).2 : Int)) (fun _ _ m => m.toNat) ?_ jfuel a1 0 (M 169 2) (by rw [jfuel_eq]; omega) ⟨by omega, by omega, by rw [show (M 169 2 - M 169 2).toNat = 0 from by omega]; rfl, by rw [show (M 169 2 - M 169 2).toNat = 0 from by omega]; rfl⟩
      rintro self x S m ⟨hm1, hm2, hx, hS⟩ hself
      obtain ⟨i1, i2⟩ := dr_inv (x0 := a1) t2 (M 169 2 - m).toNat (by omega)
      rw [pw_of (z := m) (by omega) (by omega), pw_of (z := M 169 2 - a2) (by omega) (by omega)]
      refine t_ck (by omega) ?_
      refine t_if (fun hc => ?_) (fun hc => ?_)
      · refine rQ (pst_s _ _ _ _) (fun _ => ?_) (frX_0 M3 0) b6
        rw [hS, show (M 169 2 - m).toNat = a2.toNat from by omega]
      · refine t_let ?_
        refine t_ck (by omega) ?_
        have hyb := and15 (jsr (1103515245 * x + 12345) 16)
        rw [pw_of (z := jnd (jsr (1103515245 * x + 12345) 16) 32767) (by omega) (by omega)]
        obtain ⟨d1, d2⟩ := draw m (by omega) hm2 (jnd (jsr (1103515245 * x + 12345) 16) 32767) (by rw [hx])
        obtain ⟨o1, o2, o3⟩ := out_spec (J := M 169 2) (S := S) (among := (jnd (jsr (1103515245 * x + 12345) 16) 32767).tmod m) (by omega) (by rw [hS]; omega)
        generalize hy : (jnd (jsr (1103515245 * x + 12345) 16) 32767).tmod m = among at d1 d2 o1 o2 o3
        refine t_let ?_
        refine t_lp2 (fun left j => 0 ≤ j ∧ j ≤ q_out (M 169 2) S among ∧ left = among - sZ (q_fr S) j) (fun _ j => (M 169 2 - j).toNat) ?_ jfuel among 0 (by rw [jfuel_eq]; omega) ⟨by omega, by omega, by rw [sZ_0]; omega⟩
        rintro self2 left j ⟨hj1, hj2, hl⟩ hself2
        have hcb := sZ_b (f := q_fr S) (lo := 0) (hi := 1) hj1 (fun i _ _ => q_fr_b _ i)
        have hSb : 0 ≤ S ∧ S ≤ 2147483647 := by omega
        refine t_Re (e_isIn hSb (by omega)) ?_
        have hsz := sZ_s (f := q_fr S) hj1
        refine t_k ?_
        have adv : j ≠ q_out (M 169 2) S among → jT (
              jbR (f_X10_isIn S j) fun v27 =>
              jk (fun (s1_28 : Int) =>
                jlet ((left - s1_28)) fun l6_30 =>
                jlet (j + 1) fun l7_31 =>
                self2 l6_30 l7_31) fun (k29 : Int → Option (Int × jM)) =>
              if jw v27 = 0 then (
                k29 1)
              else (
                k29 0)) (fun q => q.2 166 0 = 0 ∧ ((0 : Int) = 0 → q.1 = ((q_dr (M 169 2) a1 a2.toNat).2 : Int)) ∧ frX M3 q.2 ∧ bP (q.2 166)) := fun hne => by
          refine t_Re (e_isIn hSb (by omega)) ?_
          refine t_k ?_
          rcases q_in_b S j with q | q
          · rw [q]
            refine t_pos (by decide) ?_
            refine t_let ?_
            refine t_let ?_
            have hfr : q_fr S j = 1 := by unfold q_fr; omega
            exact hself2 _ _ ⟨by omega, by omega, by rw [hsz, hfr, hl]; omega⟩ (by omega)
          · rw [q]
            refine t_neg (by decide) ?_
            refine t_let ?_
            refine t_let ?_
            have hfr : q_fr S j = 0 := by unfold q_fr; omega
            exact hself2 _ _ ⟨by omega, by omega, by rw [hsz, hfr, hl]; omega⟩ (by omega)
        rcases q_in_b S j with q | q
        · rw [q]
          refine t_pos (by decide) ?_
          rw [pw_of (z := left) (by omega) (by omega)]
          refine t_if (fun c1 => ?_) (fun c1 => ?_)
          · have hmono := sZ_mono (f := q_fr S) (fun i => (q_fr_b S i).1) hj1 hj2
            have ej : q_out (M 169 2) S among = j := out_uniq (J := M 169 2) (by omega) q (by omega)
            refine t_let ?_
            refine t_let ?_
            refine hself _ _ _ ⟨by omega, by omega, ?_, ?_⟩ (by omega)
            · rw [drS m (by omega) hm2, hx]
            · rw [drS m (by omega) hm2, ← hx, ← hS, ← d2, ej]
              rw [hS]
              exact or_sl (by omega) (by omega)
          · refine adv (fun h => ?_)
            rw [← h] at o3
            omega
        · rw [q]
          refine t_neg (by decide) ?_
          refine adv (fun h => ?_)
          rw [← h] at o2
          omega
  · refine stQ hI (code := 1) (val := 0) (by omega) (fun h => by omega) ?_ (fun M3 h8 => ?_)
    · unfold w_panel f_X9_panel
      rw [c_wPn hC rfl j2, eR, if_neg c2, if_neg (by decide), eT2, if_neg (by decide), if_pos rfl]
      exact wQ1 (by decide) (fr8_r M)
    · obtain ⟨r6, r9, r0⟩ := ref_A h8
      obtain ⟨b9, b0, b6⟩ := ref_B hP h8
      unfold f_X10_panel
      refine t_let ?_
      rw [b9, pw_of (z := 2) (by omega) (by omega)]
      refine t_ck (by omega) ?_
      refine t_Re (e_in hb2 (by omega) (by omega)) ?_
      refine t_k ?_
      rw [b2_f c2]
      refine t_pos (by decide) ?_
      refine t_We (e_thr1 _ _) (t_neg (by decide) ?_)
      exact rQt (by decide) (frX_0 M3 0) b6
