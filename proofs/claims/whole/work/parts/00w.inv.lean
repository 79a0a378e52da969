/-! ===== the invariant of a run; steps that only ask ===== -/
def iT (M : jM) : Prop := 0 ≤ M 1 1 ∧ M 1 1 ≤ 600 ∧ M 166 2 = M 1 1 ∧ ∀ i, 0 ≤ i → i < M 1 1 → (0 ≤ M 2 i ∧ M 2 i ≤ 255) ∧ M 167 i = jb8 (M 2 i)
def iF (M : jM) : Prop := M 166 8 = M 1 2 ∧ -1 ≤ M 1 2 ∧ M 1 2 ≤ 600
def iE (M : jM) : Prop := cE (M 1 3) M (M 169) (M 170) ∧ (M 1 3 = 3 ∧ M 1 4 = 56 ∨ M 1 3 = 56 ∧ M 1 4 = 3)
def iM (M : jM) : Prop := M 5 0 = 10 ∧ M 16 0 = 6 ∧ M 58 0 = 10 ∧ M 69 0 = 6
def iW (M : jM) : Prop := M 166 31 = M 164 1 ∧ 0 ≤ M 164 1 ∧ M 164 1 ≤ 420 ∧ ∀ i, 0 ≤ i → i < M 164 1 → M 165 i = M 179 i ∧ 0 ≤ M 165 i ∧ M 165 i ≤ 127
/-- an act taken back, on the row of what is told -/
def und (T : Int → Int) (srt sk wh bf : Int) (N : Int → Int) (j : Int) : Int :=
  if srt = 0 then (if j = (if wh < 108 then 108 * sk + wh else 648 + 27 * sk + (wh - 108)) then bf else N j)
  else if srt = 1 then (if j = 810 + (12 * sk + wh) then bf else N j)
  else if srt = 2 then (if j = 954 + wh then bf else N j)
  else if srt = 3 then (if j = 964 + wh then bf else N j)
  else if 882 + 12 * sk ≤ j ∧ j < 882 + 12 * sk + T (116 + sk) then q_in bf (j - (882 + 12 * sk)) else N j
/-- an act that can be taken back -/
def aok (T : Int → Int) (srt sk wh bf : Int) : Prop := 0 ≤ srt ∧ srt ≤ 4 ∧ 0 ≤ sk ∧ sk < 6 ∧ (srt = 0 → 0 ≤ wh ∧ wh < 135 ∧ wh % 9 < T 2 ∧ (wh < 108 → -5 ≤ bf ∧ bf ≤ 5) ∧ (108 ≤ wh → 0 ≤ bf ∧ bf ≤ 10)) ∧ (srt = 1 → 0 ≤ wh ∧ wh < 12 ∧ 0 ≤ bf ∧ bf ≤ 7) ∧ (srt = 2 → 0 ≤ wh ∧ wh < 10 ∧ 0 ≤ bf ∧ bf ≤ 2000) ∧ (srt = 3 → 0 ≤ wh ∧ wh < 7) ∧ (srt = 4 → 0 ≤ bf ∧ bf < ((2 ^ (T (116 + sk)).toNat : Nat) : Int))
/-- the row of what is told ahead of act i -/
def snp (M : jM) (i j : Int) : Int := if i = M 159 0 then M 170 j else M 178 (971 * i + j)
def slo (M : jM) (i : Int) : Int := (M 159 1 + 16 - (M 159 0 - i)) % 16
def iA (M : jM) : Prop := 0 ≤ M 159 0 ∧ M 159 0 ≤ 16 ∧ M 166 29 = M 159 0 ∧ 0 ≤ M 159 1 ∧ M 159 1 < 16
  ∧ ∀ i, 0 ≤ i → i < M 159 0 → bN (snp M i) ∧ aok (M 169) (M 160 (slo M i)) (M 161 (slo M i)) (M 162 (slo M i)) (M 163 (slo M i)) ∧ ∀ j, 0 ≤ j → j < 971 → snp M i j = und (M 169) (M 160 (slo M i)) (M 161 (slo M i)) (M 162 (slo M i)) (M 163 (slo M i)) (snp M (i + 1)) j
def Inv (M : jM) : Prop := iT M ∧ iF M ∧ iE M ∧ iM M ∧ iW M ∧ iA M ∧ bP (M 166)
/-- what a question changes -/
def frQ (M M' : jM) : Prop := (∀ a, a ≠ 15 → a ≠ 68 → (a < 110 ∨ 158 < a) → a ≠ 166 → (a < 173 ∨ 177 < a) → a ≠ 180 → M' a = M a) ∧ ∀ j, j ≠ 0 → (j < 15 ∨ 22 < j) → M' 166 j = M 166 j
theorem frQ_r (M : jM) : frQ M M := ⟨fun _ _ _ _ _ _ _ => rfl, fun _ _ _ => rfl⟩
theorem frQ_t {M M1 M2 : jM} (h1 : frQ M M1) (h2 : frQ M1 M2) : frQ M M2 :=
  ⟨fun a q0 q1 q2 q3 q4 q5 => by rw [h2.1 a q0 q1 q2 q3 q4 q5, h1.1 a q0 q1 q2 q3 q4 q5], fun j q0 q1 => by rw [h2.2 j q0 q1, h1.2 j q0 q1]⟩
theorem Inv_fr {M M' : jM} (h : Inv M) (hf : frQ M M') (hP : bP (M' 166)) : Inv M' := by
  obtain ⟨hT, hF, hE, hM, hW, hA, -⟩ := h
  have c : ∀ a, a ≠ 15 → a ≠ 68 → (a < 110 ∨ 158 < a) → a ≠ 166 → (a < 173 ∨ 177 < a) → a ≠ 180 → M' a = M a := hf.1
  have c1 : M' 1 = M 1 := c 1 (by decide) (by decide) (by decide) (by decide) (by decide) (by decide)
  have c2 : M' 2 = M 2 := c 2 (by decide) (by decide) (by decide) (by decide) (by decide) (by decide)
  have c5 : M' 5 = M 5 := c 5 (by decide) (by decide) (by decide) (by decide) (by decide) (by decide)
  have c16 : M' 16 = M 16 := c 16 (by decide) (by decide) (by decide) (by decide) (by decide) (by decide)
  have c58 : M' 58 = M 58 := c 58 (by decide) (by decide) (by decide) (by decide) (by decide) (by decide)
  have c69 : M' 69 = M 69 := c 69 (by decide) (by decide) (by decide) (by decide) (by decide) (by decide)
  have c159 : M' 159 = M 159 := c 159 (by decide) (by decide) (by decide) (by decide) (by decide) (by decide)
  have c160 : M' 160 = M 160 := c 160 (by decide) (by decide) (by decide) (by decide) (by decide) (by decide)
  have c161 : M' 161 = M 161 := c 161 (by decide) (by decide) (by decide) (by decide) (by decide) (by decide)
  have c162 : M' 162 = M 162 := c 162 (by decide) (by decide) (by decide) (by decide) (by decide) (by decide)
  have c163 : M' 163 = M 163 := c 163 (by decide) (by decide) (by decide) (by decide) (by decide) (by decide)
  have c164 : M' 164 = M 164 := c 164 (by decide) (by decide) (by decide) (by decide) (by decide) (by decide)
  have c165 : M' 165 = M 165 := c 165 (by decide) (by decide) (by decide) (by decide) (by decide) (by decide)
  have c167 : M' 167 = M 167 := c 167 (by decide) (by decide) (by decide) (by decide) (by decide) (by decide)
  have c169 : M' 169 = M 169 := c 169 (by decide) (by decide) (by decide) (by decide) (by decide) (by decide)
  have c170 : M' 170 = M 170 := c 170 (by decide) (by decide) (by decide) (by decide) (by decide) (by decide)
  have c178 : M' 178 = M 178 := c 178 (by decide) (by decide) (by decide) (by decide) (by decide) (by decide)
  have c179 : M' 179 = M 179 := c 179 (by decide) (by decide) (by decide) (by decide) (by decide) (by decide)
  refine ⟨?_, ?_, ?_, ?_, ?_, ?_, hP⟩
  · unfold iT at hT ⊢
    rw [c1, c2, c167, hf.2 2 (by decide) (by decide)]
    exact hT
  · unfold iF at hF ⊢
    rw [c1, hf.2 8 (by decide) (by decide)]
    exact hF
  · unfold iE at hE ⊢
    rw [c1, c169, c170]
    obtain ⟨⟨q1, q2, q3, q4, q5⟩, q6⟩ := hE
    refine ⟨⟨q1, q2, q3, q4, rE_fr q2.2.1.2 q5 (fun a u0 u1 u2 => ?_)⟩, q6⟩
    rcases q1 with q1 | q1 <;> exact c a (by omega) (by omega) (by omega) (by omega) (by omega) (by omega)
  · unfold iM at hM ⊢
    rw [c5, c16, c58, c69]
    exact hM
  · unfold iW at hW ⊢
    rw [c164, c165, c179, hf.2 31 (by decide) (by decide)]
    exact hW
  · unfold iA snp slo at hA ⊢
    rw [c159, c160, c161, c162, c163, c169, c170, c178, hf.2 29 (by decide) (by decide)]
    exact hA
/-- the program's part of a question -/
theorem frQ_7 {e : Int} {M M' : jM} (he : e = 3 ∨ e = 56) (h : fr7 e M M') : frQ M M' :=
  ⟨fun a q0 q1 q2 q3 q4 q5 => h a q2 (by rcases he with he | he <;> subst he <;> omega), fun j _ _ => by rw [h 166 (by omega) (by omega)]⟩
/-- the reference, all judges, all times -/
def mA (M : jM) : jM := jst (jst (jst (jst (jst M 166 15 (((2 ^ (M 169 2).toNat - 1 : Nat) : Int))) 166 16 600) 166 17 (-1)) 166 19 (-1)) 166 22 0
theorem e_all {M : jM} (hT : bT (M 169)) : f_X10_all M = some (mA M) := by
  have t2 := hT.2.2.1
  unfold f_X10_all mA
  have h := pb_sl (M 169 2).toNat (by omega)
  rw [← pn_nat (by omega)] at h
  have h1 : 1 ≤ 2 ^ (M 169 2).toNat := Nat.one_le_two_pow
  rw [eC (by decide), pw_of (z := 2) (by omega) (by omega), h, show ((2 ^ (M 169 2).toNat : Nat) : Int) - 1 = ((2 ^ (M 169 2).toNat - 1 : Nat) : Int) from by omega]
  rfl
theorem mA_f {M : jM} {a : Int} (h : a ≠ 166) : mA M a = M a := by
  unfold mA
  rw [pst_f h, pst_f h, pst_f h, pst_f h, pst_f h]
theorem mA_j {M : jM} {j : Int} (h : j < 15 ∨ 22 < j) : mA M 166 j = M 166 j := by
  unfold mA
  rw [pst_i (by omega), pst_i (by omega), pst_i (by omega), pst_i (by omega), pst_i (by omega)]
theorem mA_15 (M : jM) : mA M 166 15 = (((2 ^ (M 169 2).toNat - 1 : Nat) : Int)) := by
  unfold mA
  rw [pst_i (by decide), pst_i (by decide), pst_i (by decide), pst_i (by decide), pst_s]
theorem mA_16 (M : jM) : mA M 166 16 = 600 := by
  unfold mA
  rw [pst_i (by decide), pst_i (by decide), pst_i (by decide), pst_s]
theorem mA_17 (M : jM) : mA M 166 17 = -1 := by
  unfold mA
  rw [pst_i (by decide), pst_i (by decide), pst_s]
theorem mA_18 (M : jM) : mA M 166 18 = M 166 18 := by
  unfold mA
  rw [pst_i (by decide), pst_i (by decide), pst_i (by decide), pst_i (by decide), pst_i (by decide)]
theorem mA_19 (M : jM) : mA M 166 19 = -1 := by
  unfold mA
  rw [pst_i (by decide), pst_s]
theorem mA_20 (M : jM) : mA M 166 20 = M 166 20 := by
  unfold mA
  rw [pst_i (by decide), pst_i (by decide), pst_i (by decide), pst_i (by decide), pst_i (by decide)]
theorem mA_21 (M : jM) : mA M 166 21 = M 166 21 := by
  unfold mA
  rw [pst_i (by decide), pst_i (by decide), pst_i (by decide), pst_i (by decide), pst_i (by decide)]
theorem mA_22 (M : jM) : mA M 166 22 = 0 := by
  unfold mA
  rw [pst_s]
theorem mA_bP {M : jM} (hT : bT (M 169)) (hP : bP (M 166)) : bP (mA M 166) := by
  have t2 := hT.2.2.1
  have h512 : 2 ^ (M 169 2).toNat ≤ 2 ^ 9 := Nat.pow_le_pow_right (by decide) (by omega)
  unfold bP
  rw [mA_15, mA_16, mA_17, mA_18, mA_19, mA_20, mA_21, mA_22]
  obtain ⟨-, -, -, p18, -, p20, p21, -⟩ := hP
  exact ⟨by omega, by omega, by omega, p18, by omega, p20, p21, by omega⟩
theorem mA_cQ {M : jM} (hT : bT (M 169)) (hP : bP (M 166)) : cQ (mA M 166) (M 169) 600 0 := ⟨mA_bP hT hP, mA_15 M, mA_16 M, mA_17 M, mA_19 M, mA_22 M⟩
theorem mA_frQ (M : jM) : frQ M (mA M) := ⟨fun a _ _ _ q3 _ _ => mA_f q3, fun j _ q1 => mA_j q1⟩
theorem bP_0 {M : jM} {v : Int} (hP : bP (M 166)) : bP (jst M 166 0 v 166) := by
  unfold bP
  rw [pst_i (by decide), pst_i (by decide), pst_i (by decide), pst_i (by decide), pst_i (by decide), pst_i (by decide), pst_i (by decide), pst_i (by decide)]
  exact hP
theorem frQ_0 (M : jM) (v : Int) : frQ M (jst M 166 0 v) := ⟨fun a _ _ _ q3 _ _ => pst_f q3, fun j q0 _ => pst_i q0⟩
theorem frQ_180 (M : jM) (v : Int) : frQ M (jst M 180 0 v) := ⟨fun a _ _ _ _ _ q5 => pst_f q5, fun j _ _ => by rw [pst_f (by decide)]⟩
/-! checks -/
theorem e_thr1 (M : jM) (c : Int) : f_X10_throwsIf 1 c M = some (1, jst M 166 0 c) := by
  unfold f_X10_throwsIf
  rw [if_neg (by decide), eL, eC (Or.inr (by decide))]
theorem e_thr0 (M : jM) (c : Int) : f_X10_throwsIf 0 c M = some (0, M) := by
  unfold f_X10_throwsIf
  rw [if_pos (by decide), eC (Or.inl (by decide))]
theorem e_noSk1 {M : jM} {s : Int} (hT : bT (M 169)) (hs : -2147483648 ≤ s ∧ s ≤ 2147483647) (h : ¬ (0 ≤ s ∧ s < M 169 1)) : f_X10_noSkater s M = some (1, jst M 166 0 1) := by
  have t1 := hT.2.1
  unfold f_X10_noSkater
  rw [eC (by decide), pw_of (z := 1) (by omega) (by omega), e_in hs (by omega) (by omega), eR, eK, b2_f (by omega), if_pos (by decide)]
  dsimp only
  rw [e_thr1, eW, eC (Or.inr (by decide))]
theorem e_noSk0 {M : jM} {s : Int} (hT : bT (M 169)) (h : 0 ≤ s ∧ s < M 169 1) : f_X10_noSkater s M = some (0, M) := by
  have t1 := hT.2.1
  unfold f_X10_noSkater
  rw [eC (by decide), pw_of (z := 1) (by omega) (by omega), e_in (by omega) (by omega) (by omega), eR, eK, b2_t (by omega), if_neg (by decide)]
  dsimp only
  rw [e_thr0, eW, eC (Or.inl (by decide))]
theorem e_noEl1 {M : jM} {s : Int} (hT : bT (M 169)) (hs : -2147483648 ≤ s ∧ s ≤ 2147483647) (h : ¬ (0 ≤ s ∧ s < M 169 0)) : f_X10_noElement s M = some (1, jst M 166 0 1) := by
  have t1 := hT.1
  unfold f_X10_noElement
  rw [eC (by decide), pw_of (z := 0) (by omega) (by omega), e_in hs (by omega) (by omega), eR, eK, b2_f (by omega), if_pos (by decide)]
  dsimp only
  rw [e_thr1, eW, eC (Or.inr (by decide))]
theorem e_noEl0 {M : jM} {s : Int} (hT : bT (M 169)) (h : 0 ≤ s ∧ s < M 169 0) : f_X10_noElement s M = some (0, M) := by
  have t1 := hT.1
  unfold f_X10_noElement
  rw [eC (by decide), pw_of (z := 0) (by omega) (by omega), e_in (by omega) (by omega) (by omega), eR, eK, b2_t (by omega), if_neg (by decide)]
  dsimp only
  rw [e_thr0, eW, eC (Or.inl (by decide))]
theorem e_noJu1 {M : jM} {s : Int} (hT : bT (M 169)) (hs : -2147483648 ≤ s ∧ s ≤ 2147483647) (h : ¬ (0 ≤ s ∧ s < M 169 2)) : f_X10_noJudge s M = some (1, jst M 166 0 1) := by
  have t1 := hT.2.2.1
  unfold f_X10_noJudge
  rw [eC (by decide), pw_of (z := 2) (by omega) (by omega), e_in hs (by omega) (by omega), eR, eK, b2_f (by omega), if_pos (by decide)]
  dsimp only
  rw [e_thr1, eW, eC (Or.inr (by decide))]
theorem e_noJu0 {M : jM} {s : Int} (hT : bT (M 169)) (h : 0 ≤ s ∧ s < M 169 2) : f_X10_noJudge s M = some (0, M) := by
  have t1 := hT.2.2.1
  unfold f_X10_noJudge
  rw [eC (by decide), pw_of (z := 2) (by omega) (by omega), e_in (by omega) (by omega) (by omega), eR, eK, b2_t (by omega), if_neg (by decide)]
  dsimp only
  rw [e_thr0, eW, eC (Or.inl (by decide))]
theorem e_noCo1 {M : jM} {s : Int} (hs : -2147483648 ≤ s ∧ s ≤ 2147483647) (h : ¬ (0 ≤ s ∧ s < 3)) : f_X10_noComponent s M = some (1, jst M 166 0 1) := by
  unfold f_X10_noComponent
  rw [e_in hs (by omega) (by omega), eR, eK, b2_f (by omega), if_pos (by decide)]
  dsimp only
  rw [e_thr1, eW, eC (Or.inr (by decide))]
theorem e_noCo0 {M : jM} {s : Int} (h : 0 ≤ s ∧ s < 3) : f_X10_noComponent s M = some (0, M) := by
  unfold f_X10_noComponent
  rw [e_in (by omega) (by omega) (by omega), eR, eK, b2_t (by omega), if_neg (by decide)]
  dsimp only
  rw [e_thr0, eW, eC (Or.inl (by decide))]
theorem e_noTry0 {M : jM} {s k : Int} (hT : bT (M 169)) (hN : bN (M 170)) (hP : bP (M 166)) (hs : 0 ≤ s ∧ s < M 169 1) (h : q_is (mA M 166) (M 169) (M 170) s k ≠ 0) : f_X10_noTry s k M = some (0, mA M) := by
  have t1 := hT.2.1
  have hk := q_is_k h
  have tt := hT.2.2.2.2.2.2.1 s hs.1 (by omega)
  have e9 : mA M 169 = M 169 := mA_f (by decide)
  have e0 : mA M 170 = M 170 := mA_f (by decide)
  unfold f_X10_noTry
  rw [e_all hT, eV, e_noSk0 (by rw [e9]; exact hT) (by rw [e9]; exact hs), eW, if_pos (by decide), e_is (mA_bP hT hP) (by rw [e9]; exact hT) (by rw [e0]; exact hN) (by omega) (by omega), eR, eK, e9, e0]
  rcases q_is_b (mA M 166) (M 169) (M 170) s k with q | q
  · exact absurd q h
  · rw [q, if_neg (by decide)]
    dsimp only
    rw [e_thr0, eW, if_pos (by decide)]
theorem e_noTry1 {M : jM} {s k : Int} (hT : bT (M 169)) (hN : bN (M 170)) (hP : bP (M 166)) (hs : -2147483648 ≤ s ∧ s ≤ 2147483647) (hk : -2147483648 ≤ k ∧ k ≤ 2147483647) (h : ¬ ((0 ≤ s ∧ s < M 169 1) ∧ q_is (mA M 166) (M 169) (M 170) s k ≠ 0)) : f_X10_noTry s k M = some (1, jst (mA M) 166 0 1) := by
  have t1 := hT.2.1
  have e9 : mA M 169 = M 169 := mA_f (by decide)
  have e0 : mA M 170 = M 170 := mA_f (by decide)
  unfold f_X10_noTry
  rw [e_all hT, eV]
  by_cases c : 0 ≤ s ∧ s < M 169 1
  · rw [e_noSk0 (by rw [e9]; exact hT) (by rw [e9]; exact c), eW, if_pos (by decide), e_is (mA_bP hT hP) (by rw [e9]; exact hT) (by rw [e0]; exact hN) (by omega) hk, eR, eK, e9, e0]
    rcases q_is_b (mA M 166) (M 169) (M 170) s k with q | q
    · rw [q, if_pos (by decide)]
      dsimp only
      rw [e_thr1, eW, if_neg (by decide)]
    · exact absurd ⟨c, by omega⟩ h
  · rw [e_noSk1 (by rw [e9]; exact hT) hs (by rw [e9]; exact c), eW, if_neg (by decide)]
/-! checks of the program -/
theorem c_wSk {e : Int} {M : jM} {T N : Int → Int} (hC : cE e M T N) (he : M 1 3 = e) {s : Int} (hs : -2147483648 ≤ s ∧ s ≤ 2147483647) : f_X9_wantSkater s M = some (if 0 ≤ s ∧ s < T 1 then 0 else 2) := by
  have t1 := hC.2.1.2.1
  unfold f_X9_wantSkater
  rw [eK, he, hC.2.2.2.2.2.2.2.1, eC (kd_e hC.1), pw_of hs.1 hs.2, pw_of (z := T 1) (by omega) (by omega)]
  by_cases c : s < 0
  · rw [if_pos c, if_neg (by omega)]
  · rw [if_neg c]
    by_cases c2 : s < T 1
    · rw [if_pos c2, if_pos (by omega)]
    · rw [if_neg c2, if_neg (by omega)]
theorem c_wEl {e : Int} {M : jM} {T N : Int → Int} (hC : cE e M T N) (he : M 1 3 = e) {s : Int} (hs : -2147483648 ≤ s ∧ s ≤ 2147483647) : f_X9_wantElement s M = some (if 0 ≤ s ∧ s < T 0 then 0 else 2) := by
  have t1 := hC.2.1.1
  unfold f_X9_wantElement
  rw [eK, he, hC.2.2.2.2.2.2.1, eC (kd_e hC.1), pw_of hs.1 hs.2, pw_of (z := T 0) (by omega) (by omega)]
  by_cases c : s < 0
  · rw [if_pos c, if_neg (by omega)]
  · rw [if_neg c]
    by_cases c2 : s < T 0
    · rw [if_pos c2, if_pos (by omega)]
    · rw [if_neg c2, if_neg (by omega)]
theorem c_wJu {e : Int} {M : jM} {T N : Int → Int} (hC : cE e M T N) (he : M 1 3 = e) {s : Int} (hs : -2147483648 ≤ s ∧ s ≤ 2147483647) : f_X9_wantJudge s M = some (if 0 ≤ s ∧ s < T 2 then 0 else 2) := by
  have t1 := hC.2.1.2.2.1
  unfold f_X9_wantJudge
  rw [eK, he, hC.2.2.2.2.1, eC (kd_e hC.1), pw_of hs.1 hs.2, pw_of (z := T 2) (by omega) (by omega)]
  by_cases c : s < 0
  · rw [if_pos c, if_neg (by omega)]
  · rw [if_neg c]
    by_cases c2 : s < T 2
    · rw [if_pos c2, if_pos (by omega)]
    · rw [if_neg c2, if_neg (by omega)]
theorem c_wCo {s : Int} (hs : -2147483648 ≤ s ∧ s ≤ 2147483647) : f_X9_wantComponent s = some (if 0 ≤ s ∧ s < 3 then 0 else 2) := by
  unfold f_X9_wantComponent
  rw [eK, pw_of hs.1 hs.2, pw_of (z := 3) (by omega) (by omega)]
  by_cases c : s < 0
  · rw [if_pos c, if_neg (by omega)]
  · rw [if_neg c]
    by_cases c2 : s < 3
    · rw [if_pos c2, if_pos (by omega)]
    · rw [if_neg c2, if_neg (by omega)]
theorem c_wAt {e : Int} {M : jM} {P T N : Int → Int} (hC : cE e M T N) (he : M 1 3 = e) (hP : P 16 = 600) {s k : Int} (hs : -2147483648 ≤ s ∧ s ≤ 2147483647) (hk : -2147483648 ≤ k ∧ k ≤ 2147483647) : f_X9_wantAttempt s k M = some (if (0 ≤ s ∧ s < T 1) ∧ q_is P T N s k ≠ 0 then 0 else 2) := by
  have hT := hC.2.1
  have t1 := hT.2.1
  unfold f_X9_wantAttempt
  rw [c_wSk hC he hs, eR, he]
  by_cases c : 0 ≤ s ∧ s < T 1
  · rw [if_pos c, if_pos rfl, eC (kd_e hC.1), pw_of (z := s) (by omega) (by omega), eC (by omega), c_has hT hC.2.2.1 (by omega) (hC.2.2.2.2.2.2.2.2.2.2.2.2.2 s c.1 c.2) hk, eR]
    have tt := hT.2.2.2.2.2.2.1 s c.1 (by omega)
    by_cases c2 : 0 ≤ k ∧ k < T (116 + s) ∧ N (882 + (12 * s + k)) = 0
    · have htm := hT.2.2.2.2.2.2.2.1 (12 * s + k) (by omega) (by omega)
      have hq : q_is P T N s k = 1 := by
        unfold q_is
        exact b2_t ⟨c2.1, c2.2.1, c2.2.2, by omega⟩
      rw [b2_t c2, if_neg (by decide), if_pos ⟨c, by omega⟩]
    · have hq : q_is P T N s k = 0 := by
        unfold q_is
        exact b2_f (fun x => c2 ⟨x.1, x.2.1, x.2.2.1⟩)
      rw [b2_f c2, if_pos (by decide), if_neg (fun x => x.2 hq)]
  · rw [if_neg c, if_neg (by decide), if_neg (fun q => c q.1)]
