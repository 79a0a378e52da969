/-! ===== steps of questions, I ===== -/
def fr8 (M M' : jM) : Prop := ∀ a, a ≠ 15 → a ≠ 68 → (a < 110 ∨ 158 < a) → a ≠ 180 → M' a = M a
def frX (M M' : jM) : Prop := (∀ a, a ≠ 166 → (a < 173 ∨ 177 < a) → M' a = M a) ∧ ∀ j, j ≠ 0 → (j < 15 ∨ 22 < j) → M' 166 j = M 166 j
theorem fr8_7 {e : Int} {M M' : jM} (he : e = 3 ∨ e = 56) (h : fr7 e M M') : fr8 M M' := fun a q0 q1 q2 _ => h a q2 (by rcases he with he | he <;> subst he <;> omega)
theorem fr8_180 {M M' : jM} (h : fr8 M M') (v : Int) : fr8 M (jst M' 180 0 v) := fun a q0 q1 q2 q3 => by rw [pst_f q3]; exact h a q0 q1 q2 q3
theorem fr8_r (M : jM) : fr8 M M := fun _ _ _ _ _ => rfl
theorem frX_0 (M : jM) (v : Int) : frX M (jst M 166 0 v) := ⟨fun a q0 _ => pst_f q0, fun j q0 _ => pst_i q0⟩
theorem frX_A (M : jM) : frX M (mA M) := ⟨fun a q0 _ => mA_f q0, fun j _ q1 => mA_j q1⟩
theorem frX_t {M M1 M2 : jM} (h1 : frX M M1) (h2 : frX M1 M2) : frX M M2 := ⟨fun a q0 q1 => by rw [h2.1 a q0 q1, h1.1 a q0 q1], fun j q0 q1 => by rw [h2.2 j q0 q1, h1.2 j q0 q1]⟩
theorem frX_34 {M M' : jM} (h : fr34 M M') : frX M M' := ⟨fun a q0 q1 => h a (by omega) (by omega), fun j _ _ => by rw [h 166 (by decide) (by decide)]⟩
theorem frX_3 {M M' : jM} (h : fr3 M M') : frX M M' := ⟨fun a q0 q1 => h a (by omega), fun j _ _ => by rw [h 166 (by decide)]⟩
theorem frX_I {M M' : jM} (h : frI 173 177 M M') : frX M M' := ⟨fun a q0 q1 => h a (by omega), fun j _ _ => by rw [h 166 (by decide)]⟩
theorem frX_I6 {M M' : jM} (h : frI 173 176 M M') : frX M M' := ⟨fun a q0 q1 => h a (by omega), fun j _ _ => by rw [h 166 (by decide)]⟩
theorem frQ_8X {M M1 M2 : jM} (h1 : fr8 M M1) (h2 : frX M1 M2) : frQ M M2 :=
  ⟨fun a q0 q1 q2 q3 q4 q5 => by rw [h2.1 a q3 q4, h1 a q0 q1 q2 q5], fun j q0 q1 => by rw [h2.2 j q0 q1, h1 166 (by decide) (by decide) (by decide) (by decide)]⟩
theorem stQ {M : jM} (hI : Inv M) {o1 : Option (Int × jM)} {g : jM → Option (Int × jM)} {code val : Int} (hc : 0 ≤ code ∧ code ≤ 4) (hv : code = 0 → -2147483648 ≤ val ∧ val ≤ 2147483647)
    (h1 : jT o1 (fun p => p.1 = code ∧ (code = 0 → p.2 180 0 = val) ∧ fr8 M p.2))
    (h2 : ∀ M3, fr8 M M3 → jT (g M3) (fun q => q.2 166 0 = code ∧ (code = 0 → q.1 = val) ∧ frX M3 q.2 ∧ bP (q.2 166))) :
    jT (jbW o1 fun v1 M3 => jbW (g M3) fun v4 M6 => jbR (f_X10_thrown M6) fun v7 => jck (jw v7 = jw v1) <| if jw v1 = 0 then (jck (jw (jcmp (M6 180 (jw 0)) (jw v4)) = 0) <| some M6) else some M6) Inv := by
  refine t_W (t_mono h1 (fun p hp => ?_))
  obtain ⟨a1, a2, a3⟩ := hp
  refine t_W (t_mono (h2 p.2 a3) (fun q hq => ?_))
  obtain ⟨b1, b2, b3, b4⟩ := hq
  have hInv := Inv_fr hI (frQ_8X a3 b3) b4
  refine t_Re rfl ?_
  rw [a1, b1]
  refine t_ck rfl ?_
  rw [pw_of (z := code) (by omega) (by omega)]
  refine t_if (fun c => ?_) (fun c => t_some hInv)
  have hv' := hv c
  refine t_ck ?_ (t_some hInv)
  rw [b3.1 180 (by decide) (by decide), pw_of (z := 0) (by omega) (by omega), a2 c, b2 c, pw_of hv'.1 hv'.2, pcmp_of (by omega) (by omega), if_neg (by omega), if_pos rfl]
  decide
theorem stW {M : jM} (hI : Inv M) {o1 : Option (Int × jM)} {g : jM → Option (Int × jM)} {val : Int}
    (h1 : jT o1 (fun p => p.1 = val ∧ fr8 M p.2)) (h2 : ∀ M3, fr8 M M3 → jT (g M3) (fun q => q.1 = val ∧ frX M3 q.2 ∧ bP (q.2 166))) :
    jT (jbW o1 fun v1 M3 => jbW (g M3) fun v4 M6 => jck (jw v1 = jw v4) <| some M6) Inv := by
  refine t_W (t_mono h1 (fun p hp => ?_))
  obtain ⟨a1, a3⟩ := hp
  refine t_W (t_mono (h2 p.2 a3) (fun q hq => ?_))
  obtain ⟨b2, b3, b4⟩ := hq
  rw [a1, b2]
  exact t_ck rfl (t_some (Inv_fr hI (frQ_8X a3 b3) b4))
def P0 (M : jM) : Int → Int := mA (jst M 166 0 0) 166
theorem P0_eq {M M3 : jM} (h6 : M3 166 = M 166) (h9 : M3 169 = M 169) : P0 M3 = P0 M := by
  unfold P0 mA
  funext j
  have e1 : jst M3 166 0 0 169 = jst M 166 0 0 169 := by rw [pst_f (by decide), pst_f (by decide), h9]
  rw [e1]
  simp only [jst, h6]
theorem P0_cQ {M : jM} (hT : bT (M 169)) (hP : bP (M 166)) : cQ (P0 M) (M 169) 600 0 := by
  have := mA_cQ (M := jst M 166 0 0) (by rw [pst_f (by decide)]; exact hT) (bP_0 hP)
  rw [pst_f (by decide)] at this
  exact this
/-- what a question finds -/
theorem inv_ctx {M : jM} (hI : Inv M) : cE (M 1 3) M (M 169) (M 170) ∧ bT (M 169) ∧ bN (M 170) ∧ bP (M 166) ∧ bR (M 169) ∧ cQ (P0 M) (M 169) 600 0 ∧ cP (P0 M) (M 169) := by
  obtain ⟨hT, hF, hE, hM, hW, hA, hP⟩ := hI
  have hC := hE.1
  exact ⟨hC, hC.2.1, hC.2.2.1, hP, bR_of hC.2.2.2.2.2.2.2.2.2.2.2.2.1, P0_cQ hC.2.1 hP, cQ_cP hC.2.1 (P0_cQ hC.2.1 hP)⟩
/-- the reference's memory after its first row and all() -/
theorem ref_A {M M3 : jM} (h8 : fr8 M M3) : mA (jst M3 166 0 0) 166 = P0 M ∧ mA (jst M3 166 0 0) 169 = M 169 ∧ mA (jst M3 166 0 0) 170 = M 170 := by
  have h6 : M3 166 = M 166 := h8 166 (by decide) (by decide) (by decide) (by decide)
  have h9 : M3 169 = M 169 := h8 169 (by decide) (by decide) (by decide) (by decide)
  have h0 : M3 170 = M 170 := h8 170 (by decide) (by decide) (by decide) (by decide)
  refine ⟨P0_eq h6 h9, ?_, ?_⟩
  · rw [mA_f (by decide), pst_f (by decide), h9]
  · rw [mA_f (by decide), pst_f (by decide), h0]
theorem mA_0 (M : jM) : mA (jst M 166 0 0) 166 0 = 0 := by rw [mA_j (by decide), pst_s]
theorem frX_0A (M : jM) : frX M (mA (jst M 166 0 0)) := frX_t (frX_0 M 0) (frX_A _)
theorem c_evJ {e : Int} {M : jM} {T N : Int → Int} (hC : cE e M T N) (he : M 1 3 = e) : f_X9_everyJudge M = some ((2 ^ (T 2).toNat - 1 : Nat) : Int) := by
  have t2 := hC.2.1.2.2.1
  unfold f_X9_everyJudge
  rw [he, eC (kd_e hC.1), c_every (J := (T 2).toNat) (by rw [hC.2.2.2.2.1]; omega) (by omega), eR]
theorem c_tallied {e s : Int} {M : jM} {P T N : Int → Int} (hC : cE e M T N) (he : M 1 3 = e) (hQ : cQ P T 600 0) (hs : 0 ≤ s ∧ s < T 1) :
    jT (f_X9_tallied s M) (fun p => p.1 = 111 + 6 + 7 * s ∧ fr7 e M p.2 ∧ wT (111 + 6 + 7 * s) e s p.2 P T N ∧ jgd (111 + 6 + 7 * s) s p.2 P T N) := by
  have t1 := hC.2.1.2.1
  unfold f_X9_tallied
  rw [he, pw_of (z := s) (by omega) (by omega)]
  refine t_ck (by omega) ?_
  refine t_ck (kd_e hC.1) ?_
  obtain ⟨l4, l5, -⟩ := ln_t (i := s) (by omega)
  refine t_V (t_mono (c_weigh (t := 111 + 6 + 7 * s) (by omega) l4 l5 hC hs hQ.1 hQ.2.1 hQ.2.2.1 hQ.2.2.2.1 hQ.2.2.2.2.1 (Or.inl ⟨rfl, hQ.2.2.2.2.2⟩)) (fun M4 h4 => ?_))
  exact t_some ⟨rfl, fun a q0 q1 => h4.1 a (by omega) q1, h4.2.1, h4.2.2⟩
theorem bnd_of {lo hi v : Int} (h : lo ≤ v ∧ v ≤ hi) (h1 : -2147483648 ≤ lo) (h2 : hi ≤ 2147483647) : -2147483648 ≤ v ∧ v ≤ 2147483647 := by omega
theorem jin_b {a : Int} (h : jin a) : -2147483648 ≤ a ∧ a ≤ 2147483647 := by
  unfold jin at h
  omega
theorem eT3 {R : Type} (c v : Int) (M : jM) (k : Int → Int → jM → Option R) : jbT3 (some (c, v, M)) k = k c v M := rfl
theorem eT2 {R : Type} (c v : Int) (k : Int → Int → Option R) : jbT2 (some (c, v)) k = k c v := rfl
theorem rQ {v code val : Int} {M3 M6 : jM} (h1 : M6 166 0 = code) (h2 : code = 0 → v = val) (h3 : frX M3 M6) (h4 : bP (M6 166)) : jT (some (v, M6)) (fun q => q.2 166 0 = code ∧ (code = 0 → q.1 = val) ∧ frX M3 q.2 ∧ bP (q.2 166)) := ⟨_, rfl, h1, h2, h3, h4⟩
theorem rQt {v code val : Int} {M3 M6 : jM} (hc : code ≠ 0) (h3 : frX M3 M6) (h4 : bP (M6 166)) : jT (some (v, jst M6 166 0 code)) (fun q => q.2 166 0 = code ∧ (code = 0 → q.1 = val) ∧ frX M3 q.2 ∧ bP (q.2 166)) := rQ (pst_s M6 166 0 code) (fun h => absurd h hc) (frX_t h3 (frX_0 _ _)) (bP_0 h4)
theorem wQ0 {v val : Int} {M M1 : jM} (h : v = val) (hb : -2147483648 ≤ val ∧ val ≤ 2147483647) (h8 : fr8 M M1) : jT (some ((0 : Int), jst M1 180 0 (jw v))) (fun p => p.1 = 0 ∧ ((0 : Int) = 0 → p.2 180 0 = val) ∧ fr8 M p.2) := ⟨_, rfl, rfl, fun _ => by show jst M1 180 0 (jw v) 180 0 = val; rw [pst_s, h, pw_of hb.1 hb.2], fr8_180 h8 _⟩
theorem wQ1 {code val : Int} {M M1 : jM} (hc : code ≠ 0) (h8 : fr8 M M1) : jT (some (code, M1)) (fun p => p.1 = code ∧ (code = 0 → p.2 180 0 = val) ∧ fr8 M p.2) := ⟨_, rfl, rfl, fun h => absurd h hc, h8⟩
section CK
variable {e : Int} {M : jM} {P T N : Int → Int} {s k : Int}
theorem c_wSk0 (hC : cE e M T N) (he : M 1 3 = e) (h : 0 ≤ s ∧ s < T 1) : f_X9_wantSkater s M = some 0 := by
  have t1 := hC.2.1.2.1
  rw [c_wSk hC he (by omega), if_pos h]
theorem c_wSk1 (hC : cE e M T N) (he : M 1 3 = e) (hs : jin s) (h : ¬ (0 ≤ s ∧ s < T 1)) : f_X9_wantSkater s M = some 2 := by
  rw [c_wSk hC he (jin_b hs), if_neg h]
theorem c_wEl0 (hC : cE e M T N) (he : M 1 3 = e) (h : 0 ≤ s ∧ s < T 0) : f_X9_wantElement s M = some 0 := by
  have t1 := hC.2.1.1
  rw [c_wEl hC he (by omega), if_pos h]
theorem c_wEl1 (hC : cE e M T N) (he : M 1 3 = e) (hs : jin s) (h : ¬ (0 ≤ s ∧ s < T 0)) : f_X9_wantElement s M = some 2 := by
  rw [c_wEl hC he (jin_b hs), if_neg h]
theorem c_wJu0 (hC : cE e M T N) (he : M 1 3 = e) (h : 0 ≤ s ∧ s < T 2) : f_X9_wantJudge s M = some 0 := by
  have t1 := hC.2.1.2.2.1
  rw [c_wJu hC he (by omega), if_pos h]
theorem c_wJu1 (hC : cE e M T N) (he : M 1 3 = e) (hs : jin s) (h : ¬ (0 ≤ s ∧ s < T 2)) : f_X9_wantJudge s M = some 2 := by
  rw [c_wJu hC he (jin_b hs), if_neg h]
theorem c_wCo0 (h : 0 ≤ s ∧ s < 3) : f_X9_wantComponent s = some 0 := by
  rw [c_wCo (by omega), if_pos h]
theorem c_wCo1 (hs : jin s) (h : ¬ (0 ≤ s ∧ s < 3)) : f_X9_wantComponent s = some 2 := by
  rw [c_wCo (jin_b hs), if_neg h]
theorem c_wAt0 (hC : cE e M T N) (he : M 1 3 = e) (hP : P 16 = 600) (h : (0 ≤ s ∧ s < T 1) ∧ q_is P T N s k ≠ 0) : f_X9_wantAttempt s k M = some 0 := by
  have t1 := hC.2.1.2.1
  have tt := hC.2.1.2.2.2.2.2.2.1 s h.1.1 (by omega)
  have hk := q_is_k h.2
  rw [c_wAt hC he hP (by omega) (by omega), if_pos h]
theorem c_wAt1 (hC : cE e M T N) (he : M 1 3 = e) (hP : P 16 = 600) (hs : jin s) (hk : jin k) (h : ¬ ((0 ≤ s ∧ s < T 1) ∧ q_is P T N s k ≠ 0)) : f_X9_wantAttempt s k M = some 2 := by
  rw [c_wAt hC he hP (jin_b hs) (jin_b hk), if_neg h]
end CK
/-- the reference's memory after its first row, and after all() -/
theorem ref_B {M M3 : jM} (hP : bP (M 166)) (h8 : fr8 M M3) : jst M3 166 0 0 169 = M 169 ∧ jst M3 166 0 0 170 = M 170 ∧ bP (jst M3 166 0 0 166) := by
  have h6 : M3 166 = M 166 := h8 166 (by decide) (by decide) (by decide) (by decide)
  have h9 : M3 169 = M 169 := h8 169 (by decide) (by decide) (by decide) (by decide)
  have h0 : M3 170 = M 170 := h8 170 (by decide) (by decide) (by decide) (by decide)
  exact ⟨by rw [pst_f (by decide), h9], by rw [pst_f (by decide), h0], bP_0 (by rw [h6]; exact hP)⟩
/-- fault -/
theorem z_3 {M : jM} (hI : Inv M) : jT (s_3 M) Inv := by
  unfold s_3
  refine t_Re rfl ?_
  refine t_We rfl ?_
  refine t_ck ?_ (t_some (Inv_fr hI (frQ_0 M 0) (bP_0 hI.2.2.2.2.2.2)))
  rw [pst_i (by decide), hI.2.1.1]
/-- grade -/
theorem z_7 {M : jM} (hI : Inv M) {a1 a2 a3 : Int} (j1 : jin a1) (j2 : jin a2) (j3 : jin a3) : jT (s_7 a1 a2 a3 M) Inv := by
  obtain ⟨hC, hT, hN, hP, hR, hQ, hcP⟩ := inv_ctx hI
  have t0 := hT.1
  have t1 := hT.2.1
  have t2 := hT.2.2.1
  have t3 := hT.2.2.2.1
  unfold s_7
  by_cases c1 : (0 ≤ a1 ∧ a1 < M 169 1) ∧ q_is (P0 M) (M 169) (M 170) a1 a2 ≠ 0
  · have hkk := q_is_k c1.2
    have tt := hT.2.2.2.2.2.2.1 a1 c1.1.1 (by omega)
    by_cases c2 : 0 ≤ a3 ∧ a3 < M 169 2
    · have hv := hN.1 (9 * (12 * a1 + a2) + a3) (by omega) (by omega)
      refine stQ hI (code := 0) (val := M 170 (9 * (12 * a1 + a2) + a3)) (by omega) (fun _ => by omega) ?_ (fun M3 h8 => ?_)
      · have hvv := ((hC.2.2.2.2.2.2.2.2.2.2.2.2.2 a1 c1.1.1 c1.1.2).2.2.2.1 a2 hkk.1 hkk.2).2.2.2.2 a3 c2.1 c2.2
        unfold w_grade f_X9_grade f_X9_voteOfGrade
        rw [c_wAt0 hC rfl hQ.2.2.1 c1, eR, if_pos rfl, c_wJu0 hC rfl c2, eR, if_pos rfl, eC (kd_e hC.1), pw_of (z := a1) (by omega) (by omega), eC (by omega), eR, pw_of (z := a2 * 9 + a3) (by omega) (by omega), eC (by omega), eT2, if_pos rfl]
        exact wQ0 hvv (by omega) (fr8_r M)
      · skip
        obtain ⟨r6, r9, r0⟩ := ref_A h8
        obtain ⟨b9, b0, b6⟩ := ref_B hP h8
        unfold f_X10_grade
        refine t_let ?_
        refine t_We (e_noTry0 (by rw [b9]; exact hT) (by rw [b0]; exact hN) b6 (by rw [b9]; exact c1.1) (by rw [r6, b9, b0]; exact c1.2)) (t_pos (by decide) ?_)
        refine t_We (e_noJu0 (by rw [r9]; exact hT) (by rw [r9]; exact c2)) (t_pos (by decide) ?_)
        refine t_Re (e_grade (by rw [r6]; exact hcP.1) (by omega) (by omega) (by omega)) ?_
        refine rQ (mA_0 M3) (fun _ => ?_) (frX_0A M3) (by rw [r6]; exact hcP.1)
        unfold q_grade
        rw [r6, r0, hQ.2.2.2.2.1, if_neg (by omega)]
    · refine stQ hI (code := 1) (val := 0) (by omega) (fun h => by omega) ?_ (fun M3 h8 => ?_)
      · unfold w_grade f_X9_grade
        rw [c_wAt0 hC rfl hQ.2.2.1 c1, eR, if_pos rfl, c_wJu1 hC rfl j3 c2, eR, if_neg (by decide), eT2, if_neg (by decide), if_pos rfl]
        exact wQ1 (by decide) (fr8_r M)
      · skip
        obtain ⟨r6, r9, r0⟩ := ref_A h8
        obtain ⟨b9, b0, b6⟩ := ref_B hP h8
        unfold f_X10_grade
        refine t_let ?_
        refine t_We (e_noTry0 (by rw [b9]; exact hT) (by rw [b0]; exact hN) b6 (by rw [b9]; exact c1.1) (by rw [r6, b9, b0]; exact c1.2)) (t_pos (by decide) ?_)
        refine t_We (e_noJu1 (by rw [r9]; exact hT) (jin_b j3) (by rw [r9]; exact c2)) (t_neg (by decide) ?_)
        exact rQt (by decide) (frX_0A M3) (by rw [r6]; exact hcP.1)
  · refine stQ hI (code := 1) (val := 0) (by omega) (fun h => by omega) ?_ (fun M3 h8 => ?_)
    · unfold w_grade f_X9_grade
      rw [c_wAt1 hC rfl hQ.2.2.1 j1 j2 c1, eR, if_neg (by decide), eT2, if_neg (by decide), if_pos rfl]
      exact wQ1 (by decide) (fr8_r M)
    · skip
      obtain ⟨r6, r9, r0⟩ := ref_A h8
      obtain ⟨b9, b0, b6⟩ := ref_B hP h8
      unfold f_X10_grade
      refine t_let ?_
      refine t_We (e_noTry1 (by rw [b9]; exact hT) (by rw [b0]; exact hN) b6 (jin_b j1) (jin_b j2) (by rw [r6, b9, b0]; exact c1)) (t_neg (by decide) ?_)
      exact rQt (by decide) (frX_0A M3) (by rw [r6]; exact hcP.1)
