/-! ===== what an act changes, on both sides ===== -/
theorem rNm_fr {L Z L' Z' T : Int → Int} {b n : Int} (h : rNm L Z T b n) (hL : L' = L) (hZ : Z' = Z) : rNm L' Z' T b n := by
  subst hL hZ
  exact h
/-- all but the rows of skaters stay -/
theorem rE_sk {e : Int} {M M' : jM} {T N N' : Int → Int} (hT : bT T) (h : rE e M T N) (hf : ∀ a, e ≤ a → a ≤ e + 16 → M' a = M a) (hN : ∀ i, 954 ≤ i → i < 971 → N' i = N i) (hs : ∀ s, 0 ≤ s → s < T 1 → rSk (e + 16 + 1 + 6 * s) M' T N' s) : rE e M' T N' := by
  obtain ⟨h1, h2, h3, h4, h5, h6, h7, h8, h9, h10⟩ := h
  have t0 := hT.1
  unfold rE
  rw [hf e (by omega) (by omega), hf (e + 1) (by omega) (by omega), hf (e + 2) (by omega) (by omega), hf (e + 3) (by omega) (by omega), hf (e + 4) (by omega) (by omega), hf (e + 5) (by omega) (by omega), hf (e + 6) (by omega) (by omega), hf (e + 7) (by omega) (by omega), hf (e + 13) (by omega) (by omega), hf (e + 14) (by omega) (by omega), hf (e + 15) (by omega) (by omega)]
  exact ⟨h1, fun i q0 q1 => by rw [hN _ (by omega) (by omega)]; exact h2 i q0 q1, h3, h4, h5, h6, h7, fun i q0 q1 => by rw [hN _ (by omega) (by omega)]; exact h8 i q0 q1, fun r q0 q1 => rRl_fr (h9 r q0 q1) (fun a x0 x1 => hf a (by omega) (by omega)), hs⟩
def vix (sk wh : Int) : Int := if wh < 108 then 108 * sk + wh else 648 + 27 * sk + (wh - 108)
theorem rE_vote {e : Int} {M : jM} {T N : Int → Int} (hT : bT T) (h : rE e M T N) {sk wh v : Int} (hsk : 0 ≤ sk ∧ sk < 6) (hwh : 0 ≤ wh ∧ wh < 135) : rE e (jst M (e + 16 + 1 + 6 * sk + 5) wh v) T (pS N (vix sk wh) v) := by
  have t1 := hT.2.1
  have t2 := hT.2.2.1
  have hvix : 0 ≤ vix sk wh ∧ vix sk wh < 810 := by unfold vix; split <;> omega
  refine rE_sk hT h (fun a q0 q1 => pst_f (by omega)) (fun i q0 q1 => pS_n (by omega)) (fun s q0 q1 => ?_)
  obtain ⟨x1, x2, x3, x4, x5⟩ := h.2.2.2.2.2.2.2.2.2 s q0 q1
  have tt := hT.2.2.2.2.2.2.1 s q0 (by omega)
  refine ⟨by rw [pst_f (by omega)]; exact x1, ?_, by rw [pst_f (by omega)]; exact x3, fun k k0 k1 => ?_, fun c j c0 c1 d0 d1 => ?_⟩
  · rw [pst_f (by omega), x2]
    congr 1
    exact q_or_congr (fun i _ q => by rw [pS_n (show 882 + (12 * s + i) ≠ vix sk wh by omega)])
  · obtain ⟨y1, y2, y3, y4, y5⟩ := x4 k k0 k1
    refine ⟨by rw [pst_f (by omega)]; exact y1, by rw [pst_f (by omega)]; exact y2, fun i i0 i1 => by rw [pst_f (by omega)]; exact y3 i i0 i1, by rw [pst_f (by omega), pS_n (by omega)]; exact y4, fun j d0 d1 => ?_⟩
    by_cases cs : s = sk
    · subst cs
      by_cases cw : k * 9 + j = wh
      · rw [cw, pst_s, show 9 * (12 * s + k) + j = vix s wh from by unfold vix; rw [if_pos (by omega)]; omega, pS_s]
      · rw [pst_i cw, pS_n (by unfold vix; split <;> omega)]
        exact y5 j d0 d1
    · rw [pst_f (by omega), pS_n (by unfold vix; split <;> omega)]
      exact y5 j d0 d1
  · by_cases cs : s = sk
    · subst cs
      by_cases cw : (12 + c) * 9 + j = wh
      · rw [cw, pst_s, show 648 + 9 * (3 * s + c) + j = vix s wh from by unfold vix; rw [if_neg (by omega)]; omega, pS_s]
      · rw [pst_i cw, pS_n (by unfold vix; split <;> omega)]
        exact x5 c j c0 c1 d0 d1
    · rw [pst_f (by omega), pS_n (by unfold vix; split <;> omega)]
      exact x5 c j c0 c1 d0 d1
theorem rE_call {e : Int} {M : jM} {T N : Int → Int} (hT : bT T) (h : rE e M T N) {sk wh v : Int} (hsk : 0 ≤ sk ∧ sk < 6) (hwh : 0 ≤ wh ∧ wh < 12) : rE e (jst M (e + 16 + 1 + 6 * sk + 4) wh v) T (pS N (810 + (12 * sk + wh)) v) := by
  have t1 := hT.2.1
  have t2 := hT.2.2.1
  refine rE_sk hT h (fun a q0 q1 => pst_f (by omega)) (fun i q0 q1 => pS_n (by omega)) (fun s q0 q1 => ?_)
  obtain ⟨x1, x2, x3, x4, x5⟩ := h.2.2.2.2.2.2.2.2.2 s q0 q1
  have tt := hT.2.2.2.2.2.2.1 s q0 (by omega)
  refine ⟨by rw [pst_f (by omega)]; exact x1, ?_, by rw [pst_f (by omega)]; exact x3, fun k k0 k1 => ?_, fun c j c0 c1 d0 d1 => ?_⟩
  · rw [pst_f (by omega), x2]
    congr 1
    exact q_or_congr (fun i _ q => by rw [pS_n (show 882 + (12 * s + i) ≠ 810 + (12 * sk + wh) by omega)])
  · obtain ⟨y1, y2, y3, y4, y5⟩ := x4 k k0 k1
    refine ⟨by rw [pst_f (by omega)]; exact y1, by rw [pst_f (by omega)]; exact y2, fun i i0 i1 => by rw [pst_f (by omega)]; exact y3 i i0 i1, ?_, fun j d0 d1 => by rw [pst_f (by omega), pS_n (by omega)]; exact y5 j d0 d1⟩
    by_cases cs : s = sk
    · subst cs
      by_cases cw : k = wh
      · rw [cw, pst_s, pS_s]
      · rw [pst_i cw, pS_n (by omega)]
        exact y4
    · rw [pst_f (by omega), pS_n (by omega)]
      exact y4
  · rw [pst_f (by omega), pS_n (by omega)]
    exact x5 c j c0 c1 d0 d1
theorem rE_keepS {e : Int} {M M' : jM} {T N N' : Int → Int} (hT : bT T) (h : rE e M T N) (hf : ∀ a, e + 17 ≤ a → a ≤ e + 52 → M' a = M a) (hN : ∀ i, 0 ≤ i → i < 954 → N' i = N i) : ∀ s, 0 ≤ s → s < T 1 → rSk (e + 16 + 1 + 6 * s) M' T N' s := by
  intro s q0 q1
  have t1 := hT.2.1
  have t2 := hT.2.2.1
  have tt := hT.2.2.2.2.2.2.1 s q0 (by omega)
  have hk := rSk_fr (M' := M') (h.2.2.2.2.2.2.2.2.2 s q0 q1) (fun a x0 x1 => hf a (by omega) (by omega))
  obtain ⟨x1, x2, x3, x4, x5⟩ := hk
  refine ⟨x1, ?_, x3, fun k k0 k1 => ?_, fun c j c0 c1 d0 d1 => by rw [hN _ (by omega) (by omega)]; exact x5 c j c0 c1 d0 d1⟩
  · rw [x2]
    congr 1
    exact q_or_congr (fun i i0 q => by rw [hN _ (by omega) (by omega)])
  · obtain ⟨y1, y2, y3, y4, y5⟩ := x4 k k0 k1
    exact ⟨y1, y2, y3, by rw [hN _ (by omega) (by omega)]; exact y4, fun j d0 d1 => by rw [hN _ (by omega) (by omega)]; exact y5 j d0 d1⟩
theorem rE_base {e : Int} {M : jM} {T N : Int → Int} (hT : bT T) (h : rE e M T N) {wh v : Int} (hwh : 0 ≤ wh ∧ wh < 10) : rE e (jst M (e + 5) wh v) T (pS N (954 + wh) v) := by
  have hS := rE_keepS (M' := jst M (e + 5) wh v) (N' := pS N (954 + wh) v) hT h (fun a q0 q1 => pst_f (by omega)) (fun i q0 q1 => pS_n (by omega))
  obtain ⟨h1, h2, h3, h4, h5, h6, h7, h8, h9, h10⟩ := h
  have t0 := hT.1
  refine ⟨by rw [pst_f (by omega)]; exact h1, fun i q0 q1 => by rw [pst_f (by omega), pS_n (by omega)]; exact h2 i q0 q1, by rw [pst_f (by omega)]; exact h3, by rw [pst_f (by omega)]; exact h4, by rw [pst_f (by omega)]; exact h5, rNm_fr h6 (pst_f (by omega)) (pst_f (by omega)), rNm_fr h7 (pst_f (by omega)) (pst_f (by omega)), fun i q0 q1 => ⟨?_, by rw [pst_f (by omega)]; exact (h8 i q0 q1).2⟩, fun r q0 q1 => rRl_fr (h9 r q0 q1) (fun a x0 x1 => pst_f (by omega)), hS⟩
  by_cases ci : i = wh
  · subst ci
    rw [pst_s, pS_s]
  · rw [pst_i ci, pS_n (by omega)]
    exact (h8 i q0 q1).1
theorem rE_set {e : Int} {M : jM} {T N : Int → Int} (hT : bT T) (h : rE e M T N) {wh v : Int} (hwh : 0 ≤ wh ∧ wh < 7) : rE e (jst M (e + 1) wh v) T (pS N (964 + wh) v) := by
  have hS := rE_keepS (M' := jst M (e + 1) wh v) (N' := pS N (964 + wh) v) hT h (fun a q0 q1 => pst_f (by omega)) (fun i q0 q1 => pS_n (by omega))
  obtain ⟨h1, h2, h3, h4, h5, h6, h7, h8, h9, h10⟩ := h
  have t0 := hT.1
  refine ⟨by rw [pst_f (by omega)]; exact h1, fun i q0 q1 => ?_, by rw [pst_f (by omega)]; exact h3, by rw [pst_f (by omega)]; exact h4, by rw [pst_f (by omega)]; exact h5, rNm_fr h6 (pst_f (by omega)) (pst_f (by omega)), rNm_fr h7 (pst_f (by omega)) (pst_f (by omega)), fun i q0 q1 => ⟨by rw [pst_f (by omega), pS_n (by omega)]; exact (h8 i q0 q1).1, by rw [pst_f (by omega)]; exact (h8 i q0 q1).2⟩, fun r q0 q1 => rRl_fr (h9 r q0 q1) (fun a x0 x1 => pst_f (by omega)), hS⟩
  by_cases ci : i = wh
  · subst ci
    rw [pst_s, pS_s]
  · rw [pst_i ci, pS_n (by omega)]
    exact h2 i q0 q1
theorem q_or_of {n m : Nat} (h : n < 2 ^ m) : q_or (fun k => q_in (n : Int) k) m = n := by
  apply Nat.eq_of_testBit_eq
  intro i
  rw [q_or_bit]
  by_cases c : i < m
  · rw [decide_eq_true c, Bool.true_and]
    unfold q_in
    rw [Int.toNat_natCast, Int.toNat_natCast]
    cases hb : n.testBit i <;> simp [b2]
  · rw [decide_eq_false c, Bool.false_and]
    exact (Nat.testBit_lt_two_pow (Nat.lt_of_lt_of_le h (Nat.pow_le_pow_right (n := 2) (by decide) (show m ≤ i by omega)))).symm
theorem rE_gone {e : Int} {M : jM} {T N N' : Int → Int} (hT : bT T) (h : rE e M T N) {sk v : Int} (hsk : 0 ≤ sk ∧ sk < 6) (hv : 0 ≤ v ∧ v < ((2 ^ (T (116 + sk)).toNat : Nat) : Int)) (hN1 : ∀ k, 0 ≤ k → k < T (116 + sk) → N' (882 + (12 * sk + k)) = q_in v k) (hN2 : ∀ i, i < 882 + 12 * sk ∨ 882 + 12 * sk + T (116 + sk) ≤ i → N' i = N i) : rE e (jst M (e + 16 + 1 + 6 * sk) 1 v) T N' := by
  have t1 := hT.2.1
  have t2 := hT.2.2.1
  have ttk := hT.2.2.2.2.2.2.1 sk hsk.1 hsk.2
  refine rE_sk hT h (fun a q0 q1 => pst_f (by omega)) (fun i q0 q1 => hN2 i (by omega)) (fun s q0 q1 => ?_)
  obtain ⟨x1, x2, x3, x4, x5⟩ := h.2.2.2.2.2.2.2.2.2 s q0 q1
  have tt := hT.2.2.2.2.2.2.1 s q0 (by omega)
  have y : ∀ j, j ≠ 1 → jst M (e + 16 + 1 + 6 * sk) 1 v (e + 16 + 1 + 6 * s) j = M (e + 16 + 1 + 6 * s) j := fun j hj => pst_i hj
  refine ⟨by rw [y 0 (by decide)]; exact x1, ?_, by rw [y 2 (by decide)]; exact x3, fun k k0 k1 => ?_, fun c j c0 c1 d0 d1 => by rw [pst_f (by omega), hN2 _ (by omega)]; exact x5 c j c0 c1 d0 d1⟩
  · by_cases cs : s = sk
    · subst cs
      rw [pst_s]
      have : q_or (fun k => N' (882 + (12 * s + k))) (T (116 + s)).toNat = q_or (fun k => q_in ((v.toNat : Nat) : Int) k) (T (116 + s)).toNat := q_or_congr (fun i i0 i1 => by rw [hN1 i i0 (by omega), ← pn_nat hv.1])
      rw [this, q_or_of (by omega)]
      exact pn_nat hv.1
    · rw [pst_f (by omega), x2]
      congr 1
      exact q_or_congr (fun i i0 q => by rw [hN2 _ (by omega)])
  · obtain ⟨y1, y2, y3, y4, y5⟩ := x4 k k0 k1
    exact ⟨by rw [pst_f (by omega)]; exact y1, by rw [pst_f (by omega)]; exact y2, fun i i0 i1 => by rw [pst_f (by omega)]; exact y3 i i0 i1, by rw [pst_f (by omega), hN2 _ (by omega)]; exact y4, fun j d0 d1 => by rw [pst_f (by omega), hN2 _ (by omega)]; exact y5 j d0 d1⟩
theorem bN_upd {N : Int → Int} (h : bN N) {i v : Int} (h1 : i < 648 → -5 ≤ v ∧ v ≤ 5) (h2 : 648 ≤ i → i < 810 → 0 ≤ v ∧ v ≤ 10) (h3 : 810 ≤ i → i < 882 → 0 ≤ v ∧ v ≤ 7) (h4 : 882 ≤ i → i < 954 → 0 ≤ v ∧ v ≤ 1) (h5 : 954 ≤ i → i < 964 → 0 ≤ v ∧ v ≤ 2000) (h6 : i = 964 → 0 ≤ v ∧ v ≤ 3) (h7 : i = 965 → 0 ≤ v ∧ v ≤ 600) (h8 : i = 966 → 0 ≤ v ∧ v ≤ 50) (h9 : i = 967 → 1 ≤ v ∧ v ≤ 3) (h10 : 968 ≤ i → 0 ≤ v ∧ v ≤ 300) : bN (pS N i v) := by
  obtain ⟨n1, n2, n3, n4, n5, n6, n7, n8, n9, n10⟩ := h
  have key : ∀ j, pS N i v j = v ∧ j = i ∨ pS N i v j = N j ∧ j ≠ i := fun j => by
    by_cases c : j = i
    · subst c; exact Or.inl ⟨pS_s _ _ _, rfl⟩
    · exact Or.inr ⟨pS_n c, c⟩
  refine ⟨fun j q0 q1 => ?_, fun j q0 q1 => ?_, fun j q0 q1 => ?_, fun j q0 q1 => ?_, fun j q0 q1 => ?_, ?_, ?_, ?_, ?_, fun j q0 q1 => ?_⟩
  · have := n1 j q0 q1; rcases key j with ⟨e, c⟩ | ⟨e, c⟩ <;> rw [e] <;> omega
  · have := n2 j q0 q1; rcases key (648 + j) with ⟨e, c⟩ | ⟨e, c⟩ <;> rw [e] <;> omega
  · have := n3 j q0 q1; rcases key (810 + j) with ⟨e, c⟩ | ⟨e, c⟩ <;> rw [e] <;> omega
  · have := n4 j q0 q1; rcases key (882 + j) with ⟨e, c⟩ | ⟨e, c⟩ <;> rw [e] <;> omega
  · have := n5 j q0 q1; rcases key (954 + j) with ⟨e, c⟩ | ⟨e, c⟩ <;> rw [e] <;> omega
  · rcases key 964 with ⟨e, c⟩ | ⟨e, c⟩ <;> rw [e] <;> omega
  · rcases key 965 with ⟨e, c⟩ | ⟨e, c⟩ <;> rw [e] <;> omega
  · rcases key 966 with ⟨e, c⟩ | ⟨e, c⟩ <;> rw [e] <;> omega
  · rcases key 967 with ⟨e, c⟩ | ⟨e, c⟩ <;> rw [e] <;> omega
  · have := n10 j q0 q1; rcases key (968 + j) with ⟨e, c⟩ | ⟨e, c⟩ <;> rw [e] <;> omega
