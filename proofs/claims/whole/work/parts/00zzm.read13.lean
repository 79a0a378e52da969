/-! ===== reading: votes, reference ===== -/
def ltQ (tx : Int → Int) (n p J a b : Int) (M X : jM) : Prop := (ltOk tx n p J ∧ X 166 7 = -1 ∧ rAt tx n (bl tx n (rn isLt tx n p)) X ∧ (∀ k, 0 ≤ k → k < J → X 172 (a + k) = tx (p + k) - 97 - b) ∧ (∀ j, (j < a ∨ a + J ≤ j) → X 172 j = M 172 j) ∨ ¬ ltOk tx n p J ∧ X 166 7 = p ∧ X 172 = M 172) ∧ rPt n X ∧ (∀ c, c ≠ 166 → c ≠ 172 → X c = M c) ∧ ∀ j, j ≠ 4 → j ≠ 5 → j ≠ 7 → X 166 j = M 166 j
theorem e_letters {tx : Int → Int} {n p J a b : Int} {M : jM} (hO : okT tx n) (hx : rTx tx n M) (ha : rAt tx n p M) (h7 : M 166 7 = -1) (hJ : M 171 2 = J) (hJb : 1 ≤ J ∧ J ≤ 9) (hab : 0 ≤ a ∧ a + 9 ≤ 971) : jT (f_X10_letters a b M) (ltQ tx n p J a b M) := by
  obtain ⟨p0, p1, p2, p3⟩ := rAt_b ha
  have hr := rn_b (c := isLt) (tx := tx) p1
  have n6 := hO.2.1
  unfold f_X10_letters
  refine t_Re (e_failed (by omega)) ?_
  rw [if_pos h7]
  refine t_pos (by decide) ?_
  refine t_W (t_mono (e_wordMany hO hx ha) (fun q hq => ?_))
  obtain ⟨g0, g1, g2, g3⟩ := hq
  have hx4 := rTx_fr hx g3
  have e71 : q.2 171 = M 171 := g3.1 171 (by decide)
  have e7 : q.2 166 7 = -1 := by rw [g3.2 7 (by decide) (by decide)]; exact h7
  have hlt : ∀ k, 0 ≤ k → k < rn isLt tx n p - p → (97 ≤ tx (p + k) ∧ tx (p + k) ≤ 122) ∧ q.2 167 (p + k) = tx (p + k) := fun k q0 q1 => by
    have h := isLt_i.1 (hr.2.2.1 (p + k) (by omega) (by omega))
    exact ⟨h, by rw [hx4.2 (p + k) (by omega) (by omega), b8_o (by omega), if_pos (by omega)]⟩
  rw [g0, e71, pw_of (z := 2) (by omega) (by omega), hJ, pw_of (z := J) (by omega) (by omega), pw_of (z := rn isLt tx n p - p) (by omega) (by omega)]
  refine t_ck (by decide) ?_
  refine t_kP (fun kk => ∀ f, (f = 0 ∨ f = 1) → (f = 1 ↔ rn isLt tx n p - p = J) → jT (kk f) (ltQ tx n p J a b M)) ?_ ?_
  · intro f0 hf0 hfj
    refine t_lp2 (fun f i => (f = 0 ∨ f = 1) ∧ 0 ≤ i ∧ i ≤ rn isLt tx n p - p ∧ (f = 1 ↔ rn isLt tx n p - p = J ∧ ∀ k, 0 ≤ k → k < i → tx (p + k) ≤ 107)) (fun _ i => (rn isLt tx n p - p - i).toNat) ?_ jfuel f0 0 (by rw [jfuel_eq]; omega) ⟨hf0, by omega, by omega, ⟨fun q => ⟨hfj.1 q, fun k q0 q1 => by omega⟩, fun q => hfj.2 q.1⟩⟩
    rintro self f i ⟨hf01, hi1, hi2, hfi⟩ hself
    refine t_kP (fun kk => (f = 0 ∨ i = rn isLt tx n p - p) → jT kk (ltQ tx n p J a b M)) ?_ ?_
    · intro hend
      rw [pw_of (z := f) (by omega) (by omega)]
      refine t_if (fun c => ?_) (fun c => ?_)
      · refine t_Ve (e_fails0 e7) ?_
        refine t_some ⟨Or.inr ⟨fun q => ?_, by rw [pst_s]; exact g2, by rw [pst_f (by decide)]; exact g3.1 172 (by decide)⟩, ?_, fun x q0 q1 => by rw [pst_f q0]; exact g3.1 x q0, fun j q4 q5 q7 => by rw [pst_i q7]; exact g3.2 j q4 q5⟩
        · have := hfi.2 ⟨q.1, fun k q0 q1 => q.2 k q0 (by have := q.1; omega)⟩
          omega
        · unfold rPt
          rw [pst_i (by decide), g1]
          omega
      · have hok := hfi.1 (by omega)
        have hiE : i = rn isLt tx n p - p := by omega
        have hlo : ltOk tx n p J := ⟨hok.1, fun k q0 q1 => hok.2 k q0 (by have := hok.1; omega)⟩
        have hlJ := hok.1
        refine t_lp2 (fun i X => 0 ≤ i ∧ i ≤ J ∧ (∀ k, 0 ≤ k → k < i → X 172 (a + k) = tx (p + k) - 97 - b) ∧ (∀ j, (j < a ∨ a + J ≤ j) → X 172 j = M 172 j) ∧ ∀ c, c ≠ 172 → X c = q.2 c) (fun i _ => (J - i).toNat) ?_ jfuel 0 q.2 (by rw [jfuel_eq]; omega) ⟨by omega, by omega, fun k q0 q1 => by omega, fun j _ => by rw [g3.1 172 (by decide)], fun _ _ => rfl⟩
        rintro self2 y X ⟨hy1, hy2, hX1, hX2, hX3⟩ hself2
        have x166 : X 166 = q.2 166 := hX3 166 (by decide)
        rw [pw_of (z := y) (by omega) (by omega), x166, g1, hlJ]
        refine t_if (fun c2 => ?_) (fun c2 => ?_)
        · refine t_let ?_
          refine t_some ⟨Or.inl ⟨hlo, ?_, ?_, fun k q0 q1 => ?_, fun j q => ?_⟩, ?_, fun x q0 q1 => ?_, fun j q4 q5 q7 => ?_⟩
          · rw [pst_i (by decide), x166]
            exact e7
          · unfold rAt
            rw [pst_s, show p + J = rn isLt tx n p from by omega]
            exact ⟨by omega, hr.2.1, rfl⟩
          · rw [pst_f (by decide)]
            exact hX1 k q0 (by omega)
          · rw [pst_f (by decide)]
            exact hX2 j q
          · unfold rPt
            rw [pst_s]
            omega
          · rw [pst_f q0, hX3 x q1]
            exact g3.1 x q0
          · rw [pst_i q4, x166]
            exact g3.2 j q4 q5
        · have hk := hlt y hy1 (by omega)
          rw [pw_of (z := p + y) (by omega) (by omega), hX3 167 (by decide), hk.2, pw_of (z := a + y) (by omega) (by omega)]
          refine t_ck (by omega) ?_
          refine t_ck (by omega) ?_
          refine t_let ?_
          refine t_let ?_
          refine hself2 _ _ ⟨by omega, by omega, fun k q0 q1 => ?_, fun j q => by rw [pst_i (by omega)]; exact hX2 j q, fun c q => by rw [pst_f q]; exact hX3 c q⟩ (by omega)
          by_cases ck : k = y
          · subst ck
            rw [pst_s]
          · rw [pst_i (by omega)]
            exact hX1 k q0 (by omega)
    · intro k12 hk12
      rw [pw_of (z := i) (by omega) (by omega), pw_of (z := f) (by omega) (by omega)]
      refine t_if (fun c => hk12 (Or.inr (by omega))) (fun c => ?_)
      refine t_if (fun c1 => hk12 (Or.inl c1)) (fun c1 => ?_)
      have hk := hlt i hi1 (by omega)
      have hf1 := hfi.1 (by omega)
      rw [g1, pw_of (z := p + i) (by omega) (by omega), hk.2, pw_of (z := tx (p + i)) (by omega) (by omega), pw_of (z := 107) (by omega) (by omega)]
      refine t_ck (by omega) ?_
      refine t_k ?_
      refine t_if (fun c2 => ?_) (fun c2 => ?_)
      · refine t_let ?_
        refine hself _ _ ⟨Or.inl rfl, by omega, by omega, ⟨fun q => by omega, fun q => ?_⟩⟩ (by omega)
        have := q.2 i hi1 (by omega)
        omega
      · refine t_let ?_
        refine hself _ _ ⟨Or.inr rfl, by omega, by omega, ⟨fun _ => ⟨hf1.1, fun k q0 q1 => ?_⟩, fun _ => rfl⟩⟩ (by omega)
        by_cases ck : k = i
        · subst ck; omega
        · exact hf1.2 k q0 (by omega)
  · intro k8 hk8
    refine t_if (fun c => hk8 1 (Or.inr rfl) ⟨fun _ => c, fun _ => rfl⟩) (fun c => hk8 0 (Or.inl rfl) ⟨fun q => by omega, fun q => absurd q c⟩)
