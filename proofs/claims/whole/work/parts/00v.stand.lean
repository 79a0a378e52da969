/-! ===== standings of the program ===== -/
theorem ln_t0 : ∀ i, i < 6 → jln (111 + 6 + 7 * ((i : Nat) : Int) + 4) = 10 ∧ jln (111 + 6 + 7 * ((i : Nat) : Int) + 5) = 10 ∧ jkd (111 + 6 + 7 * ((i : Nat) : Int)) = 8 := by decide +kernel
theorem ln_t {i : Int} (h : 0 ≤ i ∧ i < 6) : jln (111 + 6 + 7 * i + 4) = 10 ∧ jln (111 + 6 + 7 * i + 5) = 10 ∧ jkd (111 + 6 + 7 * i) = 8 := by
  have := ln_t0 i.toNat (by omega)
  rw [← pn_nat h.1] at this
  exact this
def aW (e : Int) (M : jM) (P T N : Int → Int) : Prop := M 110 0 = e ∧ ∀ i, 0 ≤ i → i < T 1 → wT (111 + 6 + 7 * i) e i M P T N
def aJ (M : jM) (P T N : Int → Int) : Prop := ∀ i, 0 ≤ i → i < T 1 → jgd (111 + 6 + 7 * i) i M P T N
def fr7 (e : Int) (M M' : jM) : Prop := ∀ a, (a < 110 ∨ 158 < a) → a ≠ e + 12 → M' a = M a
theorem fr7_r (e : Int) (M : jM) : fr7 e M M := fun _ _ _ => rfl
theorem fr7_t {e : Int} {M M1 M2 : jM} (h1 : fr7 e M M1) (h2 : fr7 e M1 M2) : fr7 e M M2 := fun a q0 q1 => by rw [h2 a q0 q1, h1 a q0 q1]
theorem cE_fr {e : Int} {M M' : jM} {T N : Int → Int} (h : cE e M T N) (hf : fr7 e M M') : cE e M' T N := by
  obtain ⟨he, hT, hN, hL, hE⟩ := h
  exact ⟨he, hT, hN, hL, rE_fr hT.2.1.2 hE (fun a q0 q1 q2 => hf a (by omega) q2)⟩
theorem c_skaters {e : Int} {M : jM} {T N : Int → Int} (hC : cE e M T N) (h110 : M 110 0 = e) : f_X7_skaters M = some (T 1) := by
  unfold f_X7_skaters
  rw [h110, eC (kd_e hC.1), hC.2.2.2.2.2.2.2.1]
/-- parameters that go with the program's weighing -/
def cQ (P T : Int → Int) (until_ clean : Int) : Prop := bP P ∧ P 15 = ((2 ^ (T 2).toNat - 1 : Nat) : Int) ∧ P 16 = until_ ∧ P 17 = -1 ∧ P 19 = -1 ∧ P 22 = clean
theorem cQ_cP {P T : Int → Int} {u c : Int} (hT : bT T) (h : cQ P T u c) : cP P T := by
  have t2 := hT.2.2.1
  have h1p : 1 ≤ 2 ^ (T 2).toNat := Nat.one_le_two_pow
  exact ⟨h.1, by unfold bJ sZ; rw [h.2.1]; exact full_J _ (by omega), by rw [h.2.1]; omega⟩
theorem wT_keep {t e s : Int} {M M' : jM} {P T N : Int → Int} (hw : wT t e s M P T N) (hf : ∀ a, t ≤ a → a ≤ t + 6 → M' a = M a) : wT t e s M' P T N :=
  wT_fr hw (fun j _ _ => by rw [hf t (by omega) (by omega)]) (fun a q0 q1 => hf a (by omega) q1)
theorem jgd_keep {t s : Int} {M M' : jM} {P T N : Int → Int} (hw : jgd t s M P T N) (hf : M' t = M t) : jgd t s M' P T N := by
  unfold jgd at hw ⊢
  rw [hf]
  exact hw
theorem c_weighAll {e until_ : Int} {M : jM} {P T N : Int → Int} (hC : cE e M T N) (hQ : cQ P T until_ 0) :
    jT (f_X7_weigh e until_ M) (fun M' => fr7 e M M' ∧ aW e M' P T N ∧ aJ M' P T N) := by
  have hT := hC.2.1
  have t1 := hT.2.1
  have he := hC.1
  unfold f_X7_weigh
  refine t_let ?_
  refine t_lp2 (fun i M3 => 0 ≤ i ∧ i ≤ T 1 ∧ fr7 e M M3 ∧ M3 110 0 = e ∧ ∀ o, 0 ≤ o → o < i → wT (111 + 6 + 7 * o) e o M3 P T N ∧ jgd (111 + 6 + 7 * o) o M3 P T N) (fun i _ => (T 1 - i).toNat) ?_ jfuel 0 _ (by rw [jfuel_eq]; omega) ⟨by omega, by omega, fun a q0 q1 => by rw [pst_f (by omega)], pst_s _ _ _ _, fun o h0 h1 => by omega⟩
  rintro self i M3 ⟨hi1, hi2, hfr, h110, hall⟩ hself
  have hC3 := cE_fr hC hfr
  refine t_Re (c_skaters hC3 h110) ?_
  rw [pw_of (z := T 1) (by omega) (by omega), pw_of (z := i) (by omega) (by omega)]
  refine t_if (fun hc => ?_) (fun hc => ?_)
  · have ei : i = T 1 := by omega
    subst ei
    exact t_some ⟨hfr, ⟨h110, fun o h0 h1 => (hall o h0 h1).1⟩, fun o h0 h1 => (hall o h0 h1).2⟩
  · refine t_ck (by omega) ?_
    obtain ⟨l4, l5, -⟩ := ln_t (i := i) (by omega)
    refine t_V (t_mono (c_weigh (t := 111 + 6 + 7 * i) (by omega) l4 l5 hC3 ⟨hi1, by omega⟩ hQ.1 hQ.2.1 hQ.2.2.1 hQ.2.2.2.1 hQ.2.2.2.2.1 (Or.inl ⟨rfl, hQ.2.2.2.2.2⟩)) (fun M4 h4 => ?_))
    obtain ⟨u1, u2, u3⟩ := h4
    refine t_let ?_
    refine hself _ _ ⟨by omega, by omega, fun a q0 q1 => by rw [u1 a (by omega) q1]; exact hfr a q0 q1, by rw [u1 110 (by omega) (by omega)]; exact h110, fun o h0 h1 => ?_⟩ (by omega)
    by_cases co : o = i
    · subst co
      exact ⟨u2, u3⟩
    · have := hall o h0 (by omega)
      exact ⟨wT_keep this.1 (fun a q0 q1 => u1 a (by omega) (by omega)), jgd_keep this.2 (u1 _ (by omega) (by omega))⟩
theorem c_judgeAll {e : Int} {M : jM} {P T N : Int → Int} (hC : cE e M T N) (hP : cP P T) (h19 : P 19 = -1) (hW : aW e M P T N) :
    jT (f_X7_judgeBy (P 15) M) (fun M' => (∀ a, a < 117 ∨ 158 < a → M' a = M a) ∧ aW e M' P T N ∧ aJ M' P T N) := by
  have hT := hC.2.1
  have t1 := hT.2.1
  have he := hC.1
  unfold f_X7_judgeBy
  refine t_lp2 (fun i M3 => 0 ≤ i ∧ i ≤ T 1 ∧ (∀ a, a < 117 ∨ 158 < a → M3 a = M a) ∧ aW e M3 P T N ∧ ∀ o, 0 ≤ o → o < i → jgd (111 + 6 + 7 * o) o M3 P T N) (fun i _ => (T 1 - i).toNat) ?_ jfuel 0 _ (by rw [jfuel_eq]; omega) ⟨by omega, by omega, fun a _ => rfl, hW, fun o h0 h1 => by omega⟩
  rintro self i M3 ⟨hi1, hi2, hfr, hW3, hall⟩ hself
  have hC3 := cE_fr hC (fun a q0 q1 => hfr a (by omega))
  refine t_Re (c_skaters hC3 hW3.1) ?_
  rw [pw_of (z := T 1) (by omega) (by omega), pw_of (z := i) (by omega) (by omega)]
  refine t_if (fun hc => ?_) (fun hc => ?_)
  · have ei : i = T 1 := by omega
    subst ei
    exact t_some ⟨hfr, hW3, hall⟩
  · refine t_ck (by omega) ?_
    refine t_V (t_mono (c_judge (t := 111 + 6 + 7 * i) (by omega) hC3 ⟨hi1, by omega⟩ hP h19 (hW3.2 i hi1 (by omega))) (fun M4 h4 => ?_))
    obtain ⟨u1, u2, u3⟩ := h4
    refine t_let ?_
    refine hself _ _ ⟨by omega, by omega, fun a q0 => by rw [u1 a (by omega)]; exact hfr a q0, ⟨by rw [u1 110 (by omega)]; exact hW3.1, fun o h0 h1 => ?_⟩, fun o h0 h1 => ?_⟩ (by omega)
    · by_cases co : o = i
      · subst co
        exact wT_fr (hW3.2 o h0 h1) (fun j q0 q1 => u2 j (by omega)) (fun a q0 q1 => u1 a (by omega))
      · exact wT_keep (hW3.2 o h0 h1) (fun a q0 q1 => u1 a (by omega))
    · by_cases co : o = i
      · subst co
        exact u3
      · exact jgd_keep (hall o h0 (by omega)) (u1 _ (by omega))
theorem c_ahead {M : jM} {P T N : Int → Int} {a b : Int} (hP : bP P) (hT : bT T) (hN : bN N) (hJ : bJ P T) (h8a : M (111 + 6 + 7 * a) 8 = q_total P T N a) (h6a : M (111 + 6 + 7 * a) 6 = q_points P T N a) (h8b : M (111 + 6 + 7 * b) 8 = q_total P T N b) (h6b : M (111 + 6 + 7 * b) 6 = q_points P T N b) (ha : 0 ≤ a ∧ a < T 1) (hb : 0 ≤ b ∧ b < T 1) : f_X7_isAhead a b M = some (q_ahead (q_total P T N) (q_points P T N) a b) := by
  have t1 := hT.2.1
  have x1 := q_total_b hP hT hN hJ (s := a) (by omega)
  have x2 := q_total_b hP hT hN hJ (s := b) (by omega)
  have x3 := q_points_b hP hT hN hJ (s := a) (by omega)
  have x4 := q_points_b hP hT hN hJ (s := b) (by omega)
  unfold f_X7_isAhead q_ahead
  rw [pw_of (z := a) (by omega) (by omega), pw_of (z := b) (by omega) (by omega), h8a, h6a, h8b, h6b, pw_of (z := q_total P T N a) (by omega) (by omega), pw_of (z := q_total P T N b) (by omega) (by omega), pw_of (z := q_points P T N a) (by omega) (by omega), pw_of (z := q_points P T N b) (by omega) (by omega)]
  repeat rw [eC (by omega)]
  by_cases c1 : q_total P T N a = q_total P T N b
  · rw [if_pos c1]
    by_cases c2 : q_points P T N a = q_points P T N b
    · rw [if_pos c2]
      by_cases c3 : b ≤ a
      · rw [if_pos c3, b2_f (by omega)]
      · rw [if_neg c3, b2_t (by omega)]
    · rw [if_neg c2]
      by_cases c3 : q_points P T N a ≤ q_points P T N b
      · rw [if_pos c3, b2_f (by omega)]
      · rw [if_neg c3, b2_t (by omega)]
  · rw [if_neg c1]
    by_cases c3 : q_total P T N a ≤ q_total P T N b
    · rw [if_pos c3, b2_f (by omega)]
    · rw [if_neg c3, b2_t (by omega)]
theorem c_rank {e : Int} {M : jM} {P T N : Int → Int} {s : Int} (hC : cE e M T N) (hP : cP P T) (h110 : M 110 0 = e) (hJ : aJ M P T N) (hs : 0 ≤ s ∧ s < T 1) : f_X7_rankOf s M = some (q_rank (q_total P T N) (q_points P T N) (T 1) s) := by
  apply t_get
  have hT := hC.2.1
  have t1 := hT.2.1
  unfold f_X7_rankOf
  refine t_lp2 (fun n k => 0 ≤ k ∧ k ≤ T 1 ∧ n = sZ (fun o => if o = s then 0 else q_ahead (q_total P T N) (q_points P T N) o s) k) (fun _ k => (T 1 - k).toNat) ?_ jfuel 0 0 (by rw [jfuel_eq]; omega) ⟨by omega, by omega, rfl⟩
  rintro self n k ⟨hk1, hk2, hn⟩ hself
  refine t_Re (c_skaters hC h110) ?_
  rw [pw_of (z := T 1) (by omega) (by omega), pw_of (z := k) (by omega) (by omega), pw_of (z := s) (by omega) (by omega)]
  refine t_if (fun hc => ?_) (fun hc => ?_)
  · refine t_some ?_
    show n = _
    rw [hn, show k = T 1 from by omega]
    rfl
  · have hsz := sZ_s (f := fun o => if o = s then 0 else q_ahead (q_total P T N) (q_points P T N) o s) hk1
    refine t_if (fun c1 => ?_) (fun c1 => ?_)
    · refine t_let ?_
      refine hself _ _ ⟨by omega, by omega, ?_⟩ (by omega)
      rw [hsz, if_pos c1, hn, Int.add_zero]
    · have ja := hJ k hk1 (by omega)
      have jb := hJ s hs.1 hs.2
      refine t_Re (c_ahead hP.1 hT hC.2.2.1 hP.2.1 ja.2.2 ja.1 jb.2.2 jb.1 (by omega) hs) ?_
      rcases q_ahead_b (q_total P T N) (q_points P T N) k s with h | h
      · rw [h]
        refine t_pos (by decide) ?_
        refine t_let ?_
        refine hself _ _ ⟨by omega, by omega, ?_⟩ (by omega)
        rw [hsz, if_neg c1, hn, h, Int.add_zero]
      · rw [h]
        refine t_neg (by decide) ?_
        refine t_let ?_
        refine t_let ?_
        refine hself _ _ ⟨by omega, by omega, ?_⟩ (by omega)
        rw [hsz, if_neg c1, hn, h]
theorem c_at {e : Int} {M : jM} {P T N : Int → Int} {r : Int} (hC : cE e M T N) (hP : cP P T) (h110 : M 110 0 = e) (hJ : aJ M P T N) (hr : -2147483648 ≤ r ∧ r ≤ 2147483647) : f_X7_skaterAt r M = some (q_at (q_total P T N) (q_points P T N) (T 1) r) := by
  apply t_get
  have hT := hC.2.1
  have t1 := hT.2.1
  unfold f_X7_skaterAt
  refine t_lp1 (fun k => 0 ≤ k ∧ k ≤ T 1 ∧ q_first (fun s => b2 (q_rank (q_total P T N) (q_points P T N) (T 1) s = r)) (T 1 - k).toNat k = q_at (q_total P T N) (q_points P T N) (T 1) r) (fun k => (T 1 - k).toNat) ?_ jfuel 0 (by rw [jfuel_eq]; omega) ⟨by omega, by omega, by rw [Int.sub_zero]; rfl⟩
  rintro self k ⟨hk1, hk2, hn⟩ hself
  refine t_Re (c_skaters hC h110) ?_
  rw [pw_of (z := T 1) (by omega) (by omega), pw_of (z := k) (by omega) (by omega), pw_of (z := r) (by omega) (by omega)]
  refine t_if (fun hc => ?_) (fun hc => ?_)
  · refine t_some ?_
    rw [show (T 1 - k).toNat = 0 from by omega] at hn
    exact hn
  · refine t_Re (c_rank hC hP h110 hJ (by omega)) ?_
    have hrb := q_rank_b (tot := q_total P T N) (pts := q_points P T N) (n := T 1) (s := k) (by omega)
    rw [pw_of (z := q_rank (q_total P T N) (q_points P T N) (T 1) k) (by omega) (by omega)]
    rw [show (T 1 - k).toNat = (T 1 - (k + 1)).toNat + 1 from by omega] at hn
    unfold q_first at hn
    refine t_if (fun c1 => ?_) (fun c1 => ?_)
    · rw [b2_t c1, if_neg (by decide)] at hn
      exact t_some hn
    · rw [b2_f c1, if_pos rfl] at hn
      refine t_let ?_
      exact hself _ ⟨by omega, by omega, hn⟩ (by omega)
