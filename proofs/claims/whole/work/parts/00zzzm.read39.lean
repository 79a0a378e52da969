/-! ===== reading: both begin ===== -/
theorem ln_v0 : ∀ s : Nat, s < 6 → jln (3 + 16 + 1 + 6 * (s : Int) + 5) = 135 ∧ jln (56 + 16 + 1 + 6 * (s : Int) + 5) = 135 := by decide +kernel
theorem ln_v {e s : Int} (he : e = 3 ∨ e = 56) (hs : 0 ≤ s ∧ s < 6) : jln (e + 16 + 1 + 6 * s + 5) = 135 := by
  obtain ⟨k, rfl⟩ := Int.eq_ofNat_of_zero_le hs.1
  have := ln_v0 k (by omega)
  rcases he with rfl | rfl
  · exact this.1
  · exact this.2
/-- what an event is told at first -/
def ev0 (e : Int) (M M' : jM) : Prop := (∀ a, (a < e ∨ e + 52 < a) → M' a = M a) ∧ M' (e + 2) 0 = M (e + 2) 0 ∧ M' (e + 13) 0 = M (e + 13) 0 ∧ M' e 0 = 5 ∧ (∀ i, 0 ≤ i → i < 7 → M' (e + 1) i = jstt 2 i) ∧ M' (e + 2) 3 = 0 ∧ M' (e + 13) 3 = 0 ∧ M' (e + 7) 0 = 0 ∧ M' (e + 7) 1 = 0
def sk0 (g : Int) (M' : jM) : Prop := M' g 0 = 0 ∧ M' g 1 = 0 ∧ M' g 2 = 0 ∧ ∀ j, 0 ≤ j → j < 135 → M' (g + 5) j = 0
theorem c_sk0 {e s : Int} {M : jM} (he : e = 3 ∨ e = 56) (hs : 0 ≤ s ∧ s < 6) : jT (f_X6_forget (e + 16 + 1 + 6 * s) M) (fun M' => sk0 (e + 16 + 1 + 6 * s) M' ∧ ∀ a, a ≠ e + 16 + 1 + 6 * s → a ≠ e + 16 + 1 + 6 * s + 5 → M' a = M a) := by
  unfold f_X6_forget
  refine t_let (t_let (t_let ?_))
  have hl := ln_v he hs
  refine t_V (t_mono (c_fill (c := e + 16 + 1 + 6 * s + 5) (v := 0) (by omega)) (fun M' hM => t_some ?_))
  obtain ⟨h1, h2, h3⟩ := hM
  rw [hl] at h2
  have n1 : e + 16 + 1 + 6 * s ≠ e + 16 + 1 + 6 * s + 5 := by omega
  refine ⟨⟨?_, ?_, ?_, h2⟩, fun a q0 q1 => ?_⟩
  · rw [h1 _ n1, pst_i (by decide), pst_i (by decide), pst_s]
  · rw [h1 _ n1, pst_i (by decide), pst_s]
  · rw [h1 _ n1, pst_s]
  · rw [h1 a q1, pst_f q0, pst_f q0, pst_f q0]
theorem cpT_f {M : jM} {k : Nat} {d a : Int} (h : a ≠ d) : jcpT M k d a = M a := by
  funext i
  exact if_neg (fun q => h q.1)
theorem cpT_s {M : jM} {k : Nat} {d i : Int} (h : 0 ≤ i ∧ i < 7) : jcpT M k d d i = jstt k i := if_pos ⟨rfl, h⟩
theorem c_ev0 {e : Int} {M : jM} (he : e = 3 ∨ e = 56) : jT (f_X1_forget e M) (fun M' => ev0 e M M' ∧ ∀ s, 0 ≤ s → s < 6 → sk0 (e + 16 + 1 + 6 * s) M') := by
  unfold f_X1_forget
  refine t_let (t_let ?_)
  refine t_Ve (show f_X2_forget (e + 2) _ = some _ from rfl) ?_
  refine t_Ve (show f_X5_forget (e + 7) _ = some _ from rfl) ?_
  refine t_Ve (show f_X2_forget (e + 13) _ = some _ from rfl) ?_
  refine t_lp2 (fun l M' => 0 ≤ l ∧ l ≤ 6 ∧ ev0 e M M' ∧ ∀ s, 0 ≤ s → s < l → sk0 (e + 16 + 1 + 6 * s) M') (fun l _ => (6 - l).toNat) ?_ jfuel 0 _ ?_ ?_
  · intro self l M1 hI hself
    obtain ⟨l0, l6, h1, h2⟩ := hI
    rw [pw_of (z := 6) (by omega) (by omega), pw_of (z := l) (by omega) (by omega)]
    refine t_if (fun c => ?_) (fun c => ?_)
    · have : l = 6 := by omega
      subst this
      exact t_some ⟨h1, h2⟩
    · refine t_ck (by omega) ?_
      refine t_V (t_mono (c_sk0 he ⟨l0, by omega⟩) (fun M2 hM2 => ?_))
      obtain ⟨k1, k2⟩ := hM2
      obtain ⟨a1, a2, a3, a4, a5, a6, a7, a8, a9⟩ := h1
      refine t_let (hself (l + 1) M2 ⟨by omega, by omega, ⟨fun a b => ?_, ?_, ?_, ?_, ?_, ?_, ?_, ?_, ?_⟩, fun s q0 q1 => ?_⟩ (by omega))
      · rw [k2 a (by omega) (by omega)]; exact a1 a b
      · rw [k2 (e + 2) (by omega) (by omega)]; exact a2
      · rw [k2 (e + 13) (by omega) (by omega)]; exact a3
      · rw [k2 e (by omega) (by omega)]; exact a4
      · rw [k2 (e + 1) (by omega) (by omega)]; exact a5
      · rw [k2 (e + 2) (by omega) (by omega)]; exact a6
      · rw [k2 (e + 13) (by omega) (by omega)]; exact a7
      · rw [k2 (e + 7) (by omega) (by omega)]; exact a8
      · rw [k2 (e + 7) (by omega) (by omega)]; exact a9
      · by_cases c : s = l
        · subst c; exact k1
        · have := h2 s q0 (by omega)
          unfold sk0 at this ⊢
          rw [k2 (e + 16 + 1 + 6 * s) (by omega) (by omega), k2 (e + 16 + 1 + 6 * s + 5) (by omega) (by omega)]
          exact this
  · rw [jfuel_eq]; decide
  · have n0 : e ≠ e + 13 ∧ e ≠ e + 7 ∧ e ≠ e + 2 ∧ e ≠ e + 1 := by omega
    refine ⟨by decide, by decide, ⟨fun a b => ?_, ?_, ?_, ?_, fun i q0 q1 => ?_, ?_, ?_, ?_, ?_⟩, fun s q0 q1 => by omega⟩
    · rw [pst_f (by omega), pst_f (by omega), pst_f (by omega), pst_f (by omega), cpT_f (by omega), pst_f (by omega)]
    · rw [pst_c (by omega), pst_c (by omega), pst_c (by omega), pst_i (by decide), cpT_f (by omega), pst_c (by omega)]
    · rw [pst_i (by decide), pst_c (by omega), pst_c (by omega), pst_c (by omega), cpT_f (by omega), pst_c (by omega)]
    · rw [pst_c n0.1, pst_c n0.2.1, pst_c n0.2.1, pst_c n0.2.2.1, cpT_f n0.2.2.2, pst_s]
    · rw [pst_c (by omega), pst_c (by omega), pst_c (by omega), pst_c (by omega), cpT_s ⟨q0, q1⟩]
    · rw [pst_c (by omega), pst_c (by omega), pst_c (by omega), pst_s]
    · rw [pst_s]
    · rw [pst_c (by omega), pst_i (by decide), pst_s]
    · rw [pst_c (by omega), pst_s]
theorem c_start {e n : Int} {tx : Int → Int} {M : jM} (he : e = 3 ∨ e = 56) (hO : okT tx n) (ht : ∀ i, 0 ≤ i → i < n → M 2 i = tx i) : jT (f_X4_start n e M) (fun M' => cS e tx n M (bl tx n 0) M' ∧ M' 109 8 = 0 ∧ (∀ a, a ≠ 109 → (a < e ∨ e + 52 < a) → M' a = M a) ∧ ∃ M0, ev0 e M0 M' ∧ ∀ s, 0 ≤ s → s < 6 → sk0 (e + 16 + 1 + 6 * s) M') := by
  have n6 := hO.2.1
  have n0 := hO.1
  unfold f_X4_start
  refine t_let ?_
  rw [pst_s]
  refine t_ck (kd_e he) ?_
  refine t_V (t_mono (c_ev0 he) (fun M4 h4 => ?_))
  obtain ⟨h4, hs⟩ := h4
  refine t_Re (e_min (a := n) (b := 600) (by omega) (by decide)) ?_
  rw [show min n 600 = n from by omega]
  refine t_let (t_let (t_let (t_let (t_let ?_))))
  have h2 : M4 2 = M 2 := by rw [h4.1 2 (by omega), pst_f (by decide)]
  obtain ⟨M5, hM5⟩ : ∃ X, X = jst (jst (jst (jst (jst M4 109 2 n) 109 4 0) 109 5 0) 109 7 (-1)) 109 8 0 := ⟨_, rfl⟩
  rw [← hM5]
  have m5 : ∀ a, a ≠ 109 → M5 a = M4 a := fun a b => by rw [hM5, pst_f b, pst_f b, pst_f b, pst_f b, pst_f b]
  have m52 : M5 109 2 = n := by rw [hM5, pst_i (by decide), pst_i (by decide), pst_i (by decide), pst_i (by decide), pst_s]
  have m54 : M5 109 4 = 0 := by rw [hM5, pst_i (by decide), pst_i (by decide), pst_i (by decide), pst_s]
  have m55 : M5 109 5 = 0 := by rw [hM5, pst_i (by decide), pst_i (by decide), pst_s]
  have m57 : M5 109 7 = -1 := by rw [hM5, pst_i (by decide), pst_s]
  have m58 : M5 109 8 = 0 := by rw [hM5, pst_s]
  have m51 : M5 109 1 = e := by rw [hM5, pst_i (by decide), pst_i (by decide), pst_i (by decide), pst_i (by decide), pst_i (by decide), h4.1 109 (by omega), pst_s]
  clear hM5
  refine t_V (t_mono (c_adv (M := M5) (p := 0) hO m52 (fun i q0 q1 => by rw [m5 2 (by decide), h2]; exact ht i q0 q1) (by rw [m54, m55]; rfl) ⟨by decide, n0⟩) (fun M' hM => t_some ?_))
  obtain ⟨k1, k2, k3⟩ := hM
  have kf : ∀ a, a ≠ 109 → (a < e ∨ e + 52 < a) → M' a = M a := fun a b0 b1 => by rw [k2 a b0, m5 a b0, h4.1 a b1, pst_f b0]
  have hb := bl_b (tx := tx) (n := n) (p := 0) ⟨by decide, n0⟩
  refine ⟨⟨⟨hO, ⟨hb.1, hb.2.1⟩, ?_, fun i q0 q1 => ?_, k1⟩, ?_, ?_, kf, ?_, ?_⟩, ?_, kf, M', ⟨fun a b => ?_, ?_, ?_, ?_, ?_, ?_, ?_, ?_, ?_⟩, fun s q0 q1 => ?_⟩
  · rw [k3 2 (by decide) (by decide) (by decide)]; exact m52
  · rw [k2 2 (by decide), m5 2 (by decide), h2]; exact ht i q0 q1
  · rw [k3 1 (by decide) (by decide) (by decide)]; exact m51
  · rw [k3 7 (by decide) (by decide) (by decide)]; exact m57
  · rw [k2 _ (by omega), m5 _ (by omega), h4.2.1, pst_c (by omega)]
  · rw [k2 _ (by omega), m5 _ (by omega), h4.2.2.1, pst_c (by omega)]
  · rw [k3 8 (by decide) (by decide) (by decide)]; exact m58
  · exact rfl
  · rfl
  · rfl
  · rw [k2 e (by omega), m5 e (by omega)]; exact h4.2.2.2.1
  · rw [k2 _ (by omega), m5 _ (by omega)]; exact h4.2.2.2.2.1
  · rw [k2 _ (by omega), m5 _ (by omega)]; exact h4.2.2.2.2.2.1
  · rw [k2 _ (by omega), m5 _ (by omega)]; exact h4.2.2.2.2.2.2.1
  · rw [k2 _ (by omega), m5 _ (by omega)]; exact h4.2.2.2.2.2.2.2.1
  · rw [k2 _ (by omega), m5 _ (by omega)]; exact h4.2.2.2.2.2.2.2.2
  · have := hs s q0 q1
    unfold sk0 at this ⊢
    rw [k2 (e + 16 + 1 + 6 * s) (by omega), m5 (e + 16 + 1 + 6 * s) (by omega), k2 (e + 16 + 1 + 6 * s + 5) (by omega), m5 (e + 16 + 1 + 6 * s + 5) (by omega)]
    exact this
