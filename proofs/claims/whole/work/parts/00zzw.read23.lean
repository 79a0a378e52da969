/-! ===== reading: an element ===== -/
theorem evT_elem {e p p' sh b kd : Int} {M M' : jM} {T T' N N' : Int → Int} (h : evT e p sh M T N) (hp : p ≤ p') (hlt : T 0 < 10) (hb : 0 ≤ b ∧ b ≤ 2000) (hkd : 0 ≤ kd ∧ kd ≤ 2) (hM : ∀ a, e ≤ a → a ≤ e + 52 → (a < e + 2 ∨ e + 6 < a) → M' a = M a) (h3 : M' (e + 2) 3 = T 0 + 1) (h5 : ∀ j, M' (e + 5) j = if j = T 0 then b else M (e + 5) j) (h6 : ∀ j, M' (e + 6) j = if j = T 0 then kd else M (e + 6) j) (hnm : rNm (M' (e + 3)) (M' (e + 4)) T' 14 (T 0 + 1)) (ht : ∀ j, j ≠ 0 → j ≠ 4 + T 0 → (j < 14 ∨ 74 ≤ j) → T' j = T j) (h0' : T' 0 = T 0 + 1) (hk' : T' (4 + T 0) = kd) (hn : ∀ j, j ≠ 954 + T 0 → N' j = N j) (hn1 : N' (954 + T 0) = b) : evT e p' sh M' T' N' := by
  obtain ⟨bt, bn, bl, ⟨a1, a2, a3, a4, a5, a6, a7, a8, a9⟩, hS, h0, hg, hc, hs, hm⟩ := h
  have t0 := bt.1
  have t1 := bt.2.1
  have t3 := bt.2.2.2.1
  refine ⟨bT_r bt (fun j => ?_), bN_r bn (okN_of hn (by rw [hn1]; unfold okNi; omega)), bL_c bt bl (by omega) (ht 1 (by omega) (by omega) (by omega)) (fun j q0 q1 => ht j (by omega) (by omega) (by omega)), ⟨?_, ?_, ?_, ?_, ?_, ?_, ?_, ?_, fun r q0 q1 => ?_⟩, fun s q0 q1 => ?_, fun s q0 q1 => ?_, fun i q0 q1 => ?_, ?_, hs, fun q s q0 q1 => ?_⟩
  · by_cases c : j = 0
    · subst c
      right
      rw [h0']
      unfold okTi
      omega
    · by_cases c1 : j = 4 + T 0
      · subst c1
        right
        rw [hk']
        unfold okTi
        omega
      · by_cases c2 : j < 14 ∨ 74 ≤ j
        · exact Or.inl (ht j c c1 c2)
        · right
          unfold okTi
          omega
  · rw [hM e (by omega) (by omega) (by omega), ht 2 (by decide) (by omega) (by omega)]; exact a1
  · intro i q0 q1
    rw [hM (e + 1) (by omega) (by omega) (by omega), hn (964 + i) (by omega)]; exact a2 i q0 q1
  · rw [h3, h0']
  · rw [hM (e + 13) (by omega) (by omega) (by omega), ht 1 (by decide) (by omega) (by omega)]; exact a4
  · rw [hM (e + 7) (by omega) (by omega) (by omega), ht 3 (by decide) (by omega) (by omega)]; exact a5
  · rw [h0']
    exact hnm
  · rw [hM (e + 14) (by omega) (by omega) (by omega), hM (e + 15) (by omega) (by omega) (by omega), ht 1 (by decide) (by omega) (by omega)]
    exact rNm_c a7 (fun j q0 q1 => ht j (by omega) (by omega) (by omega))
  · intro j q0 q1
    rw [h0'] at q1
    rw [h5, h6]
    by_cases c : j = T 0
    · subst c
      rw [if_pos rfl, if_pos rfl, hn1, hk']
      exact ⟨rfl, rfl⟩
    · rw [if_neg c, if_neg c, hn (954 + j) (by omega), ht (4 + j) (by omega) (by omega) (by omega)]
      exact a8 j q0 (by omega)
  · rw [ht 3 (by decide) (by omega) (by omega)] at q1
    exact rRl_c (a9 r q0 q1) q0 (fun a b0 b1 => hM a (by omega) (by omega) (by omega)) (fun j b0 => ht j (by omega) (by omega) (by omega))
  · have hg : M' (e + 16 + 1 + 6 * s) = M (e + 16 + 1 + 6 * s) := hM _ (by omega) (by omega) (by omega)
    exact rSk_c bt ⟨q0, q1⟩ (hS s q0 q1) (by rw [hg, ht (110 + s) (by omega) (by omega) (by omega)]; exact (hS s q0 q1).2.2.1) (by rw [hg]) (by rw [hg]) (fun a b0 b1 => hM a (by omega) (by omega) (by omega)) (fun j b => ht j (by omega) (by omega) (by omega)) (fun j b => hn j (by omega))
  · rw [ht 1 (by decide) (by omega) (by omega)] at q0
    rw [ht (116 + s) (by omega) (by omega) (by omega)]
    exact h0 s q0 q1
  · rw [hn (882 + i) (by omega)]
    exact hg i q0 q1
  · rw [hM (e + 7) (by omega) (by omega) (by omega), ht 3 (by decide) (by omega) (by omega), ht (482 + T 3) (by omega) (by omega) (by omega)]
    exact ⟨by omega, by omega, by omega, rlB_c hc.2.2.2 t3.1 (hM _ (by omega) (by omega) (by omega)) (hM _ (by omega) (by omega) (by omega)) (ht 3 (by decide) (by omega) (by omega)) (fun j b => ht j (by omega) (by omega) (by omega))⟩
  · rw [hM (e + 16 + 1 + 6 * s + 5) (by omega) (by omega) (by omega), ht (116 + s) (by omega) (by omega) (by omega)]
    refine ⟨(hm q s q0 q1).1, fun c j c0 c1 j0 j1 => ?_⟩
    rw [hn (648 + 9 * (3 * s + c) + j) (by omega)]
    exact (hm q s q0 q1).2 c j c0 c1 j0 j1
/-- the reference's kind of an element -/
def FrK (k : Int) (K : jM → Option jM) (M4 : jM) : Option jM :=
  jbW (f_X10_takesWord 30 M4) fun v7 M6 =>
  jk (fun (s2_8 : Int) (M9 : jM) =>
    jck (0 ≤ jw (4 + k) ∧ jw (4 + k) < 1089) <|
    jlet (jst M9 171 (jw (4 + k)) s2_8) fun M12 =>
    jck (0 ≤ jw (4 + k) ∧ jw (4 + k) < 1089) <|
    jk K fun (k15 : jM → Option (jM)) =>
    if jw (M12 171 (jw (4 + k))) = jw 2 then (
      jbW (f_X10_takesWord 32 M12) fun v26 M25 =>
      if jw v26 = 0 then (
        jbV (f_X10_fails M25) fun M28 =>
        k15 M28)
      else (
        k15 M25))
    else (
      k15 M12)) fun (k10 : Int → jM → Option (jM)) =>
  if jw v7 = 0 then (
    jbW (f_X10_takesWord 31 M6) fun v31 M30 =>
    if jw v31 = 0 then (
      k10 2 M30)
    else (
      k10 1 M30))
  else (
    k10 0 M6)
theorem rS_1 {tx : Int → Int} {n p i v : Int} {B M : jM} (h : rS tx n B p M) : rS tx n B p (jst M 171 i v) := by
  refine ⟨?_, by rw [pst_c (by decide)]; exact h.2.1, frR_t h.2.2 (frR_1 _ _ _)⟩
  unfold rAt
  rw [pst_c (by decide)]
  exact h.1
theorem e_kind {tx : Int → Int} {n p k : Int} {B M : jM} {K : jM → Option jM} {Q : jM → Prop} (hO : okT tx n) (hB : rTx tx n B) (h : rS tx n B p M) (hk : 0 ≤ k ∧ k < 10)
    (hK : ∀ X, (∀ a, a ≠ 166 → a ≠ 171 → X a = M a) → X 166 13 = M 166 13 → X 166 14 = M 166 14 → (∀ j, j ≠ 4 + k → X 171 j = M 171 j) → (ixW (wd tx n p) W1 0 ≠ -1 ∧ rS tx n B (nx tx n p) X ∧ X 171 (4 + k) = ixW (wd tx n p) W1 0 ∨ ixW (wd tx n p) W1 0 = -1 ∧ X 166 7 = p ∧ frR B X ∧ rPt n X) → jT (K X) Q) : jT (FrK k K M) Q := by
  have hx0 : ixW (wd tx n p) W1 0 = if wd tx n p = sw 30 then 0 else if wd tx n p = sw 31 then 1 else if wd tx n p = sw 32 then 2 else -1 := rfl
  unfold FrK
  refine t_W (t_mono (rS_tw hO hB h (k := 30) (by decide)) (fun q hq => ?_))
  obtain ⟨hq1, hq2⟩ := hq
  rw [pw_of (z := 4 + k) (by omega) (by omega), pw_of (z := 2) (by omega) (by omega)]
  have body : ∀ (v : Int) (Y : jM) (p' : Int), rS tx n B p' Y → fr6 M Y → (v = 0 ∨ v = 1) → p' = nx tx n p → ixW (wd tx n p) W1 0 = v → jT (jck (0 ≤ 4 + k ∧ 4 + k < 1089) <| jlet (jst Y 171 (4 + k) v) fun M12 => jck (0 ≤ 4 + k ∧ 4 + k < 1089) <| jk K fun (k15 : jM → Option (jM)) => if jw (M12 171 (4 + k)) = 2 then (jbW (f_X10_takesWord 32 M12) fun v26 M25 => if jw v26 = 0 then (jbV (f_X10_fails M25) fun M28 => k15 M28) else (k15 M25)) else (k15 M12)) Q := fun v Y p' hY hf hv hp' hx => by
    refine t_ck (by omega) ?_
    refine t_let ?_
    refine t_ck (by omega) ?_
    refine t_k ?_
    rw [pst_s, pw_of (z := v) (by omega) (by omega)]
    refine t_neg (by omega) ?_
    refine hK _ (fun a b0 b1 => by rw [pst_f b1]; exact hf.1 a b0) (by rw [pst_c (by decide)]; exact hf.2 13 (by decide) (by decide)) (by rw [pst_c (by decide)]; exact hf.2 14 (by decide) (by decide)) (fun j b => by rw [pst_i b, hf.1 171 (by decide)]) (Or.inl ⟨by omega, by rw [← hp']; exact rS_1 hY, by rw [pst_s, hx]⟩)
  refine t_kP (fun kk => ∀ (v : Int) (Y : jM) (p' : Int), (rS tx n B p' Y → fr6 M Y → (v = 0 ∨ v = 1) → p' = nx tx n p → ixW (wd tx n p) W1 0 = v → jT (kk v Y) Q) ∧ (rS tx n B p Y → fr6 M Y → v = 2 → wd tx n p ≠ sw 30 → wd tx n p ≠ sw 31 → jT (kk v Y) Q)) ?_ ?_
  · intro v Y p'
    refine ⟨body v Y p', fun hY hf hv n0 n1 => ?_⟩
    subst hv
    refine t_ck (by omega) ?_
    refine t_let ?_
    refine t_ck (by omega) ?_
    refine t_k ?_
    rw [pst_s]
    refine t_pos (by decide) ?_
    rw [if_neg n0, if_neg n1] at hx0
    refine t_W (t_mono (rS_tw hO hB (rS_1 hY) (k := 32) (by decide)) (fun r hr => ?_))
    obtain ⟨hr1, hr2⟩ := hr
    have ka : ∀ a, a ≠ 166 → a ≠ 171 → r.2 a = M a := fun a b0 b1 => by rw [hr2.1 a b0, pst_f b1]; exact hf.1 a b0
    have k3 : r.2 166 13 = M 166 13 := by rw [hr2.2 13 (by decide) (by decide), pst_c (by decide)]; exact hf.2 13 (by decide) (by decide)
    have k4 : r.2 166 14 = M 166 14 := by rw [hr2.2 14 (by decide) (by decide), pst_c (by decide)]; exact hf.2 14 (by decide) (by decide)
    have kj : ∀ j, j ≠ 4 + k → r.2 171 j = M 171 j := fun j b => by rw [hr2.1 171 (by decide), pst_i b, hf.1 171 (by decide)]
    rcases hr1 with hy | hy
    · rw [hy.2.1]
      refine t_neg (by decide) ?_
      rw [if_pos hy.1] at hx0
      refine hK _ ka k3 k4 kj (Or.inl ⟨by omega, hy.2.2, ?_⟩)
      rw [hr2.1 171 (by decide), pst_s, hx0]
    · rw [hy.2.1]
      refine t_pos (by decide) ?_
      rw [if_neg hy.1] at hx0
      refine t_Ve (e_fails0 hy.2.2.1.2.1) ?_
      refine hK _ (fun a b0 b1 => by rw [pst_f b0]; exact ka a b0 b1) (by rw [pst_i (by decide)]; exact k3) (by rw [pst_i (by decide)]; exact k4) (fun j b => by rw [pst_c (by decide)]; exact kj j b) (Or.inr ⟨hx0, by rw [pst_s]; exact hy.2.2.2, ?_, ?_⟩)
      · exact frR_t hy.2.2.1.2.2 ⟨fun a q _ _ => pst_f q, fun j _ _ q _ _ => pst_i q⟩
      · unfold rPt
        rw [pst_i (by decide)]
        exact ⟨hy.2.2.1.1.1, hy.2.2.1.1.2.1⟩
  · intro k10 h10
    rcases hq1 with hy | hy
    · rw [hy.2.1]
      refine t_neg (by decide) ?_
      exact (h10 0 q.2 (nx tx n p)).1 hy.2.2 hq2 (Or.inl rfl) rfl (by rw [hx0, if_pos hy.1])
    · rw [hy.2.1]
      refine t_pos (by decide) ?_
      refine t_W (t_mono (rS_tw hO hB hy.2.2.1 (k := 31) (by decide)) (fun r hr => ?_))
      obtain ⟨hr1, hr2⟩ := hr
      have hf := fr6_t hq2 hr2
      rcases hr1 with hz | hz
      · rw [hz.2.1]
        refine t_neg (by decide) ?_
        exact (h10 1 r.2 (nx tx n p)).1 hz.2.2 hf (Or.inr rfl) rfl (by rw [hx0, if_neg hy.1, if_pos hz.1])
      · rw [hz.2.1]
        refine t_pos (by decide) ?_
        exact (h10 2 r.2 p).2 hz.2.2.1 hf rfl hy.1 hz.1
/-- .. in a failed reading -/
theorem l_kind {e n k : Int} {A B Mc M : jM} {K : jM → Option jM} {Q : jM → Prop} (h : fl e n A B Mc M) (hk : 0 ≤ k ∧ k < 10) (hK : ∀ X, fl e n A B Mc X → jT (K X) Q) : jT (FrK k K M) Q := by
  unfold FrK
  refine t_W (t_mono (l_takesWord h.2.2.2.2 (fl_okF h)) (fun q hq => ?_))
  have h1 := fl_fX h hq.2
  rw [pw_of (z := 4 + k) (by omega) (by omega)]
  refine t_k ?_
  rw [hq.1]
  refine t_pos (by decide) ?_
  refine t_W (t_mono (l_takesWord h1.2.2.2.2 (fl_okF h1)) (fun r hr => ?_))
  have h2 := fl_fX h1 hr.2
  rw [hr.1]
  refine t_pos (by decide) ?_
  refine t_ck (by omega) ?_
  refine t_let ?_
  refine t_ck (by omega) ?_
  refine t_k ?_
  rw [pst_s]
  refine t_pos (by decide) ?_
  have h3 := fl_1 h2 (4 + k) 2
  refine t_W (t_mono (l_takesWord h3.2.2.2.2 (fl_okF h3)) (fun s hs => ?_))
  have h4 := fl_fX h3 hs.2
  rw [hs.1]
  refine t_pos (by decide) ?_
  refine t_Ve (l_fails (fl_okF h4)) ?_
  exact hK _ h4
