/-! ===== needed, raise ===== -/
theorem sS_upd {f g : Int → Int} {k : Int} (h : ∀ i, i ≠ k → g i = f i) : ∀ {n : Nat}, 0 ≤ k → k < n → sS g n = sS f n + (g k - f k) := by
  intro n
  induction n with
  | zero => intro h0 h1; omega
  | succ n ih =>
    intro h0 h1
    show sS g n + g n = sS f n + f n + (g k - f k)
    by_cases c : k = n
    · subst c
      have : sS g n = sS f n := sS_congr (fun i _ q => h i (by omega))
      omega
    · rw [ih h0 (by omega), h n (fun q => c q.symm)]
      omega
theorem sZ_upd {f g : Int → Int} {k n : Int} (h : ∀ i, i ≠ k → g i = f i) (hk : 0 ≤ k ∧ k < n) : sZ g n = sZ f n + (g k - f k) := sS_upd h hk.1 (by omega)
/-- one grade for all judges -/
def pG (P : Int → Int) (s k g : Int) : Int → Int := pS (pS (pS P 19 s) 20 k) 21 g
theorem pG_15 (P : Int → Int) (s k g : Int) : pG P s k g 15 = P 15 := by unfold pG; rw [pS_n (by decide), pS_n (by decide), pS_n (by decide)]
theorem pG_eq (P : Int → Int) (s k g : Int) : pEq P (pG P s k g) := by
  unfold pG
  exact ⟨by rw [pS_n (by decide), pS_n (by decide), pS_n (by decide)], by rw [pS_n (by decide), pS_n (by decide), pS_n (by decide)], by rw [pS_n (by decide), pS_n (by decide), pS_n (by decide)], by rw [pS_n (by decide), pS_n (by decide), pS_n (by decide)]⟩
theorem pG_19 (P : Int → Int) (s k g : Int) : pG P s k g 19 = s := by unfold pG; rw [pS_n (by decide), pS_n (by decide), pS_s]
theorem pG_20 (P : Int → Int) (s k g : Int) : pG P s k g 20 = k := by unfold pG; rw [pS_n (by decide), pS_s]
theorem pG_21 (P : Int → Int) (s k g : Int) : pG P s k g 21 = g := pS_s _ _ _
theorem pG_bP {P : Int → Int} (h : bP P) {s k g : Int} (hs : -1 ≤ s ∧ s ≤ 5) (hk : -1 ≤ k ∧ k ≤ 11) (hg : -5 ≤ g ∧ g ≤ 5) : bP (pG P s k g) := by
  obtain ⟨p15, p16, p17, p18, -, -, -, p22⟩ := h
  have hE := pG_eq P s k g
  unfold bP
  rw [pG_15, ← hE.1, ← hE.2.1, ← hE.2.2.1, pG_19, pG_20, pG_21, ← hE.2.2.2]
  exact ⟨p15, p16, p17, p18, hs, hk, hg, p22⟩
theorem pG_cP {P T : Int → Int} (h : cP P T) {s k g : Int} (hs : -1 ≤ s ∧ s ≤ 5) (hk : -1 ≤ k ∧ k ≤ 11) (hg : -5 ≤ g ∧ g ≤ 5) : cP (pG P s k g) T := by
  refine ⟨pG_bP h.1 hs hk hg, ?_, by rw [pG_15]; exact h.2.2⟩
  unfold bJ
  rw [pG_15]
  exact h.2.1
theorem pG_mean {P T N : Int → Int} (hT : bT T) (hN : bN N) (h19 : P 19 = -1) (hJ : bJ P T) {s k g : Int} (hs : 0 ≤ s) : (∀ s' k', 0 ≤ s' → ¬ (s' = s ∧ k' = k) → q_mean (pG P s k g) T N s' k' = q_mean P T N s' k') ∧ q_mean (pG P s k g) T N s k = 100 * g := by
  have t2 := hT.2.2.1
  constructor
  · intro s' k' h0 h
    unfold q_mean
    rw [pG_15]
    congr 1
    refine q_row_congr (fun j _ _ => ?_)
    unfold q_grade
    rw [pG_19, pG_20, if_neg h, h19, if_neg (by omega)]
  · unfold q_mean
    rw [pG_15]
    have hl : 1 ≤ (q_row (q_grade (pG P s k g) N s k) (P 15) (T 2).toNat).length := by
      have := q_row_len (q_grade (pG P s k g) N s k) (P 15) (T 2).toNat
      have h2 : 1 ≤ sS (q_in (P 15)) (T 2).toNat := hJ
      omega
    have := q_tr_b (drop := N 964) (lo := g) (hi := g) (l := q_row (q_grade (pG P s k g) N s k) (P 15) (T 2).toNat) hN.2.2.2.2.2.1.1 hl (fun x hx => by
      obtain ⟨j, _, _, q3⟩ := q_row_mem hx
      unfold q_grade at q3
      rw [pG_19, pG_20, if_pos ⟨rfl, rfl⟩, pG_21] at q3
      omega)
    omega
theorem pG_comp {P T N : Int → Int} {s k g s' c : Int} : q_comp (pG P s k g) T N s' c = q_comp P T N s' c := by
  unfold q_comp
  rw [pG_15]
/-- points and totals when one attempt gets one grade -/
theorem pG_pts {P T N : Int → Int} (hT : bT T) (hN : bN N) (h19 : P 19 = -1) (hJ : bJ P T) {s k g : Int} (hs : 0 ≤ s ∧ s < T 1) (hk : q_is P T N s k ≠ 0) : (∀ s', 0 ≤ s' → s' ≠ s → q_points (pG P s k g) T N s' = q_points P T N s' ∧ q_total (pG P s k g) T N s' = q_total P T N s') ∧ q_points (pG P s k g) T N s = q_points P T N s + (q_best P T N s k * (100 * g) / 1000 - q_gain P T N s k) := by
  have hE := pG_eq P s k g
  obtain ⟨m1, m2⟩ := pG_mean hT hN h19 hJ (s := s) (k := k) (g := g) hs.1
  have hkk := q_is_k hk
  have hsh : ∀ s', q_shown (pG P s k g) T N s' = q_shown P T N s' := fun s' => by
    unfold q_shown
    exact sZ_congr (fun c _ _ => pG_comp)
  constructor
  · intro s' h0 hne
    have hp : q_points (pG P s k g) T N s' = q_points P T N s' := by
      unfold q_points
      rw [← g_is T N hE]
      refine sZ_congr (fun k' _ _ => ?_)
      unfold q_ptsAt q_gain
      rw [← g_worth T N hE, ← g_best T N hE, m1 s' k' h0 (fun q => hne q.1)]
    refine ⟨hp, ?_⟩
    unfold q_total
    rw [hp, hsh, ← g_called T N hE, ← g_ded T N hE]
  · unfold q_points
    rw [← g_is T N hE]
    have := sZ_upd (f := fun k' => if q_is P T N s k' = 0 then 0 else q_ptsAt P T N s k') (g := fun k' => if q_is P T N s k' = 0 then 0 else q_ptsAt (pG P s k g) T N s k') (k := k) (n := T (116 + s)) (fun i hi => by
      unfold q_ptsAt q_gain
      rw [← g_worth T N hE, ← g_best T N hE, m1 s i hs.1 (fun q => hi q.2)]) hkk
    rw [this, if_neg hk, if_neg hk]
    unfold q_ptsAt
    have hg : q_gain (pG P s k g) T N s k = q_best P T N s k * (100 * g) / 1000 := by
      unfold q_gain
      rw [← g_best T N hE, m2]
    rw [← g_worth T N hE, hg]
    omega
theorem pG_tot {P T N : Int → Int} {s k g : Int} : q_total (pG P s k g) T N s = max 0 (q_points (pG P s k g) T N s + q_shown P T N s - 100 * q_called P T N s 2 - q_ded P T N s) := by
  have hE := pG_eq P s k g
  have hsh : q_shown (pG P s k g) T N s = q_shown P T N s := by
    unfold q_shown
    exact sZ_congr (fun c _ _ => pG_comp)
  unfold q_total
  rw [hsh, ← g_called T N hE, ← g_ded T N hE]
/-- the last attempt -/
def q_lst (f : Int → Int) : Nat → Int
  | 0 => -1
  | n + 1 => if f (n : Int) = 0 then q_lst f n else (n : Int)
theorem q_lst_s {f : Int → Int} {i : Int} (h : 0 ≤ i) : q_lst f (i + 1).toNat = if f i = 0 then q_lst f i.toNat else i := by
  rw [show (i + 1).toNat = i.toNat + 1 from by omega]
  show (if f ((i.toNat : Nat) : Int) = 0 then q_lst f i.toNat else ((i.toNat : Nat) : Int)) = _
  rw [← pn_nat h]
theorem q_lst_b {f : Int → Int} : ∀ n : Nat, -1 ≤ q_lst f n ∧ q_lst f n < n ∧ (q_lst f n ≠ -1 → f (q_lst f n) ≠ 0) := by
  intro n
  induction n with
  | zero => exact ⟨Int.le_refl _, show (-1 : Int) < 0 by decide, fun h => absurd rfl h⟩
  | succ n ih =>
    unfold q_lst
    split
    · exact ⟨ih.1, by omega, ih.2.2⟩
    · exact ⟨by omega, by omega, fun _ => by assumption⟩
theorem c_last {g s : Int} {M : jM} {P T N : Int → Int} (hT : bT T) (hN : bN N) (h16 : P 16 = 600) (hs : 0 ≤ s ∧ s < 6) (h : rSk g M T N s) : f_X6_last g M = some (q_lst (q_is P T N s) (T (116 + s)).toNat) := by
  have tt := hT.2.2.2.2.2.2.1 s hs.1 hs.2
  apply t_get
  unfold f_X6_last
  refine t_let ?_
  rw [h.1]
  refine t_lp1 (fun k => -1 ≤ k ∧ k < T (116 + s) ∧ q_lst (q_is P T N s) (k + 1).toNat = q_lst (q_is P T N s) (T (116 + s)).toNat) (fun k => (k + 1).toNat) ?_ jfuel _ (by rw [jfuel_eq]; omega) ⟨by omega, by omega, by rw [show T (116 + s) - 1 + 1 = T (116 + s) from by omega]⟩
  rintro self k ⟨hk1, hk2, hq⟩ hself
  rw [pw_of (z := k) (by omega) (by omega)]
  refine t_if (fun c => ?_) (fun c => ?_)
  · refine t_some ?_
    rw [← hq, show (k + 1).toNat = 0 from by omega]
    rfl
  · refine t_Re (c_has hT hN hs h (by omega)) ?_
    have htm := hT.2.2.2.2.2.2.2.1 (12 * s + k) (by omega) (by omega)
    rw [q_lst_s (by omega)] at hq
    by_cases cg : N (882 + (12 * s + k)) = 0
    · have hi : q_is P T N s k = 1 := by
        unfold q_is
        exact b2_t ⟨by omega, by omega, cg, by omega⟩
      rw [b2_t ⟨by omega, by omega, cg⟩]
      refine t_neg (by decide) ?_
      rw [if_neg (by omega)] at hq
      exact t_some hq
    · have hi : q_is P T N s k = 0 := by
        unfold q_is
        exact b2_f (fun q => cg q.2.2.1)
      rw [b2_f (fun q => cg q.2.2)]
      refine t_pos (by decide) ?_
      refine t_let ?_
      rw [if_pos hi] at hq
      exact hself _ ⟨by omega, by omega, by rw [show k + -1 + 1 = k from by omega]; exact hq⟩ (by omega)
theorem e_last {M : jM} {s : Int} (hP : bP (M 166)) (hT : bT (M 169)) (hN : bN (M 170)) (hs : 0 ≤ s ∧ s < 6) : f_X10_lastTry s M = some (q_lst (q_is (M 166) (M 169) (M 170) s) (M 169 (116 + s)).toNat) := by
  have tt := hT.2.2.2.2.2.2.1 s hs.1 hs.2
  apply t_get
  unfold f_X10_lastTry
  refine t_lp2 (fun w k => 0 ≤ k ∧ k ≤ M 169 (116 + s) ∧ w = q_lst (q_is (M 166) (M 169) (M 170) s) k.toNat) (fun _ k => (M 169 (116 + s) - k).toNat) ?_ jfuel (-1) 0 (by rw [jfuel_eq]; omega) ⟨by omega, by omega, rfl⟩
  rintro self w k ⟨hk1, hk2, hw⟩ hself
  rw [pw_of (z := 116 + s) (by omega) (by omega), pw_of (z := M 169 (116 + s)) (by omega) (by omega), pw_of (z := k) (by omega) (by omega)]
  refine t_ck (by omega) ?_
  refine t_if (fun c => ?_) (fun c => ?_)
  · refine t_some ?_
    rw [hw, show k = M 169 (116 + s) from by omega]
  · refine t_Re (e_is hP hT hN hs (by omega)) ?_
    refine t_k ?_
    have hl := q_lst_s (f := q_is (M 166) (M 169) (M 170) s) hk1
    rcases q_is_b (M 166) (M 169) (M 170) s k with q | q
    · rw [q]
      refine t_pos (by decide) ?_
      refine t_let ?_
      exact hself _ _ ⟨by omega, by omega, by rw [hl, if_pos q]; exact hw⟩ (by omega)
    · rw [q]
      refine t_neg (by decide) ?_
      refine t_let ?_
      exact hself _ _ ⟨by omega, by omega, by rw [hl, if_neg (by omega)]⟩ (by omega)
/-- the least grade that does so, from g on -/
def q_nd (f : Int → Int) : Nat → Int → Int
  | 0, _ => -100
  | n + 1, g => if f g = 0 then q_nd f n (g + 1) else g
theorem q_nd_b {f : Int → Int} : ∀ (n : Nat) (g : Int), -100 ≤ g → -100 ≤ q_nd f n g ∧ q_nd f n g ≤ g + n := by
  intro n
  induction n with
  | zero => intro g h; unfold q_nd; omega
  | succ n ih =>
    intro g h
    have := ih (g + 1) (by omega)
    unfold q_nd
    split <;> omega
set_option maxHeartbeats 2000000 in
theorem c_least {e s o k : Int} {M : jM} {P T N : Int → Int} (hC : cE e M T N) (hQ : cQ P T 600 0) (hW : aW e M P T N) (hJ : aJ M P T N) (hs : 0 ≤ s ∧ s < T 1) (ho : 0 ≤ o ∧ o < T 1) (hso : s ≠ o) (hk : q_is P T N s k ≠ 0) :
    jT (f_X7_leastGradeAhead s o k M) (fun p => p.1 = q_nd (fun g => q_ahead (q_total (pG P s k g) T N) (q_points (pG P s k g) T N) s o) 11 (-5) ∧ fr7 e M p.2) := by
  have hT := hC.2.1
  have hN := hC.2.2.1
  have t1 := hT.2.1
  have t2 := hT.2.2.1
  have hcP := cQ_cP hT hQ
  have hs6 : 0 ≤ s ∧ s < 6 := by omega
  have hkk := q_is_k hk
  have tt := hT.2.2.2.2.2.2.1 s hs6.1 hs6.2
  have hwS := hW.2 s hs.1 hs.2
  have hjS := hJ s hs.1 hs.2
  have hjO := hJ o ho.1 ho.2
  have hbest := (hwS.2.2.2.2.2.2.1 k hk).2.2.1
  have hbb := q_best_b (P := P) hT hN hs6 (k := k) (by omega)
  unfold f_X7_leastGradeAhead
  rw [pw_of (z := s) (by omega) (by omega), hW.1]
  refine t_ck (by omega) ?_
  refine t_ck (kd_e hC.1) ?_
  refine t_Re (c_every (J := (T 2).toNat) (by rw [hC.2.2.2.2.1]; omega) (by omega)) ?_
  rw [← hQ.2.1]
  refine t_Re (c_gtrim hC hs hcP hQ.2.2.2.2.1 hwS hk) ?_
  -- points so far: mean is the mean that stands in them
  refine t_lp3 (fun mean g M9 => -5 ≤ g ∧ g ≤ 6 ∧ (∀ a, a ≠ 111 + 6 + 7 * s → M9 a = M a) ∧ (∀ j, j ≠ 6 → j ≠ 8 → M9 (111 + 6 + 7 * s) j = M (111 + 6 + 7 * s) j) ∧ (-500 ≤ mean ∧ mean ≤ 500) ∧ M9 (111 + 6 + 7 * s) 6 = q_points P T N s + (q_best P T N s k * mean / 1000 - q_gain P T N s k) ∧ q_nd (fun g => q_ahead (q_total (pG P s k g) T N) (q_points (pG P s k g) T N) s o) (6 - g).toNat g = q_nd (fun g => q_ahead (q_total (pG P s k g) T N) (q_points (pG P s k g) T N) s o) 11 (-5)) (fun _ g _ => (6 - g).toNat) ?_ jfuel _ (-5) M (by rw [jfuel_eq]; omega) ⟨by omega, by omega, fun _ _ => rfl, fun _ _ _ => rfl, q_mean_b hcP.1 hT hN hcP.2.1 hs6 (by omega), by
    rw [hjS.1]
    have : q_best P T N s k * q_mean P T N s k / 1000 = q_gain P T N s k := rfl
    omega, rfl⟩
  rintro self mean g M9 ⟨hg1, hg2, hfr, hft, hmb, h6, hnd⟩ hself
  have fin : fr7 e M M9 := fun a q0 q1 => hfr a (by omega)
  rw [pw_of (z := 5) (by omega) (by omega), pw_of (z := g) (by omega) (by omega)]
  refine t_if (fun c => ?_) (fun c => ?_)
  · refine t_some ⟨?_, fin⟩
    rw [show (6 - g).toNat = 0 from by omega] at hnd
    exact hnd
  · refine t_ck (by omega) ?_
    have b3 : M9 (111 + 6 + 7 * s + 3) k = q_best P T N s k := by rw [hfr _ (by omega)]; exact hbest
    have hcPg := pG_cP hcP (s := s) (k := k) (g := g) (by omega) (by omega) (by omega)
    obtain ⟨x1, x2⟩ := pG_pts hT hN hQ.2.2.2.2.1 hcP.2.1 (g := g) hs hk
    have hpb := q_points_b hcPg.1 hT hN hcPg.2.1 hs6
    have y1 := q_shown_b hT hN hcP.2.1 hs6
    have y2 := q_called_b (P := P) (N := N) hT (c := 2) hs6
    have y3 := q_ded_b (P := P) (N := N) hT s
    have hnew : M9 (111 + 6 + 7 * s) 6 + (q_best P T N s k * (100 * g) / 1000 - q_best P T N s k * mean / 1000) = q_points (pG P s k g) T N s := by rw [h6, x2]; omega
    have hreg : f_X8_regrade (111 + 6 + 7 * s) k mean (100 * g) M9 = some (jst (jst M9 (111 + 6 + 7 * s) 6 (q_points (pG P s k g) T N s)) (111 + 6 + 7 * s) 8 (q_total (pG P s k g) T N s)) := by
      unfold f_X8_regrade f_X8_sumUp
      rw [c_gainBy (by omega) (by rw [b3]; exact hbb) (by omega), eR, c_gainBy (by omega) (by rw [b3]; exact hbb) hmb, eR, eL, b3, hnew]
      have z6 : jst M9 (111 + 6 + 7 * s) 6 (q_points (pG P s k g) T N s) (111 + 6 + 7 * s) 6 = q_points (pG P s k g) T N s := pst_s _ _ _ _
      have z7 : jst M9 (111 + 6 + 7 * s) 6 (q_points (pG P s k g) T N s) (111 + 6 + 7 * s) 7 = q_shown P T N s := by rw [pst_i (by decide), hft 7 (by decide) (by decide)]; exact hjS.2.1
      have z5 : jst M9 (111 + 6 + 7 * s) 6 (q_points (pG P s k g) T N s) (111 + 6 + 7 * s) 5 = q_ded P T N s := by rw [pst_i (by decide), hft 5 (by decide) (by decide)]; exact hwS.2.2.2.2.2.1
      have z4 : jst M9 (111 + 6 + 7 * s) 6 (q_points (pG P s k g) T N s) (111 + 6 + 7 * s + 4) 0 = q_called P T N s 2 := by rw [pst_c (by omega), hfr _ (by omega)]; exact hwS.2.2.2.2.2.2.2.2 0 (by omega) (by omega)
      rw [pw_of (z := 0) (by omega) (by omega), z6, z7, z5, z4, eC (by omega), e_max (by omega) (by omega), eR, eL, eV, pG_tot]
    refine t_Ve hreg ?_
    have hoS := x1 o ho.1 (fun q => hso q.symm)
    have hah := c_ahead (M := jst (jst M9 (111 + 6 + 7 * s) 6 (q_points (pG P s k g) T N s)) (111 + 6 + 7 * s) 8 (q_total (pG P s k g) T N s)) (P := pG P s k g) (a := s) (b := o) hcPg.1 hT hN hcPg.2.1 (pst_s _ _ _ _) (by rw [pst_i (by decide), pst_s]) (by rw [pst_c (by omega), pst_c (by omega), hfr _ (by omega), hoS.2]; exact hjO.2.2) (by rw [pst_c (by omega), pst_c (by omega), hfr _ (by omega), hoS.1]; exact hjO.1) hs ho
    refine t_Re hah ?_
    rw [show (6 - g).toNat = (6 - (g + 1)).toNat + 1 from by omega] at hnd
    unfold q_nd at hnd
    rcases q_ahead_b (q_total (pG P s k g) T N) (q_points (pG P s k g) T N) s o with q | q
    · rw [if_pos q] at hnd
      rw [q]
      refine t_pos (by decide) ?_
      refine t_let ?_
      refine t_let ?_
      refine hself _ _ _ ⟨by omega, by omega, fun a ha => by rw [pst_f ha, pst_f ha]; exact hfr a ha, fun j q6 q8 => by rw [pst_i q8, pst_i q6]; exact hft j q6 q8, by omega, ?_, hnd⟩ (by omega)
      rw [pst_i (by decide), pst_s, x2]
    · rw [if_neg (by omega)] at hnd
      rw [q]
      refine t_neg (by decide) ?_
      refine t_some ⟨hnd, fun a q0 q1 => ?_⟩
      show jst (jst M9 (111 + 6 + 7 * s) 6 (q_points (pG P s k g) T N s)) (111 + 6 + 7 * s) 8 (q_total (pG P s k g) T N s) a = M a
      rw [pst_f (by omega), pst_f (by omega)]
      exact hfr a (by omega)
set_option maxHeartbeats 2000000 in
theorem z_33 {M : jM} (hI : Inv M) {a1 a2 : Int} (j1 : jin a1) (j2 : jin a2) : jT (s_33 a1 a2 M) Inv := by
  obtain ⟨hC, hT, hN, hP, hR, hQ, hcP⟩ := inv_ctx hI
  have t0 := hT.1
  have t1 := hT.2.1
  have t2 := hT.2.2.1
  have t3 := hT.2.2.2.1
  have he := hC.1
  unfold s_33
  by_cases c1 : 0 ≤ a1 ∧ a1 < M 169 1
  · by_cases c2 : 0 ≤ a2 ∧ a2 < M 169 1
    · by_cases c3 : a1 = a2
      · refine stQ hI (code := 2) (val := 0) (by omega) (fun h => by omega) ?_ (fun M3 h8 => ?_)
        · unfold w_needed f_X9_needed
          rw [c_wSk0 hC rfl c1, eR, if_pos rfl, c_wSk0 hC rfl c2, eR, if_pos rfl, if_pos (by rw [c3]), eT3, if_neg (by decide), if_neg (by decide), if_pos rfl]
          exact wQ1 (by decide) (fr8_r M)
        · obtain ⟨r6, r9, r0⟩ := ref_A h8
          obtain ⟨b9, b0, b6⟩ := ref_B hP h8
          unfold f_X10_needed
          refine t_let ?_
          refine t_Ve (e_all (by rw [b9]; exact hT)) ?_
          refine t_We (e_noSk0 (by rw [r9]; exact hT) (by rw [r9]; exact c1)) (t_pos (by decide) ?_)
          refine t_We (e_noSk0 (by rw [r9]; exact hT) (by rw [r9]; exact c2)) (t_pos (by decide) ?_)
          refine t_k ?_
          refine t_pos (by rw [c3]) ?_
          refine t_We (e_thr1 _ _) (t_neg (by decide) ?_)
          exact rQt (by decide) (frX_0A M3) (by rw [r6]; exact hcP.1)
      · have hs6 : 0 ≤ a1 ∧ a1 < 6 := by omega
        have tt := hT.2.2.2.2.2.2.1 a1 hs6.1 hs6.2
        have hlb := q_lst_b (f := q_is (P0 M) (M 169) (M 170) a1) (M 169 (116 + a1)).toNat
        generalize hlast : q_lst (q_is (P0 M) (M 169) (M 170) a1) (M 169 (116 + a1)).toNat = last at hlb
        have hndb := q_nd_b (f := fun g => q_ahead (q_total (pG (P0 M) a1 last g) (M 169) (M 170)) (q_points (pG (P0 M) a1 last g) (M 169) (M 170)) a1 a2) 11 (-5) (by omega)
        refine stQ hI (code := 0) (val := if last = -1 then -100 else q_nd (fun g => q_ahead (q_total (pG (P0 M) a1 last g) (M 169) (M 170)) (q_points (pG (P0 M) a1 last g) (M 169) (M 170)) a1 a2) 11 (-5)) (by omega) (fun _ => by split <;> omega) ?_ (fun M3 h8 => ?_)
        · unfold w_needed f_X9_needed
          have hl := c_last (M := M) (P := P0 M) hT hN hQ.2.2.1 hs6 (hC.2.2.2.2.2.2.2.2.2.2.2.2.2 a1 c1.1 c1.2)
          rw [hlast] at hl
          rw [c_wSk0 hC rfl c1, eR, if_pos rfl, c_wSk0 hC rfl c2, eR, if_pos rfl, pw_of (z := a1) (by omega) (by omega), pw_of (z := a2) (by omega) (by omega), if_neg c3, eC (kd_e he), eC (by omega), hl, eR, pw_of (z := last) (by omega) (by omega), pw_of (z := -1) (by omega) (by omega)]
          by_cases c4 : last = -1
          · rw [if_pos c4, if_pos c4, eT3, if_pos rfl]
            exact wQ0 rfl (by omega) (fr8_r M)
          · rw [if_neg c4, if_neg c4]
            obtain ⟨M4, e4, u1, u2, u3⟩ := c_weighAll hC hQ
            obtain ⟨⟨w, M5⟩, e5, x1, x2⟩ := c_least (cE_fr hC u1) hQ u2 u3 c1 c2 c3 (hlb.2.2 c4)
            dsimp only at x1 x2
            rw [e4, eV, e5, eW, eT3, if_pos rfl]
            exact wQ0 x1 (by omega) (fr8_7 he (fr7_t u1 x2))
        · obtain ⟨r6, r9, r0⟩ := ref_A h8
          obtain ⟨b9, b0, b6⟩ := ref_B hP h8
          unfold f_X10_needed
          refine t_let ?_
          refine t_Ve (e_all (by rw [b9]; exact hT)) ?_
          refine t_We (e_noSk0 (by rw [r9]; exact hT) (by rw [r9]; exact c1)) (t_pos (by decide) ?_)
          refine t_We (e_noSk0 (by rw [r9]; exact hT) (by rw [r9]; exact c2)) (t_pos (by decide) ?_)
          refine t_k ?_
          rw [pw_of (z := a1) (by omega) (by omega), pw_of (z := a2) (by omega) (by omega)]
          refine t_neg c3 ?_
          refine t_We (e_thr0 _ _) (t_pos (by decide) ?_)
          refine t_Re (e_last (by rw [r6]; exact hcP.1) (by rw [r9]; exact hT) (by rw [r0]; exact hN) hs6) ?_
          rw [r6, r9, r0, hlast]
          refine t_let ?_
          refine t_let ?_
          have p21 := hQ.1.2.2.2.2.2.2.1
          have m0 : jst (jst (mA (jst M3 166 0 0)) 166 19 a1) 166 20 last 166 = pG (P0 M) a1 last (P0 M 21) := by
            rw [pS_jst (pS_jst r6 _ _)]
            unfold pG
            have : pS (pS (P0 M) 19 a1) 20 last 21 = P0 M 21 := by rw [pS_n (by decide), pS_n (by decide)]
            rw [← this, pS_self]
          refine t_lp2 (fun g M5 => -5 ≤ g ∧ g ≤ 6 ∧ frX M3 M5 ∧ M5 166 0 = 0 ∧ (∃ g0, (-5 ≤ g0 ∧ g0 ≤ 5) ∧ M5 166 = pG (P0 M) a1 last g0) ∧ M5 169 = M 169 ∧ M5 170 = M 170 ∧ (last ≠ -1 → q_nd (fun g => q_ahead (q_total (pG (P0 M) a1 last g) (M 169) (M 170)) (q_points (pG (P0 M) a1 last g) (M 169) (M 170)) a1 a2) (6 - g).toNat g = q_nd (fun g => q_ahead (q_total (pG (P0 M) a1 last g) (M 169) (M 170)) (q_points (pG (P0 M) a1 last g) (M 169) (M 170)) a1 a2) 11 (-5))) (fun g _ => (6 - g).toNat) ?_ jfuel (-5) _ (by rw [jfuel_eq]; omega) ⟨by omega, by omega, frX_j (frX_j (frX_0A M3) (by decide)) (by decide), by rw [pst_i (by decide), pst_i (by decide)]; exact mA_0 M3, ⟨P0 M 21, p21, m0⟩, by rw [pst_f (by decide), pst_f (by decide)]; exact r9, by rw [pst_f (by decide), pst_f (by decide)]; exact r0, fun _ => rfl⟩
          rintro self g M5 ⟨hg1, hg2, hx, hx0, ⟨g0, hgb, hg0⟩, f9, f0, hnd⟩ hself
          have hbp : bP (M5 166) := by rw [hg0]; exact pG_bP hcP.1 (by omega) (by omega) hgb
          rw [pw_of (z := 5) (by omega) (by omega), pw_of (z := g) (by omega) (by omega)]
          refine t_if (fun c => ?_) (fun c => ?_)
          · refine rQ hx0 (fun _ => ?_) hx hbp
            by_cases c4 : last = -1
            · rw [if_pos c4]
            · rw [if_neg c4, ← hnd c4, show (6 - g).toNat = 0 from by omega]
              rfl
          · rw [pw_of (z := last) (by omega) (by omega), pw_of (z := -1) (by omega) (by omega)]
            refine t_if (fun c4 => ?_) (fun c4 => ?_)
            · exact rQ hx0 (fun _ => by rw [if_pos c4]) hx hbp
            · refine t_let ?_
              have hcPg := pG_cP hcP (s := a1) (k := last) (g := g) (by omega) (by omega) (by omega)
              refine t_V (t_mono (ref_lays (P := pG (P0 M) a1 last g) (by rw [pS_jst hg0]; unfold pG; rw [pS_pS]) (by rw [pst_f (by decide)]; exact f9) (by rw [pst_f (by decide)]; exact f0) hT hN hR hcPg) (fun M6 h6 => ?_))
              obtain ⟨k1, k2, k3, k4, k5, k6, k7⟩ := h6
              refine t_Re (r_ahead k3 hT k5 k6 k7 c1 c2) ?_
              have y1 : frX M3 M6 := frX_t (frX_j hx (by decide)) (frX_I6 k1)
              have y2 : M6 166 0 = 0 := by rw [k1 166 (by decide), pst_i (by decide)]; exact hx0
              have hn := hnd c4
              rw [show (6 - g).toNat = (6 - (g + 1)).toNat + 1 from by omega] at hn
              unfold q_nd at hn
              rcases q_ahead_b (q_total (pG (P0 M) a1 last g) (M 169) (M 170)) (q_points (pG (P0 M) a1 last g) (M 169) (M 170)) a1 a2 with q | q
              · rw [if_pos q] at hn
                rw [q]
                refine t_pos (by decide) ?_
                refine t_let ?_
                exact hself _ _ ⟨by omega, by omega, y1, y2, ⟨g, by omega, k2⟩, k3, k4, fun _ => hn⟩ (by omega)
              · rw [if_neg (by omega)] at hn
                rw [q]
                refine t_neg (by decide) ?_
                exact rQ y2 (fun _ => by rw [if_neg c4]; exact hn) y1 (by rw [k2]; exact hcPg.1)
    · refine stQ hI (code := 1) (val := 0) (by omega) (fun h => by omega) ?_ (fun M3 h8 => ?_)
      · unfold w_needed f_X9_needed
        rw [c_wSk0 hC rfl c1, eR, if_pos rfl, c_wSk1 hC rfl j2 c2, eR, if_neg (by decide), eT3, if_neg (by decide), if_pos rfl]
        exact wQ1 (by decide) (fr8_r M)
      · obtain ⟨r6, r9, r0⟩ := ref_A h8
        obtain ⟨b9, b0, b6⟩ := ref_B hP h8
        unfold f_X10_needed
        refine t_let ?_
        refine t_Ve (e_all (by rw [b9]; exact hT)) ?_
        refine t_We (e_noSk0 (by rw [r9]; exact hT) (by rw [r9]; exact c1)) (t_pos (by decide) ?_)
        refine t_We (e_noSk1 (by rw [r9]; exact hT) (jin_b j2) (by rw [r9]; exact c2)) (t_neg (by decide) ?_)
        exact rQt (by decide) (frX_0A M3) (by rw [r6]; exact hcP.1)
  · refine stQ hI (code := 1) (val := 0) (by omega) (fun h => by omega) ?_ (fun M3 h8 => ?_)
    · unfold w_needed f_X9_needed
      rw [c_wSk1 hC rfl j1 c1, eR, if_neg (by decide), eT3, if_neg (by decide), if_pos rfl]
      exact wQ1 (by decide) (fr8_r M)
    · obtain ⟨r6, r9, r0⟩ := ref_A h8
      obtain ⟨b9, b0, b6⟩ := ref_B hP h8
      unfold f_X10_needed
      refine t_let ?_
      refine t_Ve (e_all (by rw [b9]; exact hT)) ?_
      refine t_We (e_noSk1 (by rw [r9]; exact hT) (jin_b j1) (by rw [r9]; exact c1)) (t_neg (by decide) ?_)
      exact rQt (by decide) (frX_0A M3) (by rw [r6]; exact hcP.1)
