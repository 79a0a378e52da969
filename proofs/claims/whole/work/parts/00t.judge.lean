/-! ===== a tally that is weighed; judged by a panel ===== -/
def pEq (P P' : Int → Int) : Prop := P 16 = P' 16 ∧ P 17 = P' 17 ∧ P 18 = P' 18 ∧ P 22 = P' 22
section PE
variable {P P' : Int → Int} (T N : Int → Int)
theorem g_is (h : pEq P P') : q_is P T N = q_is P' T N := by
  funext s k; unfold q_is; rw [h.1]
theorem g_calls (h : pEq P P') : q_calls P N = q_calls P' N := by
  funext s k; unfold q_calls; rw [h.2.2.2]
theorem g_late (h : pEq P P') : q_late P T N = q_late P' T N := by
  funext s k; unfold q_late; rw [h.2.1, h.2.2.1]
theorem g_stood (h : pEq P P') : q_stood P T N = q_stood P' T N := by
  funext s k i; unfold q_stood; rw [g_is T N h]
theorem g_struck (h : pEq P P') : q_struck P T N = q_struck P' T N := by
  funext s k i; unfold q_struck; rw [g_stood T N h]
theorem g_bases (h : pEq P P') : q_bases P T N = q_bases P' T N := by
  funext s k; unfold q_bases; rw [g_struck T N h]
theorem g_plain (h : pEq P P') : q_plain P T N = q_plain P' T N := by
  funext s k; unfold q_plain; rw [g_bases T N h, g_calls N h]
theorem g_worth (h : pEq P P') : q_worth P T N = q_worth P' T N := by
  funext s k; unfold q_worth; rw [g_plain T N h, g_late T N h]
theorem g_mx (h : pEq P P') : q_mx P T N = q_mx P' T N := by
  funext s k n
  induction n with
  | zero => rfl
  | succ n ih => unfold q_mx; rw [ih, g_struck T N h]
theorem g_best (h : pEq P P') : q_best P T N = q_best P' T N := by
  funext s k; unfold q_best; rw [g_mx T N h]
theorem g_called (h : pEq P P') : q_called P T N = q_called P' T N := by
  funext s c; unfold q_called; rw [g_is T N h, g_calls N h]
theorem g_elsBy (h : pEq P P') : q_elsBy P T N = q_elsBy P' T N := by
  funext s c; unfold q_elsBy; rw [g_is T N h, g_struck T N h]
theorem g_tries (h : pEq P P') : q_tries P T N = q_tries P' T N := by
  funext s c; unfold q_tries; rw [g_is T N h, g_late T N h]
theorem g_word (h : pEq P P') : q_word P T N = q_word P' T N := by
  funext s w; unfold q_word; rw [g_called T N h, g_elsBy T N h, g_tries T N h]
theorem g_rule (h : pEq P P') : q_rule P T N = q_rule P' T N := by
  funext s r; unfold q_rule; rw [g_word T N h]
theorem g_ded (h : pEq P P') : q_ded P T N = q_ded P' T N := by
  funext s; unfold q_ded; rw [g_rule T N h]
end PE
def wT (t e s : Int) (M : jM) (P T N : Int → Int) : Prop :=
  M t 0 = e ∧ M t 1 = e + 16 + 1 + 6 * s ∧ M t 2 = ((q_or (q_is P T N s) (T (116 + s)).toNat : Nat) : Int) ∧ M t 3 = ((q_or (fun k => if q_is P T N s k = 0 then 0 else q_late P T N s k) (T (116 + s)).toNat : Nat) : Int) ∧ M t 4 = sZ (fun k => if q_is P T N s k = 0 then 0 else q_worth P T N s k) (T (116 + s)) ∧ M t 5 = q_ded P T N s
  ∧ (∀ k, q_is P T N s k ≠ 0 → M (t + 1) k = ((q_or (q_struck P T N s k) (q_many T s k).toNat : Nat) : Int) ∧ M (t + 2) k = q_plain P T N s k ∧ M (t + 3) k = q_best P T N s k ∧ sO (M (t + 6)) (fun j => N (9 * (12 * s + k) + j)) k (T 2).toNat)
  ∧ (∀ c, 0 ≤ c → c < 3 → sO (M (t + 6)) (fun j => N (648 + 9 * (3 * s + c) + j)) (12 + c) (T 2).toNat)
  ∧ ∀ w, 0 ≤ w → w < 10 → M (t + 4) w = q_word P T N s w
theorem wT_congr {t e s : Int} {M : jM} {P P' T N : Int → Int} (h : pEq P P') (hw : wT t e s M P T N) : wT t e s M P' T N := by
  unfold wT at hw ⊢
  rw [g_is T N h, g_late T N h, g_worth T N h, g_ded T N h, g_struck T N h, g_plain T N h, g_best T N h, g_word T N h] at hw
  exact hw
theorem wT_fr {t e s : Int} {M M' : jM} {P T N : Int → Int} (hw : wT t e s M P T N) (h0 : ∀ j, 0 ≤ j → j ≤ 5 → M' t j = M t j) (hf : ∀ a, t + 1 ≤ a → a ≤ t + 6 → M' a = M a) : wT t e s M' P T N := by
  unfold wT at hw ⊢
  rw [h0 0 (by omega) (by omega), h0 1 (by omega) (by omega), h0 2 (by omega) (by omega), h0 3 (by omega) (by omega), h0 4 (by omega) (by omega), h0 5 (by omega) (by omega), hf (t + 1) (by omega) (by omega), hf (t + 2) (by omega) (by omega), hf (t + 3) (by omega) (by omega), hf (t + 4) (by omega) (by omega), hf (t + 6) (by omega) (by omega)]
  exact hw
theorem sO_congr {O V V' : Int → Int} {row : Int} {J : Nat} (h : ∀ j : Int, 0 ≤ j → j < (J : Int) → V j = V' j) (hs : sO O V row J) : sO O V' row J := by
  refine ⟨hs.1, ?_⟩
  have : (la O (row * 9) J).map V' = (la O (row * 9) J).map V := List.map_congr_left (fun x hx => by
    obtain ⟨i, h1, h2, h3⟩ := la_mem.mp (hs.1.mem_iff.mp hx)
    exact (h x (by omega) (by omega)).symm)
  rw [this]
  exact hs.2
theorem sS_add (f g : Int → Int) : ∀ n : Nat, sS (fun i => f i + g i) n = sS f n + sS g n := by
  intro n
  induction n with
  | zero => rfl
  | succ n ih => unfold sS; rw [ih]; omega
theorem sZ_add (f g : Int → Int) (z : Int) : sZ (fun i => f i + g i) z = sZ f z + sZ g z := sS_add f g _
/-- the program stands: event e, told as T, N -/
def cE (e : Int) (M : jM) (T N : Int → Int) : Prop := (e = 3 ∨ e = 56) ∧ bT T ∧ bN N ∧ bL T ∧ rE e M T N
/-- a panel of judges by P -/
def cP (P T : Int → Int) : Prop := bP P ∧ bJ P T ∧ P 15 < ((2 ^ (T 2).toNat : Nat) : Int)
theorem c_gtrim {t e s k : Int} {M : jM} {P T N : Int → Int} (hC : cE e M T N) (hs : 0 ≤ s ∧ s < T 1) (hP : cP P T) (h19 : P 19 = -1) (hw : wT t e s M P T N) (hk : q_is P T N s k ≠ 0) : f_X8_trimmed t k (P 15) M = some (q_mean P T N s k) := by
  obtain ⟨he, hT, hN, hL, hE⟩ := hC
  have t1 := hT.2.1
  have t2 := hT.2.2.1
  have hs6 : 0 ≤ s ∧ s < 6 := by omega
  have hkk := q_is_k hk
  have tt := hT.2.2.2.2.2.2.1 s hs6.1 hs6.2
  obtain ⟨y1, y2, y3, y4, y5⟩ := (hE.2.2.2.2.2.2.2.2.2 s hs.1 hs.2).2.2.2.1 k hkk.1 hkk.2
  have p0 := hP.1.1
  have pn := hP.2.2
  have hV : ∀ j : Int, 0 ≤ j → j < (((T 2).toNat : Nat) : Int) → M (e + 16 + 1 + 6 * s + 5) (k * 9 + j) = N (9 * (12 * s + k) + j) := fun j h0 h1 => y5 j h0 (by omega)
  have h := c_trim (t := t) (e := e) (g := e + 16 + 1 + 6 * s) (row := k) (J := (T 2).toNat) (pn := (P 15).toNat) (M := M) (kd_e he) (kd_g he hs6) hw.1 hw.2.1 (by rw [hE.1]; omega) (by omega) (by omega) (fun j h0 h1 => by
    rw [hV j h0 h1]
    have := hN.1 (9 * (12 * s + k) + j) (by omega) (by omega)
    omega) (by rw [hE.2.1 0 (by omega) (by omega)]; exact hN.2.2.2.2.2.1) (sO_congr (fun j h0 h1 => (hV j h0 h1).symm) ((hw.2.2.2.2.2.2.1 k hk).2.2.2)) (by omega) (by rw [← pn_nat p0.1]; exact hP.2.1)
  rw [← pn_nat p0.1] at h
  rw [h, hE.2.1 0 (by omega) (by omega), show (964 : Int) + 0 = 964 from rfl]
  unfold q_mean
  congr 2
  refine q_row_congr (fun j h0 h1 => ?_)
  rw [hV j h0 h1]
  unfold q_grade
  rw [h19, if_neg (by omega)]
theorem c_comp {t e s c : Int} {M : jM} {P T N : Int → Int} (hC : cE e M T N) (hs : 0 ≤ s ∧ s < T 1) (hP : cP P T) (hw : wT t e s M P T N) (hc : 0 ≤ c ∧ c < 3) : f_X8_shownOf t c (P 15) M = some (q_comp P T N s c) := by
  obtain ⟨he, hT, hN, hL, hE⟩ := hC
  have t1 := hT.2.1
  have t2 := hT.2.2.1
  have hs6 : 0 ≤ s ∧ s < 6 := by omega
  have y5 := (hE.2.2.2.2.2.2.2.2.2 s hs.1 hs.2).2.2.2.2
  have p0 := hP.1.1
  have pn := hP.2.2
  have hV : ∀ j : Int, 0 ≤ j → j < (((T 2).toNat : Nat) : Int) → M (e + 16 + 1 + 6 * s + 5) ((12 + c) * 9 + j) = N (648 + 9 * (3 * s + c) + j) := fun j h0 h1 => y5 c j hc.1 hc.2 h0 (by omega)
  have h := c_trim (t := t) (e := e) (g := e + 16 + 1 + 6 * s) (row := 12 + c) (J := (T 2).toNat) (pn := (P 15).toNat) (M := M) (kd_e he) (kd_g he hs6) hw.1 hw.2.1 (by rw [hE.1]; omega) (by omega) (by omega) (fun j h0 h1 => by
    rw [hV j h0 h1]
    have := hN.2.1 (9 * (3 * s + c) + j) (by omega) (by omega)
    rw [show 648 + (9 * (3 * s + c) + j) = 648 + 9 * (3 * s + c) + j from by omega] at this
    omega) (by rw [hE.2.1 0 (by omega) (by omega)]; exact hN.2.2.2.2.2.1) (sO_congr (fun j h0 h1 => (hV j h0 h1).symm) (hw.2.2.2.2.2.2.2.1 c hc.1 hc.2)) (by omega) (by rw [← pn_nat p0.1]; exact hP.2.1)
  rw [← pn_nat p0.1, hE.2.1 0 (by omega) (by omega), show (964 : Int) + 0 = 964 from rfl, q_row_congr hV] at h
  unfold f_X8_shownOf
  have h1 := q_comp0_b (P := P) hT hN hP.2.1 hs6 hc
  have h2 := hN.2.2.2.2.2.2.2.2.2 c hc.1 hc.2
  have h3 := mul_bnd h1.1 h1.2 h2.1 h2.2
  have hset := hE.2.1 (4 + c) (by omega) (by omega)
  rw [show 964 + (4 + c) = 968 + c from by omega] at hset
  rw [h, eR, hw.1, eC (kd_e he), pw_of (z := 4 + c) (by omega) (by omega), eC (by omega), hset, pw_of (z := 100) (by omega) (by omega), pw_of (by omega) (by omega), Int.tdiv_eq_ediv_of_nonneg h3.1]
  rfl
theorem c_gainBy {t k mean : Int} {M : jM} (hk : 0 ≤ k ∧ k < 12) (hb : 0 ≤ M (t + 3) k ∧ M (t + 3) k ≤ 2000) (hm : -500 ≤ mean ∧ mean ≤ 500) : f_X8_gainBy t k mean M = some (M (t + 3) k * mean / 1000) := by
  have h3 := mul_bnd2 hb.1 hb.2 (B := 500) hm.1 hm.2
  unfold f_X8_gainBy
  rw [pw_of (z := k) (by omega) (by omega), eC (by omega), e_fdiv (by omega) (by omega), eR]
theorem c_gain {t e s k : Int} {M : jM} {P T N : Int → Int} (hC : cE e M T N) (hs : 0 ≤ s ∧ s < T 1) (hP : cP P T) (h19 : P 19 = -1) (hw : wT t e s M P T N) (hk : q_is P T N s k ≠ 0) : f_X8_gainOf t k (P 15) M = some (q_gain P T N s k) := by
  have hT := hC.2.1
  have hN := hC.2.2.1
  have t1 := hT.2.1
  have hs6 : 0 ≤ s ∧ s < 6 := by omega
  have hkk := q_is_k hk
  have tt := hT.2.2.2.2.2.2.1 s hs6.1 hs6.2
  have hb := (hw.2.2.2.2.2.2.1 k hk).2.2.1
  have hbb := q_best_b (P := P) hT hN hs6 (k := k) (by omega)
  have hmb := q_mean_b hP.1 hT hN hP.2.1 hs6 (k := k) (by omega)
  unfold f_X8_gainOf
  rw [c_gtrim hC hs hP h19 hw hk, eR, c_gainBy (by omega) (by rw [hb]; exact hbb) hmb, eR, hb]
  rfl
/-- what a tally comes to -/
def jgd (t s : Int) (M : jM) (P T N : Int → Int) : Prop := M t 6 = q_points P T N s ∧ M t 7 = q_shown P T N s ∧ M t 8 = q_total P T N s
theorem q_or_in {f : Int → Int} {n k : Int} (hk : 0 ≤ k ∧ k < n) : q_in ((q_or f n.toNat : Nat) : Int) k = b2 (f k ≠ 0) := by
  unfold q_in
  rw [Int.toNat_natCast, q_or_bit]
  apply b2_congr
  rw [← pn_nat (z := k) (by omega)]
  simp
  intro _
  omega
set_option maxHeartbeats 4000000 in
theorem c_judge {t e s : Int} {M : jM} {P T N : Int → Int} (ht : 117 ≤ t) (hC : cE e M T N) (hs : 0 ≤ s ∧ s < T 1) (hP : cP P T) (h19 : P 19 = -1) (hw : wT t e s M P T N) :
    jT (f_X8_judgeBy t (P 15) M) (fun M' => (∀ a, a ≠ t → M' a = M a) ∧ (∀ j, j < 6 ∨ 8 < j → M' t j = M t j) ∧ jgd t s M' P T N) := by
  have hT := hC.2.1
  have hN := hC.2.2.1
  have hE := hC.2.2.2.2
  have he := hC.1
  have t1 := hT.2.1
  have hs6 : 0 ≤ s ∧ s < 6 := by omega
  have tt := hT.2.2.2.2.2.2.1 s hs6.1 hs6.2
  have kdg := kd_g he hs6
  have x1 := (hE.2.2.2.2.2.2.2.2.2 s hs.1 hs.2).1
  unfold f_X8_judgeBy
  refine t_let ?_
  have wfr : ∀ M3 : jM, (∀ a, a ≠ t → M3 a = M a) → (∀ j, j < 6 ∨ 8 < j → M3 t j = M t j) → wT t e s M3 P T N := fun M3 h1 h2 => wT_fr hw (fun j q0 q1 => h2 j (by omega)) (fun a q0 q1 => h1 a (by omega))
  have efr : ∀ M3 : jM, (∀ a, a ≠ t → M3 a = M a) → cE e M3 T N := fun M3 h1 => ⟨he, hT, hN, hC.2.2.2.1, rE_fr t1.2 hE (fun a q0 q1 q2 => h1 a (by omega))⟩
  have worthS : ∀ k : Int, 0 ≤ k → k ≤ 12 → 0 ≤ sZ (fun k => if q_is P T N s k = 0 then 0 else q_gain P T N s k) k + 12000 ∧ sZ (fun k => if q_is P T N s k = 0 then 0 else q_gain P T N s k) k ≤ 12000 := fun k h0 h1 => by
    have := sZ_b (f := fun k => if q_is P T N s k = 0 then 0 else q_gain P T N s k) (lo := -1000) (hi := 1000) h0 (fun i q0 q1 => by
      have := q_gain_b hP.1 hT hN hP.2.1 hs6 (k := i) (by omega)
      split <;> omega)
    omega
  have hpts : q_points P T N s = M t 4 + sZ (fun k => if q_is P T N s k = 0 then 0 else q_gain P T N s k) (T (116 + s)) := by
    rw [hw.2.2.2.2.1, ← sZ_add]
    unfold q_points
    refine sZ_congr (fun k h0 h1 => ?_)
    by_cases c : q_is P T N s k = 0
    · rw [if_pos c, if_pos c, if_pos c]; rfl
    · rw [if_neg c, if_neg c, if_neg c]; rfl
  refine t_lp2 (fun k M3 => 0 ≤ k ∧ k ≤ T (116 + s) ∧ (∀ a, a ≠ t → M3 a = M a) ∧ (∀ j, j < 6 ∨ 8 < j → M3 t j = M t j) ∧ M3 t 6 = M t 4 + sZ (fun k => if q_is P T N s k = 0 then 0 else q_gain P T N s k) k) (fun k _ => (T (116 + s) - k).toNat) ?_ jfuel 0 _ (by rw [jfuel_eq]; omega) ⟨by omega, by omega, fun a ha => by rw [pst_f ha], fun j hj => by rw [pst_i (by omega)], by rw [pst_s, sZ_0]; omega⟩
  rintro self k M3 ⟨hk1, hk2, hfr, hft, h6⟩ hself
  have hw3 := wfr M3 hfr hft
  have hC3 := efr M3 hfr
  have e1 : M3 (e + 16 + 1 + 6 * s) = M (e + 16 + 1 + 6 * s) := hfr _ (by omega)
  rw [hw3.2.1, e1, x1]
  refine t_ck kdg ?_
  rw [pw_of (z := T (116 + s)) (by omega) (by omega), pw_of (z := k) (by omega) (by omega)]
  refine t_if (fun hc => ?_) (fun hc => ?_)
  · have ek : k = T (116 + s) := by omega
    subst ek
    rw [← hpts] at h6
    refine t_let ?_
    refine t_lp2 (fun c M8 => 0 ≤ c ∧ c ≤ 3 ∧ (∀ a, a ≠ t → M8 a = M a) ∧ (∀ j, j < 6 ∨ 8 < j → M8 t j = M t j) ∧ M8 t 6 = q_points P T N s ∧ M8 t 7 = sZ (q_comp P T N s) c) (fun c _ => (3 - c).toNat) ?_ jfuel 0 _ (by rw [jfuel_eq]; omega) ⟨by omega, by omega, fun a ha => by rw [pst_f ha]; exact hfr a ha, fun j hj => by rw [pst_i (by omega)]; exact hft j hj, by rw [pst_i (by decide)]; exact h6, pst_s _ _ _ _⟩
    rintro self2 c M8 ⟨hc1, hc2, hfr8, hft8, h68, h78⟩ hself2
    have hw8 := wfr M8 hfr8 hft8
    have hC8 := efr M8 hfr8
    rw [pw_of (z := 3) (by omega) (by omega), pw_of (z := c) (by omega) (by omega)]
    refine t_if (fun hcc => ?_) (fun hcc => ?_)
    · have ec : c = 3 := by omega
      subst ec
      have h78' : M8 t 7 = q_shown P T N s := h78
      have hd := hw8.2.2.2.2.2.1
      have hf0 := hw8.2.2.2.2.2.2.2.2 0 (by omega) (by omega)
      have hf0' : M8 (t + 4) 0 = q_called P T N s 2 := hf0
      have b1 := q_points_b hP.1 hT hN hP.2.1 hs6
      have b2 := q_shown_b hT hN hP.2.1 hs6
      have b3 := q_called_b (P := P) (N := N) hT (c := 2) hs6
      have b4 := q_ded_b (P := P) (N := N) hT s
      unfold f_X8_sumUp
      rw [pw_of (z := 0) (by omega) (by omega), h68, h78', hd, hf0', eC (by omega), e_max (by omega) (by omega), eR, eL]
      refine t_Ve rfl ?_
      refine t_some ⟨fun a ha => by rw [pst_f ha]; exact hfr8 a ha, fun j hj => by rw [pst_i (by omega)]; exact hft8 j hj, by rw [pst_i (by decide)]; exact h68, by rw [pst_i (by decide)]; exact h78', pst_s _ _ _ _⟩
    · refine t_Re (c_comp hC8 hs hP hw8 (by omega)) ?_
      refine t_let ?_
      refine t_let ?_
      refine hself2 _ _ ⟨by omega, by omega, fun a ha => by rw [pst_f ha]; exact hfr8 a ha, fun j hj => by rw [pst_i (by omega)]; exact hft8 j hj, by rw [pst_i (by decide)]; exact h68, by rw [pst_s, h78, sZ_s hc1]⟩ (by omega)
  · have hlt := q_or_lt (q_is P T N s) (T (116 + s)).toNat
    have h12 : 2 ^ (T (116 + s)).toNat ≤ 2 ^ 12 := Nat.pow_le_pow_right (by decide) (by omega)
    have hsz := sZ_s (f := fun k => if q_is P T N s k = 0 then 0 else q_gain P T N s k) hk1
    rw [hw3.2.2.1, e_bit (by omega) (by omega), q_or_in (by omega)]
    by_cases c : q_is P T N s k = 0
    · rw [b2_f (fun q => q c)]
      refine t_pos (by decide) ?_
      refine t_let ?_
      refine hself _ _ ⟨by omega, by omega, hfr, hft, ?_⟩ (by omega)
      rw [hsz, if_pos c, Int.add_zero]; exact h6
    · rw [b2_t c]
      refine t_neg (by decide) ?_
      refine t_Re (c_gain hC3 hs hP h19 hw3 c) ?_
      refine t_let ?_
      refine t_let ?_
      refine hself _ _ ⟨by omega, by omega, fun a ha => by rw [pst_f ha]; exact hfr a ha, fun j hj => by rw [pst_i (by omega)]; exact hft j hj, ?_⟩ (by omega)
      rw [pst_s, hsz, if_neg c, h6]
      omega
