/-! ===== write: attempts ===== -/
/-- parameters that are alike where the scoring looks -/
def pSm (P P' : Int → Int) : Prop := ∀ j, 15 ≤ j → j ≤ 22 → P' j = P j
theorem k_bP {P P' : Int → Int} (h : pSm P P') (hP : bP P) : bP P' := by
  unfold bP
  rw [h 15 (by decide) (by decide), h 16 (by decide) (by decide), h 17 (by decide) (by decide), h 18 (by decide) (by decide), h 19 (by decide) (by decide), h 20 (by decide) (by decide), h 21 (by decide) (by decide), h 22 (by decide) (by decide)]
  exact hP
theorem k_bJ {P P' : Int → Int} (h : pSm P P') {T : Int → Int} (hJ : bJ P T) : bJ P' T := by
  unfold bJ
  rw [h 15 (by decide) (by decide)]
  exact hJ
theorem k_eq {P P' : Int → Int} (h : pSm P P') : pEq P P' := ⟨(h 16 (by decide) (by decide)).symm, (h 17 (by decide) (by decide)).symm, (h 18 (by decide) (by decide)).symm, (h 22 (by decide) (by decide)).symm⟩
theorem k_pts {P P' : Int → Int} (h : pSm P P') (T N : Int → Int) : q_ptsAt P' T N = q_ptsAt P T N := by
  funext s k
  unfold q_ptsAt
  rw [← g_worth T N (k_eq h), h_gain T N (h 16 (by decide) (by decide)) (h 15 (by decide) (by decide)) (h 19 (by decide) (by decide)) (h 20 (by decide) (by decide)) (h 21 (by decide) (by decide))]
theorem k_tot {P P' : Int → Int} (h : pSm P P') (T N : Int → Int) : q_total P' T N = q_total P T N := by
  funext s
  unfold q_total q_points q_shown q_comp
  rw [k_pts h T N, ← g_is T N (k_eq h), ← g_called T N (k_eq h), ← g_ded T N (k_eq h), h 15 (by decide) (by decide)]
theorem fR_sm {M M' : jM} (h : fR M M') : pSm (M 166) (M' 166) := fun j q0 q1 => h.2 j (by omega)
/-- the elements of an attempt; an attempt; the attempts -/
def elL (T : Int → Int) (s k : Int) : Nat → List Int
  | 0 => []
  | i + 1 => elL T s k i ++ (if i = 0 then [] else [43]) ++ nmL (fun x => T (14 + 6 * q_el T s k (i : Int) + x)) 6
def c1L (b x : Int) : List Int := if b = 0 then [] else [x]
def tryL (P T N : Int → Int) (s k : Int) : List Int := [10] ++ elL T s k (q_many T s k).toNat ++ c1L (q_in (q_calls P N s k) 0) 60 ++ c1L (q_in (q_calls P N s k) 1) 33 ++ c1L (q_late P T N s k) 120 ++ [32] ++ hdL (q_ptsAt P T N s k)
theorem c1L_len (b x : Int) : (c1L b x).length ≤ 1 := by unfold c1L; split <;> simp
theorem elL_s {T : Int → Int} {s k i : Int} (h : 0 ≤ i) : elL T s k (i + 1).toNat = elL T s k i.toNat ++ (if i ≤ 0 then [] else [43]) ++ nmL (fun x => T (14 + 6 * q_el T s k i + x)) 6 := by
  rw [show (i + 1).toNat = i.toNat + 1 from by omega]
  show elL T s k i.toNat ++ (if i.toNat = 0 then [] else [43]) ++ nmL (fun x => T (14 + 6 * q_el T s k ((i.toNat : Nat) : Int) + x)) 6 = _
  rw [← pn_nat h]
  by_cases c : i ≤ 0
  · rw [if_pos c, if_pos (by omega)]
  · rw [if_neg c, if_neg (by omega)]
theorem elL_len (T : Int → Int) (s k : Int) : ∀ n, (elL T s k n).length ≤ 7 * n - 1 := by
  intro n
  induction n with
  | zero => exact Nat.le_refl _
  | succ n ih =>
    unfold elL
    rw [List.length_append, List.length_append]
    have := nmL_len (fun x => T (14 + 6 * q_el T s k (n : Int) + x)) 6
    by_cases c : n = 0
    · rw [if_pos c]
      have : ([] : List Int).length = 0 := rfl
      omega
    · rw [if_neg c]
      have : ([43] : List Int).length = 1 := rfl
      omega
theorem tryL_len {P T N : Int → Int} (hP : bP P) (hT : bT T) (hN : bN N) (hJ : bJ P T) {s k : Int} (hs : 0 ≤ s ∧ s < 6) (hk : 0 ≤ k ∧ k < 12) : (tryL P T N s k).length ≤ 33 := by
  have h1 := elL_len T s k (q_many T s k).toNat
  have h2 := q_many_b hT hs hk
  have h3 := q_ptsAt_b hP hT hN hJ hs hk
  have h4 := hdL_len (v := q_ptsAt P T N s k) (by omega)
  have h5 := c1L_len (q_in (q_calls P N s k) 0) 60
  have h6 := c1L_len (q_in (q_calls P N s k) 1) 33
  have h7 := c1L_len (q_late P T N s k) 120
  unfold tryL
  simp only [List.length_append, List.length_singleton]
  omega
theorem e_saysTry {M : jM} {L : List Int} {s k : Int} (h : pg 166 31 179 M L) (hl : L.length ≤ 900) (hP : bP (M 166)) (hT : bT (M 169)) (hN : bN (M 170)) (hJ : bJ (M 166) (M 169)) (hs : 0 ≤ s ∧ s < 6) (hk : 0 ≤ k ∧ k < 12) (hnm : ∀ i, 0 ≤ i → i < q_many (M 169) s k → ∀ x, 0 ≤ x → x < 6 → 0 ≤ M 169 (14 + 6 * q_el (M 169) s k i + x) ∧ M 169 (14 + 6 * q_el (M 169) s k i + x) ≤ 127) : jT (f_X10_saysTry s k M) (rW M L (tryL (M 166) (M 169) (M 170) s k)) := by
  have hmb := q_many_b hT hs hk
  unfold f_X10_saysTry
  refine t_V (t_mono (e_says h (by omega) (by decide)) (fun M2 h2 => ?_))
  refine t_lp2 (fun i M4 => 0 ≤ i ∧ i ≤ q_many (M 169) s k ∧ rW M L ([10] ++ elL (M 169) s k i.toNat) M4) (fun i _ => (q_many (M 169) s k - i).toNat) ?_ jfuel 0 M2 (by rw [jfuel_eq]; omega) ⟨by omega, by omega, by
    show rW M L ([10] ++ []) M2
    rw [List.append_nil]
    exact h2⟩
  rintro self i M4 ⟨hi1, hi2, h4⟩ hself
  have hlen := elL_len (M 169) s k i.toNat
  have e9 : M4 169 = M 169 := h4.2.1 169 (by decide) (by decide) (by decide)
  refine t_Re (e_many hs hk) ?_
  rw [e9, pw_of (z := q_many (M 169) s k) (by omega) (by omega), pw_of (z := i) (by omega) (by omega)]
  refine t_if (fun c => ?_) (fun c => ?_)
  · rw [show i = q_many (M 169) s k from by omega] at h4 hlen
    -- one octet if b
    have opt1 : ∀ (X : jM) (l : List Int) (b x : Int) (kk : jM → Option jM), (b = 0 ∨ b = 1) → 0 ≤ x ∧ x ≤ 127 → rW M L l X → l.length ≤ 100 → (∀ X', rW M L (l ++ c1L b x) X' → jT (kk X') (rW M L (tryL (M 166) (M 169) (M 170) s k))) → jT (if jw b = 0 then kk X else jbV (f_X10_says x X) fun M36 => kk M36) (rW M L (tryL (M 166) (M 169) (M 170) s k)) := fun X l b x kk hb hx hX hll hk => by
      rcases hb with hb | hb <;> subst hb
      · refine t_pos (by decide) ?_
        refine hk X ?_
        rw [show c1L 0 x = [] from rfl, List.append_nil]
        exact hX
      · refine t_neg (by decide) ?_
        refine t_V (t_mono (e_says hX.1 (by rw [List.length_append]; omega) hx) (fun X' hX' => ?_))
        exact hk X' (rW_t hX hX')
    have env : ∀ (X : jM) (l : List Int), rW M L l X → bP (X 166) ∧ X 169 = M 169 ∧ X 170 = M 170 ∧ pSm (M 166) (X 166) := fun X l hX => ⟨k_bP (fR_sm hX.2) hP, hX.2.1 169 (by decide) (by decide) (by decide), hX.2.1 170 (by decide) (by decide) (by decide), fR_sm hX.2⟩
    have hcb := q_calls_b (P := M 166) hN hs hk
    have g1 := c1L_len (q_in (q_calls (M 166) (M 170) s k) 0) 60
    have g2 := c1L_len (q_in (q_calls (M 166) (M 170) s k) 1) 33
    have g3 := c1L_len (q_late (M 166) (M 169) (M 170) s k) 120
    obtain ⟨v1, v2, v3, v4⟩ := env M4 _ h4
    refine t_Re (e_calls v1 hs hk) ?_
    rw [v3, ← g_calls _ (k_eq v4)]
    refine t_Re (e_isIn (by omega) (by omega)) ?_
    refine t_k ?_
    refine opt1 M4 _ _ 60 _ (q_in_b _ _) (by decide) h4 (by simp only [List.length_append, List.length_singleton]; omega) (fun M12 h12 => ?_)
    obtain ⟨v1, v2, v3, v4⟩ := env M12 _ h12
    refine t_Re (e_calls v1 hs hk) ?_
    rw [v3, ← g_calls _ (k_eq v4)]
    refine t_Re (e_isIn (by omega) (by omega)) ?_
    refine t_k ?_
    refine opt1 M12 _ _ 33 _ (q_in_b _ _) (by decide) h12 (by simp only [List.length_append, List.length_singleton]; omega) (fun M18 h18 => ?_)
    obtain ⟨v1, v2, v3, v4⟩ := env M18 _ h18
    refine t_Re (e_late v1 (by rw [v2]; exact hT) (by rw [v3]; exact hN) hs hk) ?_
    rw [v2, v3, ← g_late _ _ (k_eq v4)]
    refine t_k ?_
    refine opt1 M18 _ _ 120 _ (q_late_b _ _ _ _ _) (by decide) h18 (by simp only [List.length_append, List.length_singleton]; omega) (fun M22 h22 => ?_)
    refine t_V (t_mono (e_says h22.1 (by simp only [List.length_append, List.length_singleton]; omega) (by decide)) (fun M25 h25 => ?_))
    have h25 := rW_t h22 h25
    obtain ⟨v1, v2, v3, v4⟩ := env M25 _ h25
    refine t_W (t_mono (e_ptsAt v1 (by rw [v2]; exact hT) (by rw [v3]; exact hN) (by rw [v2]; exact k_bJ v4 hJ) hs hk) (fun p hp => ?_))
    obtain ⟨p1, p2⟩ := hp
    rw [v2, v3, k_pts v4] at p1
    have hpb := q_ptsAt_b hP hT hN hJ hs hk
    have h26 : rW M L ([10] ++ elL (M 169) s k (q_many (M 169) s k).toNat ++ c1L (q_in (q_calls (M 166) (M 170) s k) 0) 60 ++ c1L (q_in (q_calls (M 166) (M 170) s k) 1) 33 ++ c1L (q_late (M 166) (M 169) (M 170) s k) 120 ++ [32]) p.2 := ⟨pg_keep h25.1 (by rw [p2 166 (by decide)]) (p2 179 (by decide)), fR_t h25.2 (fR_3 p2)⟩
    rw [p1]
    refine t_V (t_mono (e_saysHd h26.1 (by simp only [List.length_append, List.length_singleton]; omega) (by omega)) (fun M30 h30 => ?_))
    exact t_some (rW_t h26 h30)
  · have heb := q_el_b hT hs hk (i := i) (by omega)
    have hes := elL_s (T := M 169) (s := s) (k := k) hi1
    refine t_kP (fun kk => ∀ X, rW M L ([10] ++ (elL (M 169) s k i.toNat ++ (if i ≤ 0 then [] else [43]))) X → jT (kk X) (rW M L (tryL (M 166) (M 169) (M 170) s k))) ?_ ?_
    · intro X hX
      have x9 : X 169 = M 169 := hX.2.1 169 (by decide) (by decide) (by decide)
      have h43 : (if i ≤ 0 then ([] : List Int) else [43]).length ≤ 1 := by split <;> simp
      refine t_Re (e_el hs hk (by omega)) ?_
      rw [x9]
      refine t_V (t_mono (e_saysName (b := 14 + 6 * q_el (M 169) s k i) hX.1 (by simp only [List.length_append, List.length_singleton]; omega) (by omega) (fun x q0 q1 => by rw [x9]; exact hnm i hi1 (by omega) x q0 q1)) (fun M42 h42 => ?_))
      rw [x9] at h42
      refine t_let ?_
      refine hself _ _ ⟨by omega, by omega, ?_⟩ (by omega)
      rw [hes]
      have := rW_t hX h42
      rw [List.append_assoc] at this
      exact this
    · intro k38 hk38
      refine t_if (fun c1 => ?_) (fun c1 => ?_)
      · refine hk38 M4 ?_
        rw [if_pos c1, List.append_nil]
        exact h4
      · refine t_V (t_mono (e_says h4.1 (by simp only [List.length_append, List.length_singleton]; omega) (by decide)) (fun M45 h45 => ?_))
        refine hk38 M45 ?_
        rw [if_neg c1]
        have := rW_t h4 h45
        rw [List.append_assoc] at this
        exact this
