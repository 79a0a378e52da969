/-! ===== doubt, bias, odd ===== -/
def q_mn (g : Int → Int) : Nat → Int
  | 0 => 5
  | n + 1 => min (q_mn g n) (g (n : Int))
def q_mg (g : Int → Int) : Nat → Int
  | 0 => -5
  | n + 1 => max (q_mg g n) (g (n : Int))
theorem q_mn_s {g : Int → Int} {i : Int} (h : 0 ≤ i) : q_mn g (i + 1).toNat = min (q_mn g i.toNat) (g i) := by
  rw [show (i + 1).toNat = i.toNat + 1 from by omega]
  show min (q_mn g i.toNat) (g ((i.toNat : Nat) : Int)) = _
  rw [← pn_nat h]
theorem q_mg_s {g : Int → Int} {i : Int} (h : 0 ≤ i) : q_mg g (i + 1).toNat = max (q_mg g i.toNat) (g i) := by
  rw [show (i + 1).toNat = i.toNat + 1 from by omega]
  show max (q_mg g i.toNat) (g ((i.toNat : Nat) : Int)) = _
  rw [← pn_nat h]
theorem q_mnb {g : Int → Int} : ∀ n : Nat, (∀ i : Int, 0 ≤ i → i < n → -5 ≤ g i ∧ g i ≤ 5) → (-5 ≤ q_mn g n ∧ q_mn g n ≤ 5) ∧ (-5 ≤ q_mg g n ∧ q_mg g n ≤ 5) ∧ (1 ≤ n → q_mn g n ≤ q_mg g n) := by
  intro n
  induction n with
  | zero => intro _; unfold q_mn q_mg; omega
  | succ n ih =>
    intro h
    have h1 := ih (fun i h0 h1 => h i h0 (by omega))
    have h2 := h n (by omega) (by omega)
    unfold q_mn q_mg
    omega
def q_span (g : Int → Int) (J : Int) : Int := q_mg g J.toNat - q_mn g J.toNat
theorem q_mn_congr {g h : Int → Int} : ∀ {n : Nat}, (∀ i : Int, 0 ≤ i → i < n → g i = h i) → q_mn g n = q_mn h n ∧ q_mg g n = q_mg h n := by
  intro n
  induction n with
  | zero => intro _; exact ⟨rfl, rfl⟩
  | succ n ih =>
    intro e
    have h1 := ih (fun i h0 h1 => e i h0 (by omega))
    have h2 := e n (by omega) (by omega)
    unfold q_mn q_mg
    rw [h1.1, h1.2, h2]
    exact ⟨rfl, rfl⟩
/-- the widest so far, and how wide -/
def q_dbt (sel f : Int → Int) : Nat → Int × Int
  | 0 => (-1, -1)
  | n + 1 => if sel (n : Int) = 0 then q_dbt sel f n else if (q_dbt sel f n).2 < f (n : Int) then ((n : Int), f (n : Int)) else q_dbt sel f n
theorem q_dbt_s {sel f : Int → Int} {i : Int} (h : 0 ≤ i) : q_dbt sel f (i + 1).toNat = if sel i = 0 then q_dbt sel f i.toNat else if (q_dbt sel f i.toNat).2 < f i then (i, f i) else q_dbt sel f i.toNat := by
  rw [show (i + 1).toNat = i.toNat + 1 from by omega]
  show (if sel ((i.toNat : Nat) : Int) = 0 then _ else _) = _
  rw [← pn_nat h]
theorem q_dbt_b {sel f : Int → Int} (hf : ∀ i : Int, 0 ≤ i → i < 12 → 0 ≤ f i ∧ f i ≤ 10) : ∀ n : Nat, n ≤ 12 → -1 ≤ (q_dbt sel f n).1 ∧ (q_dbt sel f n).1 ≤ 11 ∧ -1 ≤ (q_dbt sel f n).2 ∧ (q_dbt sel f n).2 ≤ 10 ∧ ((q_dbt sel f n).1 = -1 ↔ (q_dbt sel f n).2 = -1) := by
  intro n
  induction n with
  | zero => intro _; unfold q_dbt; simp
  | succ n ih =>
    intro hn
    have h1 := ih (by omega)
    have h2 := hf n (by omega) (by omega)
    unfold q_dbt
    split
    · exact h1
    · split
      · exact ⟨by show -1 ≤ (n : Int); omega, by show (n : Int) ≤ 11; omega, by show -1 ≤ f n; omega, by show f n ≤ 10; omega, by show (n : Int) = -1 ↔ f n = -1; omega⟩
      · exact h1
theorem c_span {g k : Int} {M : jM} {J : Int} (hJ : 1 ≤ J ∧ J ≤ 9) (hk : 0 ≤ k ∧ k < 12) (hV : ∀ j : Int, 0 ≤ j → j < J → -5 ≤ M (g + 5) (k * 9 + j) ∧ M (g + 5) (k * 9 + j) ≤ 5) : f_X6_spanOf g k J M = some (q_span (fun j => M (g + 5) (k * 9 + j)) J) := by
  apply t_get
  unfold f_X6_spanOf
  refine t_lp3 (fun a b i => 0 ≤ i ∧ i ≤ J ∧ a = q_mn (fun j => M (g + 5) (k * 9 + j)) i.toNat ∧ b = q_mg (fun j => M (g + 5) (k * 9 + j)) i.toNat) (fun _ _ i => (J - i).toNat) ?_ jfuel 5 (-5) 0 (by rw [jfuel_eq]; omega) ⟨by omega, by omega, rfl, rfl⟩
  rintro self a b i ⟨hi1, hi2, ha, hb⟩ hself
  have hbd := q_mnb (g := fun j => M (g + 5) (k * 9 + j)) i.toNat (fun j h0 h1 => hV j h0 (by omega))
  rw [← ha, ← hb] at hbd
  rw [pw_of (z := J) (by omega) (by omega), pw_of (z := i) (by omega) (by omega)]
  refine t_if (fun hc => ?_) (fun hc => ?_)
  · refine t_some ?_
    rw [ha, hb, show i = J from by omega]
    rfl
  · refine t_Re rfl ?_
    have hv := hV i hi1 (by omega)
    rw [pw_of (z := k * 9 + i) (by omega) (by omega)]
    refine t_ck (by omega) ?_
    refine t_let ?_
    refine t_Re (e_min (by omega) (by omega)) ?_
    refine t_Re (e_max (by omega) (by omega)) ?_
    refine t_let ?_
    refine hself _ _ _ ⟨by omega, by omega, ?_, ?_⟩ (by omega)
    · rw [q_mn_s hi1, ha]
    · rw [q_mg_s hi1, hb]
/-- doubt -/
theorem z_37 {M : jM} (hI : Inv M) {a1 : Int} (j1 : jin a1) : jT (s_37 a1 M) Inv := by
  obtain ⟨hC, hT, hN, hP, hR, hQ, hcP⟩ := inv_ctx hI
  have t0 := hT.1
  have t1 := hT.2.1
  have t2 := hT.2.2.1
  have t3 := hT.2.2.2.1
  have he := hC.1
  have hE := hC.2.2.2.2
  unfold s_37
  by_cases c1 : 0 ≤ a1 ∧ a1 < M 169 1
  · have hs6 : 0 ≤ a1 ∧ a1 < 6 := by omega
    have tt := hT.2.2.2.2.2.2.1 a1 hs6.1 hs6.2
    have hsp : ∀ k : Int, 0 ≤ k → k < 12 → 0 ≤ q_span (q_grade (P0 M) (M 170) a1 k) (M 169 2) ∧ q_span (q_grade (P0 M) (M 170) a1 k) (M 169 2) ≤ 10 := fun k h0 h1 => by
      have := q_mnb (g := q_grade (P0 M) (M 170) a1 k) (M 169 2).toNat (fun i q0 q1 => q_grade_b hcP.1 hN hs6 ⟨h0, h1⟩ (by omega))
      unfold q_span
      omega
    have hdb := q_dbt_b (sel := q_is (P0 M) (M 169) (M 170) a1) (f := fun k => q_span (q_grade (P0 M) (M 170) a1 k) (M 169 2)) hsp
    have hfin := hdb (M 169 (116 + a1)).toNat (by omega)
    refine stQ hI (code := 0) (val := (q_dbt (q_is (P0 M) (M 169) (M 170) a1) (fun k => q_span (q_grade (P0 M) (M 170) a1 k) (M 169 2)) (M 169 (116 + a1)).toNat).1) (by omega) (fun _ => by omega) ?_ (fun M3 h8 => ?_)
    · unfold w_doubt f_X9_doubt
      have sk := hE.2.2.2.2.2.2.2.2.2 a1 c1.1 c1.2
      have hw : f_X6_widest (M 1 3 + 16 + 1 + 6 * a1) (M 169 2) M = some (q_dbt (q_is (P0 M) (M 169) (M 170) a1) (fun k => q_span (q_grade (P0 M) (M 170) a1 k) (M 169 2)) (M 169 (116 + a1)).toNat).1 := by
        apply t_get
        unfold f_X6_widest
        refine t_lp3 (fun w m k => 0 ≤ k ∧ k ≤ M 169 (116 + a1) ∧ (w, m) = q_dbt (q_is (P0 M) (M 169) (M 170) a1) (fun k => q_span (q_grade (P0 M) (M 170) a1 k) (M 169 2)) k.toNat) (fun _ _ k => (M 169 (116 + a1) - k).toNat) ?_ jfuel (-1) (-1) 0 (by rw [jfuel_eq]; omega) ⟨by omega, by omega, rfl⟩
        rintro self w m k ⟨hk1, hk2, hwm⟩ hself
        have hb := hdb k.toNat (by omega)
        rw [← hwm] at hb
        dsimp only at hb
        rw [sk.1, pw_of (z := M 169 (116 + a1)) (by omega) (by omega), pw_of (z := k) (by omega) (by omega)]
        refine t_if (fun hc => ?_) (fun hc => ?_)
        · refine t_some ?_
          rw [show M 169 (116 + a1) = k from by omega, ← hwm]
        · refine t_Re (c_has hT hN hs6 sk (by omega)) ?_
          obtain ⟨y1, y2, y3, y4, y5⟩ := sk.2.2.2.1 k hk1 (by omega)
          have htm := hT.2.2.2.2.2.2.2.1 (12 * a1 + k) (by omega) (by omega)
          have hs2 := q_dbt_s (sel := q_is (P0 M) (M 169) (M 170) a1) (f := fun k => q_span (q_grade (P0 M) (M 170) a1 k) (M 169 2)) hk1
          rw [← hwm] at hs2
          refine t_k ?_
          by_cases cg : M 170 (882 + (12 * a1 + k)) = 0
          · rw [b2_t ⟨hk1, by omega, cg⟩]
            refine t_neg (by decide) ?_
            have hq : q_is (P0 M) (M 169) (M 170) a1 k = 1 := by
              unfold q_is
              rw [hQ.2.2.1]
              exact b2_t ⟨hk1, by omega, cg, by omega⟩
            rw [if_neg (by omega)] at hs2
            have hgr : ∀ j : Int, 0 ≤ j → j < M 169 2 → M (M 1 3 + 16 + 1 + 6 * a1 + 5) (k * 9 + j) = q_grade (P0 M) (M 170) a1 k j := fun j q0 q1 => by
              rw [y5 j q0 q1]
              unfold q_grade
              rw [hQ.2.2.2.2.1, if_neg (by omega)]
            have hspn : f_X6_spanOf (M 1 3 + 16 + 1 + 6 * a1) k (M 169 2) M = some (q_span (q_grade (P0 M) (M 170) a1 k) (M 169 2)) := by
              rw [c_span (by omega) (by omega) (fun j q0 q1 => by rw [hgr j q0 q1]; exact q_grade_b hcP.1 hN hs6 (by omega) (by omega))]
              unfold q_span
              have := q_mn_congr (g := fun j => M (M 1 3 + 16 + 1 + 6 * a1 + 5) (k * 9 + j)) (h := q_grade (P0 M) (M 170) a1 k) (n := (M 169 2).toNat) (fun i q0 q1 => hgr i q0 (by omega))
              rw [this.1, this.2]
            refine t_Re hspn ?_
            have hsb := hsp k hk1 (by omega)
            show jT (ite _ _ _) _
            rw [pw_of (z := q_span (q_grade (P0 M) (M 170) a1 k) (M 169 2)) (by omega) (by omega), pw_of (z := m) (by omega) (by omega)]
            refine t_if (fun c3 => ?_) (fun c3 => ?_)
            · refine t_let ?_
              refine hself _ _ _ ⟨by omega, by omega, ?_⟩ (by omega)
              rw [hs2, if_neg (by dsimp only; omega)]
            · refine t_let ?_
              refine hself _ _ _ ⟨by omega, by omega, ?_⟩ (by omega)
              rw [hs2, if_pos (by dsimp only; omega)]
          · rw [b2_f (fun q => cg q.2.2)]
            refine t_pos (by decide) ?_
            have hq : q_is (P0 M) (M 169) (M 170) a1 k = 0 := by
              unfold q_is
              exact b2_f (fun q => cg q.2.2.1)
            rw [if_pos hq] at hs2
            show jT (ite _ _ _) _
            rw [pw_of (z := -1) (by omega) (by omega), pw_of (z := m) (by omega) (by omega)]
            refine t_pos (by omega) ?_
            refine t_let ?_
            exact hself _ _ _ ⟨by omega, by omega, hs2.symm⟩ (by omega)
      rw [c_wSk0 hC rfl c1, eR, if_pos rfl, eC (kd_e he), pw_of (z := a1) (by omega) (by omega), eC (by omega), hE.1, hw, eR, eT2, if_pos rfl]
      exact wQ0 rfl (by omega) (fr8_r M)
    · obtain ⟨r6, r9, r0⟩ := ref_A h8
      obtain ⟨b9, b0, b6⟩ := ref_B hP h8
      unfold f_X10_doubt
      refine t_let ?_
      refine t_Ve (e_all (by rw [b9]; exact hT)) ?_
      refine t_We (e_noSk0 (by rw [r9]; exact hT) (by rw [r9]; exact c1)) (t_pos (by decide) ?_)
      refine t_lp3 (fun w m k => 0 ≤ k ∧ k ≤ M 169 (116 + a1) ∧ w = (q_dbt (q_is (P0 M) (M 169) (M 170) a1) (fun k => q_span (q_grade (P0 M) (M 170) a1 k) (M 169 2)) k.toNat).1 ∧ (w ≠ -1 → m = (q_dbt (q_is (P0 M) (M 169) (M 170) a1) (fun k => q_span (q_grade (P0 M) (M 170) a1 k) (M 169 2)) k.toNat).2)) (fun _ _ k => (M 169 (116 + a1) - k).toNat) ?_ jfuel (-1) 0 0 (by rw [jfuel_eq]; omega) ⟨by omega, by omega, rfl, fun h => absurd rfl h⟩
      rintro self w m k ⟨hk1, hk2, hw, hm⟩ hself
      have hb := hdb k.toNat (by omega)
      rw [← hw] at hb
      rw [r9, pw_of (z := 116 + a1) (by omega) (by omega), pw_of (z := M 169 (116 + a1)) (by omega) (by omega), pw_of (z := k) (by omega) (by omega)]
      refine t_ck (by omega) ?_
      refine t_if (fun hc => ?_) (fun hc => ?_)
      · exact rQ (mA_0 M3) (fun _ => by rw [hw, show k = M 169 (116 + a1) from by omega]) (frX_0A M3) (by rw [r6]; exact hcP.1)
      · refine t_Re (e_is (by rw [r6]; exact hcP.1) (by rw [r9]; exact hT) (by rw [r0]; exact hN) hs6 (by omega)) ?_
        rw [r6, r9, r0]
        have hs2 := q_dbt_s (sel := q_is (P0 M) (M 169) (M 170) a1) (f := fun k => q_span (q_grade (P0 M) (M 170) a1 k) (M 169 2)) hk1
        rcases q_is_b (P0 M) (M 169) (M 170) a1 k with hq | hq
        · rw [hq]
          refine t_pos (by decide) ?_
          refine t_let ?_
          rw [if_pos hq] at hs2
          exact hself _ _ _ ⟨by omega, by omega, by rw [hs2]; exact hw, by rw [hs2]; exact hm⟩ (by omega)
        · rw [hq]
          refine t_neg (by decide) ?_
          rw [if_neg (by omega)] at hs2
          have hgb : ∀ j : Int, 0 ≤ j → j < M 169 2 → -5 ≤ q_grade (P0 M) (M 170) a1 k j ∧ q_grade (P0 M) (M 170) a1 k j ≤ 5 := fun j q0 q1 => q_grade_b hcP.1 hN hs6 (by omega) (by omega)
          refine t_lp3 (fun a b i => 0 ≤ i ∧ i ≤ M 169 2 ∧ (i = 0 ∧ a = 100 ∧ b = -100 ∨ 1 ≤ i ∧ a = q_mn (q_grade (P0 M) (M 170) a1 k) i.toNat ∧ b = q_mg (q_grade (P0 M) (M 170) a1 k) i.toNat)) (fun _ _ i => (M 169 2 - i).toNat) ?_ jfuel 100 (-100) 0 (by rw [jfuel_eq]; omega) ⟨by omega, by omega, Or.inl ⟨rfl, rfl, rfl⟩⟩
          rintro self2 a b i ⟨hi1, hi2, hab⟩ hself2
          have hbd := q_mnb (g := q_grade (P0 M) (M 170) a1 k) i.toNat (fun j h0 h1 => hgb j h0 (by omega))
          have habb : -100 ≤ a ∧ a ≤ 100 ∧ -100 ≤ b ∧ b ≤ 100 := by omega
          rw [pw_of (z := 2) (by omega) (by omega), pw_of (z := M 169 2) (by omega) (by omega), pw_of (z := i) (by omega) (by omega)]
          refine t_ck (by omega) ?_
          refine t_if (fun hc2 => ?_) (fun hc2 => ?_)
          · have ei : i = M 169 2 := by omega
            subst ei
            have hspan : b - a = q_span (q_grade (P0 M) (M 170) a1 k) (M 169 2) := by
              unfold q_span
              omega
            have hsb := hsp k hk1 (by omega)
            refine t_k ?_
            rw [pw_of (z := w) (by omega) (by omega), pw_of (z := -1) (by omega) (by omega)]
            refine t_if (fun c3 => ?_) (fun c3 => ?_)
            · refine t_let ?_
              refine t_let ?_
              have hlt : (q_dbt (q_is (P0 M) (M 169) (M 170) a1) (fun k => q_span (q_grade (P0 M) (M 170) a1 k) (M 169 2)) k.toNat).2 < q_span (q_grade (P0 M) (M 170) a1 k) (M 169 2) := by omega
              rw [if_pos hlt] at hs2
              exact hself _ _ _ ⟨by omega, by omega, by rw [hs2], fun _ => by rw [hs2]; exact hspan⟩ (by omega)
            · have hm' := hm c3
              rw [pw_of (z := m) (by omega) (by omega), pw_of (z := b - a) (by omega) (by omega)]
              refine t_if (fun c4 => ?_) (fun c4 => ?_)
              · refine t_let ?_
                refine t_let ?_
                rw [if_pos (show (q_dbt (q_is (P0 M) (M 169) (M 170) a1) (fun k => q_span (q_grade (P0 M) (M 170) a1 k) (M 169 2)) k.toNat).2 < q_span (q_grade (P0 M) (M 170) a1 k) (M 169 2) by omega)] at hs2
                exact hself _ _ _ ⟨by omega, by omega, by rw [hs2], fun _ => by rw [hs2]; exact hspan⟩ (by omega)
              · refine t_let ?_
                rw [if_neg (show ¬ (q_dbt (q_is (P0 M) (M 169) (M 170) a1) (fun k => q_span (q_grade (P0 M) (M 170) a1 k) (M 169 2)) k.toNat).2 < q_span (q_grade (P0 M) (M 170) a1 k) (M 169 2) by omega)] at hs2
                exact hself _ _ _ ⟨by omega, by omega, by rw [hs2]; exact hw, by rw [hs2]; exact hm⟩ (by omega)
          · have hg := hgb i hi1 (by omega)
            refine t_Re (e_grade (by rw [r6]; exact hcP.1) hs6 (by omega) (by omega)) ?_
            rw [r6, r0]
            refine t_Re (e_min (by omega) (by omega)) ?_
            refine t_Re (e_grade (by rw [r6]; exact hcP.1) hs6 (by omega) (by omega)) ?_
            rw [r6, r0]
            refine t_Re (e_max (by omega) (by omega)) ?_
            refine t_let ?_
            refine hself2 _ _ _ ⟨by omega, by omega, Or.inr ⟨by omega, ?_, ?_⟩⟩ (by omega)
            · rw [q_mn_s hi1]
              rcases hab with ⟨x1, x2, x3⟩ | ⟨x1, x2, x3⟩
              · subst x1
                have : q_mn (q_grade (P0 M) (M 170) a1 k) (0 : Int).toNat = 5 := rfl
                omega
              · rw [x2]
            · rw [q_mg_s hi1]
              rcases hab with ⟨x1, x2, x3⟩ | ⟨x1, x2, x3⟩
              · subst x1
                have : q_mg (q_grade (P0 M) (M 170) a1 k) (0 : Int).toNat = -5 := rfl
                omega
              · rw [x3]
  · refine stQ hI (code := 1) (val := 0) (by omega) (fun h => by omega) ?_ (fun M3 h8 => ?_)
    · unfold w_doubt f_X9_doubt
      rw [c_wSk1 hC rfl j1 c1, eR, if_neg (by decide), eT2, if_neg (by decide), if_pos rfl]
      exact wQ1 (by decide) (fr8_r M)
    · obtain ⟨r6, r9, r0⟩ := ref_A h8
      obtain ⟨b9, b0, b6⟩ := ref_B hP h8
      unfold f_X10_doubt
      refine t_let ?_
      refine t_Ve (e_all (by rw [b9]; exact hT)) ?_
      refine t_We (e_noSk1 (by rw [r9]; exact hT) (jin_b j1) (by rw [r9]; exact c1)) (t_neg (by decide) ?_)
      exact rQt (by decide) (frX_0A M3) (by rw [r6]; exact hcP.1)
