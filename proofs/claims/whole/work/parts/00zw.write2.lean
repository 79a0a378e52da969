/-! ===== write: numbers of the component ===== -/
theorem dgL_12 {n : Int} (h : 0 ≤ n ∧ n ≤ 2147483647) : dgL 12 n = (if n ≤ 9 then [] else dgL 12 (n / 10)) ++ [48 + n % 10] := by
  have e : dgL 12 n = (if n ≤ 9 then [] else dgL 11 (n / 10)) ++ [48 + n % 10] := rfl
  rw [e, dgL_f 11 12 (n / 10) (by omega) (by rw [show (10 : Int) ^ 11 = 100000000000 from rfl]; omega) (by rw [show (10 : Int) ^ 12 = 1000000000000 from rfl]; omega) (by decide) (by decide)]
theorem dgL_p {a p : Int} (ha : 0 ≤ a ∧ a ≤ 2147483647) (hp : 0 < p) : dgL 12 (a / p) = (if a < 10 * p then [] else dgL 12 (a / (10 * p))) ++ [48 + a / p % 10] := by
  have h0 := Int.ediv_nonneg ha.1 (Int.le_of_lt hp)
  have h1 := Int.ediv_le_self p ha.1
  have h2 : a / p < 10 ↔ a < 10 * p := Int.ediv_lt_iff_lt_mul hp
  have h3 : a / p / 10 = a / (p * 10) := Int.ediv_ediv_of_nonneg (Int.le_of_lt hp)
  rw [dgL_12 (by omega), h3, Int.mul_comm p 10]
  by_cases c : a < 10 * p
  · rw [if_pos c, if_pos (by omega)]
  · rw [if_neg c, if_neg (by omega)]
theorem cW_t {M M1 M2 : jM} {L l1 l2 : List Int} (h1 : cW M L l1 M1) (h2 : cW M1 (L ++ l1) l2 M2) : cW M L (l1 ++ l2) M2 := ⟨by rw [← List.append_assoc]; exact h2.1, fW_t h1.2 h2.2⟩
theorem rW_t {M M1 M2 : jM} {L l1 l2 : List Int} (h1 : rW M L l1 M1) (h2 : rW M1 (L ++ l1) l2 M2) : rW M L (l1 ++ l2) M2 := ⟨by rw [← List.append_assoc]; exact h2.1, fR_t h1.2 h2.2⟩
theorem cW_r {M : jM} {L : List Int} (h : pg 164 1 165 M L) : cW M L [] M := ⟨by rw [List.append_nil]; exact h, fun _ _ _ => rfl⟩
theorem rW_r {M : jM} {L : List Int} (h : pg 166 31 179 M L) : rW M L [] M := ⟨by rw [List.append_nil]; exact h, fun _ _ _ _ => rfl, fun _ _ => rfl⟩
theorem dgL_3 {a p : Int} (ha : 0 ≤ a ∧ a ≤ 999999) (hp : 100 ≤ p) : (dgL 12 (a / p)).length ≤ 4 := by
  have h0 := Int.ediv_nonneg ha.1 (show 0 ≤ p by omega)
  have h2 : a / p < 10000 ↔ a < 10000 * p := Int.ediv_lt_iff_lt_mul (by omega)
  have h3 : a / p < 10000 := h2.2 (by omega)
  have h1 := dgL_len 4 (a / p) (by rw [show (10 : Int) ^ 4 = 10000 from rfl]; exact h3)
  rw [dgL_f 12 4 _ h0 (by rw [show (10 : Int) ^ 12 = 1000000000000 from rfl]; omega) (by rw [show (10 : Int) ^ 4 = 10000 from rfl]; omega) (by decide) (by decide)]
  exact h1
def plD (p : Int) : Nat := if p < 100 then p.toNat else if p < 10000 then 100 + p.toNat / 100 else 300 + p.toNat / 10000
theorem plD_lt {p : Int} (h : p = 10000000 ∨ p = 1000000 ∨ p = 100000 ∨ p = 10000 ∨ p = 1000 ∨ p = 100 ∨ p = 10 ∨ p = 1) : plD (p / 10) < plD p := by
  rcases h with h | h | h | h | h | h | h | h <;> subst h <;> decide
def hdI (M : jM) (L l0 : List Int) (a flag p : Int) (M7 : jM) : Prop := (p = 10000000 ∨ p = 1000000 ∨ p = 100000 ∨ p = 10000 ∨ p = 1000 ∨ p = 100) ∧ (flag = 0 ∧ a < 10 * p ∧ cW M L l0 M7 ∨ flag = 1 ∧ 10 * p ≤ a ∧ cW M L (l0 ++ dgL 12 (a / (10 * p))) M7) ∨ p = 10 ∧ flag = 1 ∧ cW M L (l0 ++ (dgL 12 (a / 100) ++ [46])) M7 ∨ p = 1 ∧ flag = 1 ∧ cW M L (l0 ++ (dgL 12 (a / 100) ++ [46] ++ [48 + a / 10 % 10])) M7 ∨ p = 0 ∧ cW M L (l0 ++ (dgL 12 (a / 100) ++ [46] ++ [48 + a / 10 % 10] ++ [48 + a % 10])) M7
set_option maxHeartbeats 1000000 in
theorem c_putHd {M : jM} {L : List Int} {v : Int} (h : pg 164 1 165 M L) (hl : L.length + 8 ≤ 420) (hv : -999999 ≤ v ∧ v ≤ 999999) : jT (f_X3_putHundredths v M) (cW M L (hdL v)) := by
  unfold f_X3_putHundredths hdL
  have ha : 0 ≤ (if 0 ≤ v then v else -v) ∧ (if 0 ≤ v then v else -v) ≤ 999999 := by split <;> omega
  have habs := e_abs (a := v) (by omega)
  rw [habs]
  generalize (if 0 ≤ v then v else -v) = a at ha ⊢
  refine t_kP (fun kk => ∀ M1 l0, l0.length ≤ 1 → cW M L l0 M1 → jT (kk M1) (cW M L (l0 ++ (dgL 12 (a / 100) ++ [46] ++ [48 + a / 10 % 10] ++ [48 + a % 10])))) ?_ ?_
  · intro M1 l0 hl0 h1
    refine t_Re rfl ?_
    refine t_lp3 (fun flag p M7 => hdI M L l0 a flag p M7) (fun _ p _ => plD p) ?_ jfuel 0 10000000 M1 (by rw [jfuel_eq]; decide) (Or.inl ⟨Or.inl rfl, Or.inl ⟨rfl, by omega, h1⟩⟩)
    intro self flag p M7 hI hself
    have hpb : 0 ≤ p ∧ p ≤ 10000000 := by rcases hI with ⟨q, _⟩ | ⟨q, _⟩ | ⟨q, _⟩ | ⟨q, _⟩ <;> omega
    have hfb : 0 < p → 0 ≤ flag ∧ flag ≤ 1 := fun _ => by rcases hI with ⟨_, ⟨q, _⟩ | ⟨q, _⟩⟩ | ⟨_, q, _⟩ | ⟨_, q, _⟩ | ⟨q, _⟩ <;> omega
    have hpl : 0 < p → plD (p / 10) < plD p := fun q => plD_lt (by rcases hI with ⟨q, _⟩ | ⟨q, _⟩ | ⟨q, _⟩ | ⟨q, _⟩ <;> omega)
    rw [pw_of (z := p) (by omega) (by omega)]
    refine t_if (fun c => ?_) (fun c => ?_)
    · refine t_some ?_
      rcases hI with ⟨q, _⟩ | ⟨q, _⟩ | ⟨q, _⟩ | ⟨q, h2⟩
      · omega
      · omega
      · omega
      · exact h2
    · have h0 := Int.ediv_nonneg ha.1 (show 0 ≤ p by omega)
      have h2 := Int.ediv_le_self p ha.1
      rw [pw_of (z := a) (by omega) (by omega), pw_of (z := 100) (by omega) (by omega), pw_of (z := 10) (by omega) (by omega), pw_of (z := flag) (by omega) (by omega), Int.tdiv_eq_ediv_of_nonneg ha.1, Int.tdiv_eq_ediv_of_nonneg hpb.1, pw_of (z := a / p) (by omega) (by omega), Int.tmod_eq_emod_of_nonneg h0]
      have hdg := dgL_p (a := a) (p := p) (by omega) (by omega)
      refine t_kP (fun kk => ((1000 ≤ p → p ≤ a) → jT (kk 1) (cW M L (l0 ++ (dgL 12 (a / 100) ++ [46] ++ [48 + a / 10 % 10] ++ [48 + a % 10])))) ∧ (flag = 0 → 1000 ≤ p → a < p → jT (kk 0) (cW M L (l0 ++ (dgL 12 (a / 100) ++ [46] ++ [48 + a / 10 % 10] ++ [48 + a % 10]))))) ?_ ?_
      · constructor
        · intro hpa
          refine t_kP (fun kk => ∀ M11 l1, cW M L (l0 ++ l1) M11 → (p = 100 → (l0 ++ l1).length ≤ 7) → (100 ≤ p → l1 = dgL 12 (a / p)) → (p = 10 → l1 = dgL 12 (a / 100) ++ [46] ++ [48 + a / 10 % 10]) → (p = 1 → l1 = dgL 12 (a / 100) ++ [46] ++ [48 + a / 10 % 10] ++ [48 + a % 10]) → jT (kk M11) (cW M L (l0 ++ (dgL 12 (a / 100) ++ [46] ++ [48 + a / 10 % 10] ++ [48 + a % 10])))) ?_ ?_
          · intro M11 l1 h11 hll e1 e2 e3
            refine t_k ?_
            refine t_if (fun c1 => ?_) (fun c1 => ?_)
            · refine t_V (t_mono (c_put h11.1 (by have := hll c1; rw [List.length_append]; omega) (by decide)) (fun M12 h12 => ?_))
              refine t_let ?_
              refine hself _ _ _ (Or.inr (Or.inl ⟨by omega, rfl, ?_⟩)) (hpl (by omega))
              rw [e1 (by omega), c1] at h11 h12
              have := cW_t h11 h12
              rw [List.append_assoc] at this
              exact this
            · refine t_let ?_
              rcases hI with ⟨q, _⟩ | ⟨q, _⟩ | ⟨q, _⟩ | ⟨q, _⟩
              · refine hself _ _ _ (Or.inl ⟨by omega, Or.inr ⟨rfl, ?_, ?_⟩⟩) (hpl (by omega))
                · omega
                · rw [show 10 * (p / 10) = p from by omega, ← e1 (by omega)]
                  exact h11
              · refine hself _ _ _ (Or.inr (Or.inr (Or.inl ⟨by omega, rfl, ?_⟩))) (hpl (by omega))
                rw [← e2 q]
                exact h11
              · refine hself _ _ _ (Or.inr (Or.inr (Or.inr ⟨by omega, ?_⟩))) (hpl (by omega))
                rw [← e3 q]
                exact h11
              · omega
          · intro k12 h12
            refine t_neg (by decide) ?_
            refine t_ck (by omega) ?_
            have hlen : (dgL 12 (a / 100)).length ≤ 4 := dgL_3 ha (by omega)
            rcases hI with ⟨q, ⟨q1, q2, q3⟩ | ⟨q1, q2, q3⟩⟩ | ⟨q, q1, q3⟩ | ⟨q, q1, q3⟩ | ⟨q, _⟩
            · refine t_V (t_mono (c_put q3.1 (by rw [List.length_append]; omega) (by omega)) (fun M12 h13 => ?_))
              rw [if_pos q2] at hdg
              exact h12 M12 [48 + a / p % 10] (cW_t q3 h13) (fun _ => by simp only [List.length_append, List.length_singleton]; omega) (fun _ => hdg.symm) (fun x => by omega) (fun x => by omega)
            · have hl2 : (dgL 12 (a / (10 * p))).length ≤ 4 := dgL_3 ha (by omega)
              refine t_V (t_mono (c_put q3.1 (by simp only [List.length_append]; omega) (by omega)) (fun M12 h13 => ?_))
              rw [if_neg (by omega)] at hdg
              have := cW_t q3 h13
              rw [List.append_assoc] at this
              exact h12 M12 _ this (fun _ => by simp only [List.length_append, List.length_singleton]; omega) (fun _ => hdg.symm) (fun x => by omega) (fun x => by omega)
            · refine t_V (t_mono (c_put q3.1 (by simp only [List.length_append, List.length_singleton]; omega) (by omega)) (fun M12 h13 => ?_))
              have := cW_t q3 h13
              rw [List.append_assoc] at this
              exact h12 M12 _ this (fun _ => by simp only [List.length_append, List.length_singleton]; omega) (fun x => by omega) (fun x => by rw [q]) (fun x => by omega)
            · refine t_V (t_mono (c_put q3.1 (by simp only [List.length_append, List.length_singleton]; omega) (by omega)) (fun M12 h13 => ?_))
              have := cW_t q3 h13
              rw [List.append_assoc] at this
              exact h12 M12 _ this (fun _ => by simp only [List.length_append, List.length_singleton]; omega) (fun x => by omega) (fun x => by omega) (fun x => by rw [q, Int.ediv_one])
            · omega
        · intro c1 c2 c3
          refine t_k ?_
          refine t_pos (by decide) ?_
          refine t_k ?_
          refine t_neg (by omega) ?_
          refine t_let ?_
          rcases hI with ⟨q, ⟨q1, q2, q3⟩ | ⟨q1, q2, q3⟩⟩ | ⟨q, _⟩ | ⟨q, _⟩ | ⟨q, _⟩
          · exact hself _ _ _ (Or.inl ⟨by omega, Or.inl ⟨rfl, by omega, q3⟩⟩) (hpl (by omega))
          · omega
          · omega
          · omega
          · omega
      · rintro k10 ⟨k1, k0⟩
        refine t_k ?_
        refine t_if (fun c1 => ?_) (fun c1 => k1 (fun _ => by rcases hI with ⟨q, ⟨q1, q2, q3⟩ | ⟨q1, q2, q3⟩⟩ | ⟨q, _⟩ | ⟨q, _⟩ | ⟨q, _⟩ <;> omega))
        refine t_if (fun c2 => k1 (fun _ => by omega)) (fun c2 => ?_)
        refine t_if (fun c3 => ?_) (fun c3 => k1 (fun _ => by omega))
        refine k0 c1 ?_ c3
        rcases hI with ⟨q, _⟩ | ⟨q, _⟩ | ⟨q, _⟩ | ⟨q, _⟩ <;> omega
  · intro k2 h2
    rw [pw_of (z := v) (by omega) (by omega)]
    refine t_if (fun c => ?_) (fun c => ?_)
    · rw [if_pos c]
      exact h2 M [] (by decide) (cW_r h)
    · rw [if_neg c]
      refine t_V (t_mono (c_put h (by omega) (by decide)) (fun M3 h3 => ?_))
      exact h2 M3 [45] (by decide) h3
