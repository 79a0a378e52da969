/-! ===== reading: numbers ===== -/
/-- the value of the first k digits from p on -/
def nvL (tx : Int → Int) (p : Int) : Nat → Int
  | 0 => 0
  | k + 1 => 10 * nvL tx p k + tx (p + (k : Int)) - 48
theorem nvL_s {tx : Int → Int} {p i : Int} (h : 0 ≤ i) : nvL tx p (i + 1).toNat = 10 * nvL tx p i.toNat + tx (p + i) - 48 := by
  rw [show (i + 1).toNat = i.toNat + 1 from by omega]
  show 10 * nvL tx p i.toNat + tx (p + ((i.toNat : Nat) : Int)) - 48 = _
  rw [← pn_nat h]
theorem nvL_b {tx : Int → Int} {p : Int} : ∀ k : Nat, k ≤ 4 → (∀ i : Int, 0 ≤ i → i < k → isDg (tx (p + i)) = true) → 0 ≤ nvL tx p k ∧ nvL tx p k < 10 ^ k := by
  intro k
  induction k with
  | zero => intro _ _; exact ⟨Int.le_refl _, show (0 : Int) < 1 by decide⟩
  | succ k ih =>
    intro hk h
    have h1 := ih (by omega) (fun i q0 q1 => h i q0 (by omega))
    have h2 := isDg_i.1 (h k (by omega) (by omega))
    have e : nvL tx p (k + 1) = 10 * nvL tx p k + tx (p + (k : Int)) - 48 := rfl
    rw [e, Int.pow_succ]
    omega
theorem nvL_b4 {tx : Int → Int} {p : Int} {k : Nat} (hk : k ≤ 4) (h : ∀ i : Int, 0 ≤ i → i < k → isDg (tx (p + i)) = true) : 0 ≤ nvL tx p k ∧ nvL tx p k ≤ 9999 := by
  have h1 := nvL_b k hk h
  have h2 : (10 : Int) ^ k ≤ 10 ^ 4 := by
    rcases k with _ | _ | _ | _ | _ | k
    · decide
    · decide
    · decide
    · decide
    · decide
    · omega
  rw [show (10 : Int) ^ 4 = 10000 from rfl] at h2
  omega
/-- a number stands at p, from lo to hi -/
def nmV (tx : Int → Int) (n p : Int) : Int := nvL tx p (rn isDg tx n p - p).toNat
def nmOk (tx : Int → Int) (n p lo hi : Int) : Prop := p < rn isDg tx n p ∧ rn isDg tx n p - p ≤ 4 ∧ lo ≤ nmV tx n p ∧ nmV tx n p ≤ hi
/-- where the component looks -/
def cSt (tx : Int → Int) (n p : Int) (M : jM) : Prop := okT tx n ∧ (0 ≤ p ∧ p ≤ n) ∧ M 109 2 = n ∧ (∀ i, 0 ≤ i → i < n → M 2 i = tx i) ∧ cAt tx n p M
theorem tk_dg {tx : Int → Int} {n p : Int} (hO : okT tx n) (hp : 0 ≤ p ∧ p ≤ n) : (tkK tx n p = 48 ↔ p < rn isDg tx n p) ∧ (p < rn isDg tx n p → tkE tx n p = rn isDg tx n p) := by
  unfold tkK tkE
  by_cases c : n ≤ p
  · rw [if_pos c, if_pos c, rn_end c]
    omega
  · rw [if_neg c, if_neg c]
    have hv := hO.2.2 p hp.1 (by omega)
    by_cases c1 : isLt (tx p) = true
    · rw [if_pos c1, if_pos c1, rn_no (fun q => by rw [isDg_i] at q; rw [isLt_i] at c1; omega)]
      omega
    · rw [if_neg c1, if_neg c1]
      by_cases c2 : isDg (tx p) = true
      · rw [if_pos c2, if_pos c2]
        have := rn_b (c := isDg) (tx := tx) (n := n) (p := p + 1) (by omega)
        have h2 := rn_yes (n := n) (by omega) c2
        exact ⟨⟨fun _ => by omega, fun _ => rfl⟩, fun _ => rfl⟩
      · rw [if_neg c2, if_neg c2, rn_no c2]
        rw [isDg_i] at c2
        exact ⟨⟨fun _ => by omega, fun _ => by omega⟩, fun _ => by omega⟩
/-- refuse, as it stands in the programs -/
theorem c_refuse {M : jM} {Q : Int × jM → Prop} (h : Q (0, jst M 109 7 (M 109 4))) : jT (jbW (f_X4_refuse M) fun v4 M3 => jck (jw v4 = 0 ∨ jw v4 = 1) <| some (v4, M3)) Q := by
  unfold f_X4_refuse
  refine t_W (t_let (t_some ?_))
  exact t_ck (show jw 0 = 0 ∨ jw 0 = 1 by decide) (t_some h)
theorem c_number {tx : Int → Int} {n p lo hi : Int} {M : jM} (h : cSt tx n p M) (hlo : 0 ≤ lo ∧ lo ≤ 10000) (hhi : 0 ≤ hi ∧ hi ≤ 10000) : jT (f_X4_number lo hi M) (fun q => (nmOk tx n p lo hi ∧ q.1 = 1 ∧ q.2 109 6 = nmV tx n p ∧ cAt tx n (bl tx n (rn isDg tx n p)) q.2 ∨ ¬ nmOk tx n p lo hi ∧ q.1 = 0 ∧ q.2 109 7 = p) ∧ (∀ a, a ≠ 109 → q.2 a = M a) ∧ ∀ j, j ≠ 3 → j ≠ 4 → j ≠ 5 → j ≠ 6 → (q.1 = 0 → j ≠ 7) → q.2 109 j = M 109 j) := by
  obtain ⟨hO, hp, h2, ht, a4, a3, a5⟩ := h
  obtain ⟨d1, d2⟩ := tk_dg hO hp
  have hr := rn_b (c := isDg) (tx := tx) hp.2
  have n6 := hO.2.1
  have hkb : -1 ≤ tkK tx n p ∧ tkK tx n p ≤ 255 := by
    unfold tkK
    split
    · omega
    · split
      · omega
      · split
        · omega
        · have := hO.2.2 p hp.1 (by omega)
          omega
  have heb := tkE_b (tx := tx) hp.2
  unfold f_X4_number
  refine t_kP (fun kk => ¬ nmOk tx n p lo hi → jT kk (fun q => (nmOk tx n p lo hi ∧ q.1 = 1 ∧ q.2 109 6 = nmV tx n p ∧ cAt tx n (bl tx n (rn isDg tx n p)) q.2 ∨ ¬ nmOk tx n p lo hi ∧ q.1 = 0 ∧ q.2 109 7 = p) ∧ (∀ a, a ≠ 109 → q.2 a = M a) ∧ ∀ j, j ≠ 3 → j ≠ 4 → j ≠ 5 → j ≠ 6 → (q.1 = 0 → j ≠ 7) → q.2 109 j = M 109 j)) ?_ ?_
  · intro hno
    refine c_refuse ⟨Or.inr ⟨hno, rfl, ?_⟩, fun a q => pst_f q, fun j _ _ _ _ q => pst_i (q rfl)⟩
    dsimp only
    rw [pst_s]
    exact a4
  · intro k1 hk1
    rw [a3, a5, pw_of (z := tkK tx n p) (by omega) (by omega), pw_of (z := 48) (by omega) (by omega), pw_of (z := tkE tx n p - p) (by omega) (by omega), pw_of (z := 4) (by omega) (by omega)]
    refine t_if (fun c1 => ?_) (fun c1 => hk1 (fun q => c1 (d1.2 q.1)))
    have hpr := d1.1 c1
    have hE := d2 hpr
    refine t_if (fun c2 => ?_) (fun c2 => hk1 (fun q => by have := q.2.1; omega))
    rw [hE] at c2
    have hdig : ∀ i : Int, 0 ≤ i → i < rn isDg tx n p - p → isDg (tx (p + i)) = true := fun i q0 q1 => hr.2.2.1 (p + i) (by omega) (by omega)
    refine t_let ?_
    refine t_lp2 (fun i M8 => 0 ≤ i ∧ i ≤ rn isDg tx n p - p ∧ M8 109 6 = nvL tx p i.toNat ∧ (∀ a, a ≠ 109 → M8 a = M a) ∧ ∀ j, j ≠ 6 → M8 109 j = M 109 j) (fun i _ => (rn isDg tx n p - p - i).toNat) ?_ jfuel 0 _ (by rw [jfuel_eq]; omega) ⟨by omega, by omega, pst_s _ _ _ _, fun a q => pst_f q, fun j q => pst_i q⟩
    rintro self i M8 ⟨hi1, hi2, h6, hf, hf9⟩ hself
    have hnb := nvL_b4 (tx := tx) (p := p) (k := i.toNat) (by omega) (fun x q0 q1 => hdig x q0 (by omega))
    rw [hf9 5 (by decide), hf9 4 (by decide), a5, a4, hE, h6, hf 2 (by decide), pw_of (z := rn isDg tx n p - p) (by omega) (by omega), pw_of (z := i) (by omega) (by omega), pw_of (z := nvL tx p i.toNat) (by omega) (by omega), pw_of (z := lo) (by omega) (by omega), pw_of (z := hi) (by omega) (by omega)]
    refine t_if (fun c3 => ?_) (fun c3 => ?_)
    · have hie : i = rn isDg tx n p - p := by omega
      have hV : nvL tx p i.toNat = nmV tx n p := by rw [hie]; rfl
      refine t_kP (fun kk => ¬ nmOk tx n p lo hi → jT kk (fun q => (nmOk tx n p lo hi ∧ q.1 = 1 ∧ q.2 109 6 = nmV tx n p ∧ cAt tx n (bl tx n (rn isDg tx n p)) q.2 ∨ ¬ nmOk tx n p lo hi ∧ q.1 = 0 ∧ q.2 109 7 = p) ∧ (∀ a, a ≠ 109 → q.2 a = M a) ∧ ∀ j, j ≠ 3 → j ≠ 4 → j ≠ 5 → j ≠ 6 → (q.1 = 0 → j ≠ 7) → q.2 109 j = M 109 j)) ?_ ?_
      · intro hno
        refine c_refuse ⟨Or.inr ⟨hno, rfl, ?_⟩, fun a q => ?_, fun j _ _ _ q6 q => ?_⟩
        · dsimp only
          rw [pst_s, hf9 4 (by decide)]
          exact a4
        · dsimp only
          rw [pst_f q]
          exact hf a q
        · dsimp only
          rw [pst_i (q rfl)]
          exact hf9 j q6
      · intro k10 hk10
        rw [hV]
        refine t_if (fun c4 => hk10 (fun q => by have := q.2.2.1; omega)) (fun c4 => ?_)
        refine t_if (fun c5 => ?_) (fun c5 => hk10 (fun q => by have := q.2.2.2; omega))
        refine t_V (t_mono (c_adv (M := M8) (p := rn isDg tx n p) hO (by rw [hf9 2 (by decide)]; exact h2) (fun x q0 q1 => by rw [hf 2 (by decide)]; exact ht x q0 q1) (by rw [hf9 4 (by decide), hf9 5 (by decide), a4, a5, hE]; omega) ⟨by omega, hr.2.1⟩) (fun M9 h9 => ?_))
        refine t_some ⟨Or.inl ⟨⟨hpr, c2, by omega, c5⟩, rfl, ?_, h9.1⟩, fun a q => ?_, fun j q3 q4 q5 q6 _ => ?_⟩
        · dsimp only
          rw [h9.2.2 6 (by decide) (by decide) (by decide), h6, hV]
        · dsimp only
          rw [h9.2.1 a q]
          exact hf a q
        · dsimp only
          rw [h9.2.2 j q3 q4 q5]
          exact hf9 j q6
    · have hd := isDg_i.1 (hdig i hi1 (by omega))
      rw [pw_of (z := p + i) (by omega) (by omega), ht (p + i) (by omega) (by omega)]
      refine t_ck (by omega) ?_
      refine t_let ?_
      refine t_let ?_
      refine hself _ _ ⟨by omega, by omega, ?_, fun a q => ?_, fun j q => ?_⟩ (by omega)
      · rw [pst_s, nvL_s hi1]
      · rw [pst_f q]
        exact hf a q
      · rw [pst_i q]
        exact hf9 j q
/-- the reference's marks: point and begin within the text -/
def rPt (n : Int) (M : jM) : Prop := 0 ≤ M 166 4 ∧ M 166 4 ≤ n
theorem e_fails0 {M : jM} (h : M 166 7 = -1) : f_X10_fails M = some (jst M 166 7 (M 166 5)) := by
  unfold f_X10_fails
  rw [h, if_pos rfl]
  rfl
theorem e_fails1 {M : jM} (h : 0 ≤ M 166 7 ∧ M 166 7 ≤ 600) : f_X10_fails M = some M := by
  unfold f_X10_fails
  rw [pw_of (z := M 166 7) (by omega) (by omega), pw_of (z := -1) (by omega) (by omega), if_neg (by omega)]
theorem e_number {tx : Int → Int} {n p lo hi : Int} {M : jM} (hO : okT tx n) (hx : rTx tx n M) (ha : rAt tx n p M) (h7 : M 166 7 = -1) (hlo : 0 ≤ lo ∧ lo ≤ 10000) (hhi : 0 ≤ hi ∧ hi ≤ 10000) : jT (f_X10_number lo hi M) (fun q => (nmOk tx n p lo hi ∧ q.1 = nmV tx n p ∧ q.2 166 7 = -1 ∧ rAt tx n (bl tx n (rn isDg tx n p)) q.2 ∨ ¬ nmOk tx n p lo hi ∧ q.2 166 7 = p) ∧ rPt n q.2 ∧ (0 ≤ q.1 ∧ q.1 ≤ 10000) ∧ (∀ a, a ≠ 166 → q.2 a = M a) ∧ ∀ j, j ≠ 4 → j ≠ 5 → j ≠ 7 → q.2 166 j = M 166 j) := by
  obtain ⟨p0, p1, p2, p3⟩ := rAt_b ha
  have hr := rn_b (c := isDg) (tx := tx) p1
  have n6 := hO.2.1
  unfold f_X10_number
  refine t_Re (e_failed (by omega)) ?_
  rw [if_pos h7]
  refine t_pos (by decide) ?_
  refine t_V (t_mono (e_blanks hO hx rfl ⟨ha.1, ha.2.1⟩) (fun M4 h4 => ?_))
  obtain ⟨g1, g2, g3⟩ := h4
  rw [ha.2.2] at g1 g2
  refine t_lp2 (fun v M6 => ∃ i, M6 166 4 = i ∧ M6 166 5 = p ∧ p ≤ i ∧ i ≤ rn isDg tx n p ∧ v = nvL tx p (min (i - p) 4).toNat ∧ fr6 M M6) (fun _ M6 => (rn isDg tx n p - M6 166 4).toNat) ?_ jfuel 0 M4 (by rw [jfuel_eq, g1]; omega) ⟨p, g1, g2, by omega, hr.1, by rw [show (min (p - p) 4).toNat = 0 from by omega]; rfl, g3⟩
  rintro self v M6 ⟨i, f4, f5, hi1, hi2, hv, hf⟩ hself
  have hx6 := rTx_fr hx hf
  have f7 : M6 166 7 = -1 := by rw [hf.2 7 (by decide) (by decide)]; exact h7
  have hdig : ∀ x : Int, 0 ≤ x → x < rn isDg tx n p - p → isDg (tx (p + x)) = true := fun x q0 q1 => hr.2.2.1 (p + x) (by omega) (by omega)
  have hvb := nvL_b4 (tx := tx) (p := p) (k := (min (i - p) 4).toNat) (by omega) (fun x q0 q1 => hdig x q0 (by omega))
  rw [← hv] at hvb
  refine t_Re (e_isAt hO hx6 f4 (by omega) (by decide) (by decide)) ?_
  by_cases c : i < n ∧ 48 ≤ tx i ∧ tx i ≤ 57
  · have hir : i < rn isDg tx n p := by
      rcases Int.lt_or_le i (rn isDg tx n p) with q | q
      · exact q
      · have ei : i = rn isDg tx n p := by omega
        exact absurd (isDg_i.2 (by rw [← ei]; omega)) (hr.2.2.2 (by omega))
    have hx255 := hO.2.2 i (by omega) (by omega)
    have h8 : M6 167 i = tx i := by rw [hx6.2 i (by omega) (by omega), b8_o hx255, if_pos (by omega)]
    rw [b2_t c]
    refine t_neg (by decide) ?_
    refine t_k ?_
    rw [f4, f5, pw_of (z := 4) (by omega) (by omega), pw_of (z := i - p) (by omega) (by omega), pw_of (z := i) (by omega) (by omega), h8]
    refine t_if (fun c1 => ?_) (fun c1 => ?_)
    · refine t_let ?_
      exact hself _ _ ⟨i + 1, pst_s _ _ _ _, by rw [pst_i (by decide)]; exact f5, by omega, by omega, by rw [hv, show (min (i - p) 4).toNat = (min (i + 1 - p) 4).toNat from by omega], fr6_t hf (fr6_4 _ _)⟩ (by rw [pst_s, f4]; omega)
    · refine t_ck (by omega) ?_
      refine t_let ?_
      refine t_let ?_
      refine hself _ _ ⟨i + 1, pst_s _ _ _ _, by rw [pst_i (by decide)]; exact f5, by omega, by omega, ?_, fr6_t hf (fr6_4 _ _)⟩ (by rw [pst_s, f4]; omega)
      have := nvL_s (tx := tx) (p := p) (i := i - p) (by omega)
      rw [show p + (i - p) = i from by omega, show (i - p + 1).toNat = (min (i + 1 - p) 4).toNat from by omega, show (i - p).toNat = (min (i - p) 4).toNat from by omega] at this
      rw [this, hv]
  · have hir : i = rn isDg tx n p := by
      rcases Int.lt_or_le i (rn isDg tx n p) with q | q
      · have := isDg_i.1 (hr.2.2.1 i hi1 q)
        omega
      · omega
    rw [b2_f c]
    refine t_pos (by decide) ?_
    rw [f4, f5]
    refine t_let ?_
    refine t_kP (fun kk => ¬ nmOk tx n p lo hi → jT kk (fun q => (nmOk tx n p lo hi ∧ q.1 = nmV tx n p ∧ q.2 166 7 = -1 ∧ rAt tx n (bl tx n (rn isDg tx n p)) q.2 ∨ ¬ nmOk tx n p lo hi ∧ q.2 166 7 = p) ∧ rPt n q.2 ∧ (0 ≤ q.1 ∧ q.1 ≤ 10000) ∧ (∀ a, a ≠ 166 → q.2 a = M a) ∧ ∀ j, j ≠ 4 → j ≠ 5 → j ≠ 7 → q.2 166 j = M 166 j)) ?_ ?_
    · intro hno
      refine t_Ve (e_fails0 f7) ?_
      refine t_some ⟨Or.inr ⟨hno, ?_⟩, ?_, ?_, fun a q => ?_, fun j q4 q5 q7 => ?_⟩
      · dsimp only
        rw [pst_s]
        exact f5
      · unfold rPt
        dsimp only
        rw [pst_i (by decide), f4]
        omega
      · dsimp only
        omega
      · dsimp only
        rw [pst_f q]
        exact hf.1 a q
      · dsimp only
        rw [pst_i q7]
        exact hf.2 j q4 q5
    · intro k11 hk11
      rw [pw_of (z := i - p) (by omega) (by omega), pw_of (z := 4) (by omega) (by omega)]
      refine t_if (fun c1 => hk11 (fun q => by have := q.1; omega)) (fun c1 => ?_)
      refine t_if (fun c2 => hk11 (fun q => by have := q.2.1; omega)) (fun c2 => ?_)
      have hV : v = nmV tx n p := by
        rw [hv, show (min (i - p) 4).toNat = (rn isDg tx n p - p).toNat from by omega]
        rfl
      refine t_Re (e_in (by omega) (by omega) (by omega)) ?_
      by_cases c3 : lo ≤ v ∧ v ≤ hi
      · rw [b2_t c3]
        refine t_neg (by decide) ?_
        refine t_some ⟨Or.inl ⟨⟨by omega, by omega, by omega, by omega⟩, hV, f7, ?_⟩, ?_, ?_, hf.1, fun j q4 q5 _ => hf.2 j q4 q5⟩
        · unfold rAt
          dsimp only
          rw [f4, hir]
          exact ⟨by omega, hr.2.1, rfl⟩
        · unfold rPt
          dsimp only
          rw [f4]
          omega
        · dsimp only
          omega
      · rw [b2_f c3]
        refine t_pos (by decide) ?_
        exact hk11 (fun q => c3 ⟨by have := q.2.2.1; omega, by have := q.2.2.2; omega⟩)
