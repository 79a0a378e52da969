/-! ===== reading: names ===== -/
/-- how many of a name's six places differ from the word of len letters at p -/
def mmS (D tx : Int → Int) (b p len : Int) : Int := sZ (fun k => if D (b + k) = (if k < len then tx (p + k) else 0) then 0 else 1) 6
theorem mmS_i {D tx : Int → Int} {b p len : Int} : mmS D tx b p len = 0 ↔ ∀ k, 0 ≤ k → k < 6 → D (b + k) = if k < len then tx (p + k) else 0 := by
  unfold mmS
  constructor
  · intro h k q0 q1
    have h' : sS (fun k => if D (b + k) = (if k < len then tx (p + k) else 0) then 0 else 1) 6 = 0 := h
    have := sS_ge (f := fun k => if D (b + k) = (if k < len then tx (p + k) else 0) then 0 else 1) (n := 6) (i := k) (fun j => by split <;> omega) q0 (by omega)
    by_cases c : D (b + k) = if k < len then tx (p + k) else 0
    · exact c
    · rw [if_neg c] at this
      omega
  · intro h
    have : sZ (fun k => if D (b + k) = (if k < len then tx (p + k) else 0) then 0 else 1) 6 = sZ (fun _ => 0) 6 := sZ_congr (fun k q0 q1 => if_pos (h k q0 q1))
    rw [this]
    rfl
/-- the first place where f is 0 -/
def fi (f : Int → Int) : Nat → Int → Int
  | 0, _ => -1
  | k + 1, i => if f i = 0 then i else fi f k (i + 1)
theorem fi_b {f : Int → Int} : ∀ (k : Nat) (i : Int), 0 ≤ i → fi f k i = -1 ∨ (i ≤ fi f k i ∧ fi f k i < i + k) := by
  intro k
  induction k with
  | zero => intro i _; exact Or.inl rfl
  | succ k ih =>
    intro i hi
    unfold fi
    split
    · omega
    · have := ih (i + 1) (by omega)
      omega
theorem fi_s {f : Int → Int} {n i : Int} (h : i < n) : fi f (n - i).toNat i = if f i = 0 then i else fi f (n - (i + 1)).toNat (i + 1) := by
  rw [show (n - i).toNat = (n - (i + 1)).toNat + 1 from by omega]
  rfl
/-- the word at p among m names from base on; -1: it is not -/
def fdN (D tx : Int → Int) (base m p len : Int) : Int := fi (fun i => mmS D tx (base + 6 * i) p len) m.toNat 0
theorem fdN_b {D tx : Int → Int} {base m p len : Int} (hm : 0 ≤ m) : -1 ≤ fdN D tx base m p len ∧ (fdN D tx base m p len ≠ -1 → 0 ≤ fdN D tx base m p len ∧ fdN D tx base m p len < m) := by
  have := fi_b (f := fun i => mmS D tx (base + 6 * i) p len) m.toNat 0 (by omega)
  unfold fdN
  omega
theorem c_find {t m N base p len : Int} {M : jM} {D tx : Int → Int} (hN : 6 ≤ N ∧ N ≤ 10) (hl2 : jln (t + 2) = N) (hl1 : jln (t + 1) = 6 * N) (hm : 0 ≤ m ∧ m ≤ N) (h3 : M t 3 = m) (hR : rNm (M (t + 1)) (M (t + 2)) D base m) (hp : 0 ≤ p ∧ p + len ≤ 600) (hlen : 1 ≤ len) (ht : ∀ k, 0 ≤ k → k < len → M 2 (p + k) = tx (p + k) ∧ 97 ≤ tx (p + k) ∧ tx (p + k) ≤ 122) : f_X2_find t 2 p len M = some (if len ≤ 6 then fdN D tx base m p len else -1) := by
  apply t_get
  unfold f_X2_find
  rw [h3]
  refine t_lp1 (fun i => 0 ≤ i ∧ i ≤ m ∧ (len ≤ 6 → fi (fun i => mmS D tx (base + 6 * i) p len) (m - i).toNat i = fdN D tx base m p len)) (fun i => (m - i).toNat) ?_ jfuel 0 (by rw [jfuel_eq]; omega) ⟨by omega, by omega, fun _ => by unfold fdN; rw [Int.sub_zero]⟩
  rintro self i ⟨hi1, hi2, hF⟩ hself
  rw [pw_of (z := m) (by omega) (by omega), pw_of (z := i) (by omega) (by omega), pw_of (z := len) (by omega) (by omega)]
  refine t_if (fun c => ?_) (fun c => ?_)
  · refine t_some ?_
    by_cases c6 : len ≤ 6
    · have hF := hF c6
      rw [show (m - i).toNat = 0 from by omega] at hF
      rw [if_pos c6, ← hF]
      rfl
    · rw [if_neg c6]
  · obtain ⟨⟨z1, z2⟩, z3⟩ := hR i hi1 (by omega)
    rw [fi_s (by omega)] at hF
    rw [hl2, pw_of (z := M (t + 2) i) (by omega) (by omega)]
    refine t_ck (by omega) ?_
    have hno : len ≤ 6 → ¬ (M (t + 2) i = len ∧ ∀ k, 0 ≤ k → k < len → M (t + 1) (6 * i + k) = tx (p + k)) → mmS D tx (base + 6 * i) p len ≠ 0 := fun hl6 hne h0 => by
      rw [mmS_i] at h0
      apply hne
      have hz : M (t + 2) i = len := by
        rcases Int.lt_trichotomy (M (t + 2) i) len with q | q | q
        · have a1 := h0 (M (t + 2) i) (by omega) (by omega)
          have a2 := (z3 (M (t + 2) i) (by omega) (by omega)).2
          rw [if_neg (by omega)] at a2
          rw [if_pos q] at a1
          have := ht (M (t + 2) i) (by omega) q
          omega
        · exact q
        · have a1 := h0 len (by omega) (by omega)
          have a2 := z3 len (by omega) (by omega)
          have a3 := a2.1 q
          have a4 := a2.2
          rw [if_pos q] at a4
          rw [if_neg (by omega)] at a1
          omega
      refine ⟨hz, fun k q0 q1 => ?_⟩
      have a1 := h0 k q0 (by omega)
      have a2 := (z3 k q0 (by omega)).2
      rw [if_pos q1] at a1
      rw [if_pos (by omega)] at a2
      omega
    have next : ¬ (M (t + 2) i = len ∧ ∀ k, 0 ≤ k → k < len → M (t + 1) (6 * i + k) = tx (p + k)) → jT (jlet (i + 1) fun l4_4 => self l4_4) (fun r => r = if len ≤ 6 then fdN D tx base m p len else -1) := fun hne => by
      refine t_let ?_
      refine hself _ ⟨by omega, by omega, fun h6 => ?_⟩ (by omega)
      have h1 := hF h6
      rw [if_neg (hno h6 hne)] at h1
      exact h1
    refine t_if (fun c1 => ?_) (fun c1 => next (fun q => c1 q.1))
    have hlk : f_X2_isLike t i 2 p M = some (if mmS D tx (base + 6 * i) p len = 0 then 1 else 0) := by
      apply t_get
      unfold f_X2_isLike
      rw [pw_of (z := i) (by omega) (by omega), hl2, hl1, pw_of (z := M (t + 2) i) (by omega) (by omega)]
      refine t_lp1 (fun k => 0 ≤ k ∧ k ≤ len ∧ ∀ x, 0 ≤ x → x < k → M (t + 1) (6 * i + x) = tx (p + x)) (fun k => (len - k).toNat) ?_ jfuel 0 (by rw [jfuel_eq]; omega) ⟨by omega, by omega, fun x q0 q1 => by omega⟩
      rintro self2 k ⟨hk1, hk2, hk3⟩ hself2
      rw [pw_of (z := k) (by omega) (by omega)]
      refine t_ck (by omega) ?_
      refine t_if (fun c2 => ?_) (fun c2 => ?_)
      · refine t_some (if_pos ?_).symm
        rw [mmS_i]
        intro x q0 q1
        have a2 := (z3 x q0 q1).2
        by_cases cx : x < len
        · rw [if_pos cx, a2, if_pos (by omega)]
          exact hk3 x q0 (by omega)
        · rw [if_neg cx, a2, if_neg (by omega)]
      · have h97 := ht k hk1 (by omega)
        have hz := (z3 k hk1 (by omega)).1 (by omega)
        rw [pw_of (z := i * 6 + k) (by omega) (by omega), pw_of (z := p + k) (by omega) (by omega), show i * 6 + k = 6 * i + k from by omega, h97.1, pw_of (z := M (t + 1) (6 * i + k)) (by omega) (by omega), pw_of (z := tx (p + k)) (by omega) (by omega)]
        refine t_ck (by omega) ?_
        refine t_ck (show 0 ≤ p + k ∧ p + k < jln 2 from ⟨by omega, by rw [show jln 2 = 600 from by decide +kernel]; omega⟩) ?_
        refine t_if (fun c3 => ?_) (fun c3 => ?_)
        · refine t_let ?_
          refine hself2 _ ⟨by omega, by omega, fun x q0 q1 => ?_⟩ (by omega)
          by_cases cx : x = k
          · subst cx; exact c3
          · exact hk3 x q0 (by omega)
        · refine t_some (if_neg (hno (by omega) (fun q => c3 (q.2 k hk1 (by omega))))).symm
    refine t_Re hlk ?_
    by_cases cm : mmS D tx (base + 6 * i) p len = 0
    · rw [if_pos cm]
      refine t_neg (by decide) ?_
      refine t_some ?_
      have h6 : len ≤ 6 := by omega
      have h1 := hF h6
      rw [if_pos cm] at h1
      rw [if_pos h6]
      exact h1
    · rw [if_neg cm]
      refine t_pos (by decide) ?_
      refine next (fun q => cm ?_)
      rw [mmS_i]
      intro x q0 q1
      have a2 := (z3 x q0 q1).2
      by_cases cx : x < len
      · rw [if_pos cx, a2, if_pos (by omega)]
        exact q.2 x q0 cx
      · rw [if_neg cx, a2, if_neg (by omega)]
