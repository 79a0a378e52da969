/-! ===== the reference's scoring, method by method ===== -/
def q_row (g : Int → Int) (panel : Int) : Nat → List Int
  | 0 => []
  | n + 1 => if q_in panel (n : Int) = 0 then q_row g panel n else q_row g panel n ++ [g (n : Int)]
theorem q_row_len (g : Int → Int) (panel : Int) : ∀ n : Nat, ((q_row g panel n).length : Int) = sS (q_in panel) n := by
  intro n
  induction n with
  | zero => rfl
  | succ n ih =>
    unfold q_row sS
    rcases q_in_b panel n with h | h
    · rw [if_pos h, h, ih]; omega
    · rw [if_neg (by omega), h, List.length_append, Int.natCast_add, ih]; rfl
theorem q_row_le (g : Int → Int) (panel : Int) (n : Nat) : (q_row g panel n).length ≤ n := by
  have h1 := q_row_len g panel n
  have h2 := sS_b (f := q_in panel) (lo := 0) (hi := 1) (n := n) (fun i _ _ => by rcases q_in_b panel i with h | h <;> omega)
  omega
theorem q_row_mem {g : Int → Int} {panel x : Int} : ∀ {n : Nat}, x ∈ q_row g panel n → ∃ j : Int, 0 ≤ j ∧ j < n ∧ g j = x := by
  intro n
  induction n with
  | zero => intro h; cases h
  | succ n ih =>
    intro h
    unfold q_row at h
    split at h
    · obtain ⟨j, h1, h2, h3⟩ := ih h
      exact ⟨j, h1, by omega, h3⟩
    · rcases List.mem_append.mp h with h | h
      · obtain ⟨j, h1, h2, h3⟩ := ih h
        exact ⟨j, h1, by omega, h3⟩
      · exact ⟨n, by omega, by omega, (List.mem_singleton.mp h).symm⟩
theorem q_row_congr {g h : Int → Int} {panel : Int} : ∀ {n : Nat}, (∀ j : Int, 0 ≤ j → j < n → g j = h j) → q_row g panel n = q_row h panel n := by
  intro n
  induction n with
  | zero => intro _; rfl
  | succ n ih =>
    intro e
    unfold q_row
    rw [ih (fun j h0 h1 => e j h0 (by omega)), e n (by omega) (by omega)]
theorem trS_b {drop lo hi : Int} {l : List Int} (hd : 0 ≤ drop) (hl : 1 ≤ l.length) (h : ∀ x ∈ l, lo ≤ x ∧ x ≤ hi) : 100 * lo ≤ trS drop l ∧ trS drop l ≤ 100 * hi := by
  unfold trS
  simp only
  generalize hdd : (min drop (((l.length : Nat) : Int) - 1) / 2).toNat = d0
  generalize hd2 : (min drop ((((l.length : Nat) : Int) - 1) / 2)).toNat = d
  have hdl : 2 * d + 1 ≤ l.length := by omega
  obtain ⟨h1, h2⟩ := mid_le (d := d) (m := l.length - 2 * d) (l := l) (lo := lo) (hi := hi) h (by omega)
  generalize mid d (l.length - 2 * d) l = m at h1 h2
  generalize hw : ((l.length - 2 * d : Nat) : Int) = w at h1 h2
  have hw1 : 1 ≤ w := by omega
  constructor
  · apply Int.le_ediv_of_mul_le (by omega)
    rw [Int.mul_assoc]
    exact Int.mul_le_mul_of_nonneg_left h1 (by omega)
  · apply Int.ediv_le_of_le_mul (by omega)
    rw [Int.mul_assoc]
    exact Int.mul_le_mul_of_nonneg_left h2 (by omega)
theorem q_tr_b {drop lo hi : Int} {l : List Int} (hd : 0 ≤ drop) (hl : 1 ≤ l.length) (h : ∀ x ∈ l, lo ≤ x ∧ x ≤ hi) : 100 * lo ≤ q_tr drop l ∧ q_tr drop l ≤ 100 * hi := by
  unfold q_tr
  exact trS_b hd (by rw [List.length_mergeSort]; exact hl) (fun x hx => h x (List.mem_mergeSort.mp hx))
/-- the panel has a judge -/
def bJ (P T : Int → Int) : Prop := 1 ≤ sZ (q_in (P 15)) (T 2)
def q_mean (P T N : Int → Int) (s k : Int) : Int := q_tr (N 964) (q_row (q_grade P N s k) (P 15) (T 2).toNat)
def q_comp (P T N : Int → Int) (s c : Int) : Int := q_tr (N 964) (q_row (fun j => N (648 + 9 * (3 * s + c) + j)) (P 15) (T 2).toNat) * N (968 + c) / 100
def fr3 (M M' : jM) : Prop := ∀ a, a ≠ 173 → M' a = M a
set_option maxHeartbeats 1000000 in
theorem e_mean {M : jM} {s k : Int} (hP : bP (M 166)) (hT : bT (M 169)) (hN : bN (M 170)) (hJ : bJ (M 166) (M 169)) (hs : 0 ≤ s ∧ s < 6) (hk : 0 ≤ k ∧ k < 12) :
    jT (f_X10_meanOf s k M) (fun p => p.1 = q_mean (M 166) (M 169) (M 170) s k ∧ fr3 M p.2) := by
  unfold f_X10_meanOf
  have t2 := hT.2.2.1
  have p1 := hP.1
  refine t_lp3 (fun m j M3 => 0 ≤ j ∧ j ≤ M 169 2 ∧ m = ((q_row (q_grade (M 166) (M 170) s k) (M 166 15) j.toNat).length : Int) ∧ la (M3 173) 0 m.toNat = q_row (q_grade (M 166) (M 170) s k) (M 166 15) j.toNat ∧ fr3 M M3) (fun _ j _ => (M 169 2 - j).toNat) ?_ jfuel 0 0 M (by rw [jfuel_eq]; omega) ⟨by omega, by omega, rfl, rfl, fun _ _ => rfl⟩
  rintro self m j M3 ⟨hj1, hj2, hm, hla, hfr⟩ hself
  have e9 : M3 169 = M 169 := hfr 169 (by decide)
  have e6 : M3 166 = M 166 := hfr 166 (by decide)
  have e0 : M3 170 = M 170 := hfr 170 (by decide)
  have hle := q_row_le (q_grade (M 166) (M 170) s k) (M 166 15) j.toNat
  rw [e9, pw_of (z := 2) (by omega) (by omega), pw_of (z := M 169 2) (by omega) (by omega), pw_of (z := j) (by omega) (by omega)]
  refine t_ck (by omega) ?_
  refine t_if (fun hc => ?_) (fun hc => ?_)
  · have ej : j = M 169 2 := by omega
    subst ej
    have hge : 1 ≤ m := by
      rw [hm, q_row_len]
      exact hJ
    have hb3 : ∀ i, 0 ≤ i → i < m → -5 ≤ M3 173 i ∧ M3 173 i ≤ 10 := fun i h0 h1 => by
      have : M3 173 i ∈ la (M3 173) 0 m.toNat := la_mem.mpr ⟨i, by omega, by omega, rfl⟩
      rw [hla] at this
      obtain ⟨j, q1, q2, q3⟩ := q_row_mem this
      have := q_grade_b hP hN hs hk (j := j) (by omega)
      omega
    refine t_W (t_mono (e_trimmed (by rw [e0]; exact hN) (by omega) hb3) (fun p hp => ?_))
    refine t_some ⟨?_, fun a ha => ?_⟩
    · show p.1 = _
      rw [hp.1, e0, hla]
      rfl
    · show p.2 a = _
      rw [hp.2 a ha]
      exact hfr a ha
  · rw [e6]
    refine t_Re (e_isIn (by omega) (by omega)) ?_
    have e1 : (j + 1).toNat = j.toNat + 1 := by omega
    have e2 : ((j.toNat : Nat) : Int) = j := by omega
    rcases q_in_b (M 166 15) j with h | h
    · rw [h]
      refine t_pos (by decide) ?_
      refine t_let ?_
      refine hself _ _ _ ⟨by omega, by omega, ?_, ?_, hfr⟩ (by omega)
      · rw [e1]; unfold q_row; rw [e2, if_pos h]; exact hm
      · rw [e1]; unfold q_row; rw [e2, if_pos h]; exact hla
    · rw [h]
      refine t_neg (by decide) ?_
      refine t_Re (e_grade (by rw [e6]; exact hP) hs hk (by omega)) ?_
      rw [pw_of (z := m) (by omega) (by omega)]
      refine t_ck (by omega) ?_
      refine t_let ?_
      refine t_let ?_
      refine t_let ?_
      have em : (m + 1).toNat = m.toNat + 1 := by omega
      refine hself _ _ _ ⟨by omega, by omega, ?_, ?_, fun a ha => by rw [pst_f ha]; exact hfr a ha⟩ (by omega)
      · rw [e1]; unfold q_row; rw [e2, if_neg (by omega), List.length_append]; simp; exact hm
      · rw [e1]; unfold q_row; rw [e2, if_neg (by omega), em, la_snoc, e6, e0]
        have h0 : (0 : Int) + ((m.toNat : Nat) : Int) = m := by omega
        rw [h0, pst_s]
        congr 1
        rw [← hla]
        exact la_congr (fun i h0 h1 => pst_i (by omega))
theorem q_mean_b {P T N : Int → Int} {s k : Int} (hP : bP P) (hT : bT T) (hN : bN N) (hJ : bJ P T) (hs : 0 ≤ s ∧ s < 6) (hk : 0 ≤ k ∧ k < 12) : -500 ≤ q_mean P T N s k ∧ q_mean P T N s k ≤ 500 := by
  have t2 := hT.2.2.1
  have := q_tr_b (drop := N 964) (lo := -5) (hi := 5) (l := q_row (q_grade P N s k) (P 15) (T 2).toNat) hN.2.2.2.2.2.1.1 (by
    have := q_row_len (q_grade P N s k) (P 15) (T 2).toNat
    have h2 : 1 ≤ sS (q_in (P 15)) (T 2).toNat := hJ
    omega) (fun x hx => by
    obtain ⟨j, q1, q2, q3⟩ := q_row_mem hx
    have := q_grade_b hP hN hs hk (j := j) (by omega)
    omega)
  unfold q_mean
  omega
theorem mul_bnd {a b A B : Int} (h1 : 0 ≤ a) (h2 : a ≤ A) (h3 : 0 ≤ b) (h4 : b ≤ B) : 0 ≤ a * b ∧ a * b ≤ A * B :=
  ⟨Int.mul_nonneg h1 h3, Int.le_trans (Int.mul_le_mul_of_nonneg_right h2 h3) (Int.mul_le_mul_of_nonneg_left h4 (by omega))⟩
theorem mul_bnd2 {a b A B : Int} (h1 : 0 ≤ a) (h2 : a ≤ A) (h3 : -B ≤ b) (h4 : b ≤ B) : -(A * B) ≤ a * b ∧ a * b ≤ A * B := by
  have hB : 0 ≤ B := by omega
  have e1 : a * b ≤ a * B := Int.mul_le_mul_of_nonneg_left h4 h1
  have e2 : a * (-B) ≤ a * b := Int.mul_le_mul_of_nonneg_left h3 h1
  have e3 : a * B ≤ A * B := Int.mul_le_mul_of_nonneg_right h2 hB
  have e4 : a * (-B) = -(a * B) := Int.mul_neg a B
  omega
theorem q_comp0_b {P T N : Int → Int} {s c : Int} (hT : bT T) (hN : bN N) (hJ : bJ P T) (hs : 0 ≤ s ∧ s < 6) (hk : 0 ≤ c ∧ c < 3) : 0 ≤ q_tr (N 964) (q_row (fun j => N (648 + 9 * (3 * s + c) + j)) (P 15) (T 2).toNat) ∧ q_tr (N 964) (q_row (fun j => N (648 + 9 * (3 * s + c) + j)) (P 15) (T 2).toNat) ≤ 1000 := by
  have t2 := hT.2.2.1
  have := q_tr_b (drop := N 964) (lo := 0) (hi := 10) (l := q_row (fun j => N (648 + 9 * (3 * s + c) + j)) (P 15) (T 2).toNat) hN.2.2.2.2.2.1.1 (by
    have := q_row_len (fun j => N (648 + 9 * (3 * s + c) + j)) (P 15) (T 2).toNat
    have h2 : 1 ≤ sS (q_in (P 15)) (T 2).toNat := hJ
    omega) (fun x hx => by
    obtain ⟨j, q1, q2, q3⟩ := q_row_mem hx
    have := hN.2.1 (9 * (3 * s + c) + j) (by omega) (by omega)
    rw [show 648 + (9 * (3 * s + c) + j) = 648 + 9 * (3 * s + c) + j from by omega] at this
    omega)
  omega
theorem q_comp_b {P T N : Int → Int} {s c : Int} (hT : bT T) (hN : bN N) (hJ : bJ P T) (hs : 0 ≤ s ∧ s < 6) (hk : 0 ≤ c ∧ c < 3) : 0 ≤ q_comp P T N s c ∧ q_comp P T N s c ≤ 3000 := by
  have h1 := q_comp0_b (P := P) hT hN hJ hs hk
  have h2 := hN.2.2.2.2.2.2.2.2.2 c hk.1 hk.2
  have h3 := mul_bnd h1.1 h1.2 h2.1 h2.2
  unfold q_comp
  omega
set_option maxHeartbeats 1000000 in
theorem e_comp {M : jM} {s c : Int} (hP : bP (M 166)) (hT : bT (M 169)) (hN : bN (M 170)) (hJ : bJ (M 166) (M 169)) (hs : 0 ≤ s ∧ s < 6) (hk : 0 ≤ c ∧ c < 3) :
    jT (f_X10_componentOf s c M) (fun p => p.1 = q_comp (M 166) (M 169) (M 170) s c ∧ fr3 M p.2) := by
  unfold f_X10_componentOf
  have t2 := hT.2.2.1
  have p1 := hP.1
  refine t_lp3 (fun m j M3 => 0 ≤ j ∧ j ≤ M 169 2 ∧ m = ((q_row (fun j => M 170 (648 + 9 * (3 * s + c) + j)) (M 166 15) j.toNat).length : Int) ∧ la (M3 173) 0 m.toNat = q_row (fun j => M 170 (648 + 9 * (3 * s + c) + j)) (M 166 15) j.toNat ∧ fr3 M M3) (fun _ j _ => (M 169 2 - j).toNat) ?_ jfuel 0 0 M (by rw [jfuel_eq]; omega) ⟨by omega, by omega, rfl, rfl, fun _ _ => rfl⟩
  rintro self m j M3 ⟨hj1, hj2, hm, hla, hfr⟩ hself
  have e9 : M3 169 = M 169 := hfr 169 (by decide)
  have e6 : M3 166 = M 166 := hfr 166 (by decide)
  have e0 : M3 170 = M 170 := hfr 170 (by decide)
  have hle := q_row_le (fun j => M 170 (648 + 9 * (3 * s + c) + j)) (M 166 15) j.toNat
  rw [e9, pw_of (z := 2) (by omega) (by omega), pw_of (z := M 169 2) (by omega) (by omega), pw_of (z := j) (by omega) (by omega)]
  refine t_ck (by omega) ?_
  refine t_if (fun hc => ?_) (fun hc => ?_)
  · have ej : j = M 169 2 := by omega
    subst ej
    have hge : 1 ≤ m := by
      rw [hm, q_row_len]
      exact hJ
    have hb3 : ∀ i, 0 ≤ i → i < m → -5 ≤ M3 173 i ∧ M3 173 i ≤ 10 := fun i h0 h1 => by
      have : M3 173 i ∈ la (M3 173) 0 m.toNat := la_mem.mpr ⟨i, by omega, by omega, rfl⟩
      rw [hla] at this
      obtain ⟨j, q1, q2, q3⟩ := q_row_mem this
      have := hN.2.1 (9 * (3 * s + c) + j) (by omega) (by omega)
      rw [show 648 + (9 * (3 * s + c) + j) = 648 + 9 * (3 * s + c) + j from by omega] at this
      omega
    refine t_W (t_mono (e_trimmed (by rw [e0]; exact hN) (by omega) hb3) (fun p hp => ?_))
    have x0 : p.2 170 = M 170 := by rw [hp.2 170 (by decide)]; exact e0
    have x1 : p.1 = q_tr (M 170 964) (q_row (fun j => M 170 (648 + 9 * (3 * s + c) + j)) (M 166 15) (M 169 2).toNat) := by rw [hp.1, e0, hla]
    have h1 := q_comp0_b (P := M 166) hT hN hJ hs hk
    have h2 := hN.2.2.2.2.2.2.2.2.2 c hk.1 hk.2
    rw [← x1] at h1
    have h3 := mul_bnd h1.1 h1.2 h2.1 h2.2
    rw [x0, pw_of (z := 968 + c) (by omega) (by omega), pw_of (z := 100) (by omega) (by omega), pw_of (z := p.1 * M 170 (968 + c)) (by omega) (by omega), Int.tdiv_eq_ediv_of_nonneg h3.1]
    refine t_ck (by omega) ?_
    refine t_some ⟨?_, fun a ha => ?_⟩
    · unfold q_comp
      rw [← x1]
    · show p.2 a = _
      rw [hp.2 a ha]
      exact hfr a ha
  · rw [e6]
    refine t_Re (e_isIn (by omega) (by omega)) ?_
    have e1 : (j + 1).toNat = j.toNat + 1 := by omega
    have e2 : ((j.toNat : Nat) : Int) = j := by omega
    rcases q_in_b (M 166 15) j with h | h
    · rw [h]
      refine t_pos (by decide) ?_
      refine t_let ?_
      refine hself _ _ _ ⟨by omega, by omega, ?_, ?_, hfr⟩ (by omega)
      · rw [e1]; unfold q_row; rw [e2, if_pos h]; exact hm
      · rw [e1]; unfold q_row; rw [e2, if_pos h]; exact hla
    · rw [h]
      refine t_neg (by decide) ?_
      refine t_Re (v := 648 + 9 * (3 * s + c) + j) rfl ?_
      rw [pw_of (z := m) (by omega) (by omega), pw_of (z := 648 + 9 * (3 * s + c) + j) (by omega) (by omega)]
      refine t_ck (by omega) ?_
      refine t_ck (by omega) ?_
      refine t_let ?_
      refine t_let ?_
      refine t_let ?_
      have em : (m + 1).toNat = m.toNat + 1 := by omega
      refine hself _ _ _ ⟨by omega, by omega, ?_, ?_, fun a ha => by rw [pst_f ha]; exact hfr a ha⟩ (by omega)
      · rw [e1]; unfold q_row; rw [e2, if_neg (by omega), List.length_append]; simp; exact hm
      · rw [e1]; unfold q_row; rw [e2, if_neg (by omega), em, la_snoc, e0]
        have h0 : (0 : Int) + ((m.toNat : Nat) : Int) = m := by omega
        rw [h0, pst_s]
        congr 1
        rw [← hla]
        exact la_congr (fun i h0 h1 => pst_i (by omega))
