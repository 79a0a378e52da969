/-! ===== totals laid, who is ahead, ranks (reference) ===== -/
def q_ahead (tot pts : Int → Int) (a b : Int) : Int := b2 (tot b < tot a ∨ tot a = tot b ∧ (pts b < pts a ∨ pts a = pts b ∧ a < b))
theorem q_ahead_b (tot pts : Int → Int) (a b : Int) : q_ahead tot pts a b = 0 ∨ q_ahead tot pts a b = 1 := b2_01 _
def q_rank (tot pts : Int → Int) (n s : Int) : Int := sZ (fun o => if o = s then 0 else q_ahead tot pts o s) n
def q_first (p : Int → Int) : Nat → Int → Int
  | 0, _ => -1
  | m + 1, i => if p i = 0 then q_first p m (i + 1) else i
theorem q_first_congr {p q : Int → Int} : ∀ {m : Nat} {i : Int}, (∀ j, i ≤ j → j < i + m → (p j = 0 ↔ q j = 0)) → q_first p m i = q_first q m i := by
  intro m
  induction m with
  | zero => intro i _; rfl
  | succ m ih =>
    intro i h
    unfold q_first
    rw [ih (fun j h0 h1 => h j (by omega) (by omega))]
    have := h i (by omega) (by omega)
    by_cases c : p i = 0
    · rw [if_pos c, if_pos (this.mp c)]
    · rw [if_neg c, if_neg (fun x => c (this.mpr x))]
theorem q_first_b {p : Int → Int} : ∀ {m : Nat} {i : Int}, 0 ≤ i → -1 ≤ q_first p m i ∧ q_first p m i < i + m := by
  intro m
  induction m with
  | zero => intro i h; unfold q_first; omega
  | succ m ih =>
    intro i h
    unfold q_first
    have := ih (i := i + 1) (by omega)
    split <;> omega
theorem q_rank_b {tot pts : Int → Int} {n s : Int} (hn : 0 ≤ n) : 0 ≤ q_rank tot pts n s ∧ q_rank tot pts n s ≤ n := by
  have := sZ_b (f := fun o => if o = s then 0 else q_ahead tot pts o s) (lo := 0) (hi := 1) (z := n) hn (fun o _ _ => by
    rcases q_ahead_b tot pts o s with h | h <;> split <;> omega)
  unfold q_rank
  omega
theorem q_rank_congr {tot pts tot2 pts2 : Int → Int} {n s : Int} (hs : 0 ≤ s ∧ s < n) (h1 : ∀ i, 0 ≤ i → i < n → tot i = tot2 i) (h2 : ∀ i, 0 ≤ i → i < n → pts i = pts2 i) : q_rank tot pts n s = q_rank tot2 pts2 n s := by
  unfold q_rank
  refine sZ_congr (fun o h3 h4 => ?_)
  unfold q_ahead
  rw [h1 o h3 h4, h1 s hs.1 hs.2, h2 o h3 h4, h2 s hs.1 hs.2]
/-- totals and points lie in bounds of 32 bits -/
def bX (M : jM) : Prop := (∀ i, 0 ≤ i → i < M 169 1 → -2147483648 ≤ M 175 i ∧ M 175 i ≤ 2147483647) ∧ (∀ i, 0 ≤ i → i < M 169 1 → -2147483648 ≤ M 176 i ∧ M 176 i ≤ 2147483647)
theorem e_ahead {M : jM} {a b : Int} (hT : bT (M 169)) (hX : bX M) (ha : 0 ≤ a ∧ a < M 169 1) (hb : 0 ≤ b ∧ b < M 169 1) : f_X10_isAhead a b M = some (q_ahead (M 175) (M 176) a b) := by
  unfold f_X10_isAhead q_ahead
  have t1 := hT.2.1
  have x1 := hX.1 a ha.1 ha.2
  have x2 := hX.1 b hb.1 hb.2
  have x3 := hX.2 a ha.1 ha.2
  have x4 := hX.2 b hb.1 hb.2
  rw [pw_of (z := a) (by omega) (by omega), pw_of (z := b) (by omega) (by omega), pw_of x1.1 x1.2, pw_of x2.1 x2.2, pw_of x3.1 x3.2, pw_of x4.1 x4.2]
  repeat rw [eC (by omega)]
  by_cases c1 : M 175 a = M 175 b
  · rw [if_pos c1]
    by_cases c2 : M 176 a = M 176 b
    · rw [if_pos c2]
      by_cases c3 : b ≤ a
      · rw [if_pos c3, b2_f (by omega)]
      · rw [if_neg c3, b2_t (by omega)]
    · rw [if_neg c2]
      by_cases c3 : M 176 a ≤ M 176 b
      · rw [if_pos c3, b2_f (by omega)]
      · rw [if_neg c3, b2_t (by omega)]
  · rw [if_neg c1]
    by_cases c3 : M 175 a ≤ M 175 b
    · rw [if_pos c3, b2_f (by omega)]
    · rw [if_neg c3, b2_t (by omega)]
theorem e_rank {M : jM} {s : Int} (hT : bT (M 169)) (hX : bX M) (hs : 0 ≤ s ∧ s < M 169 1) : f_X10_rankOf s M = some (q_rank (M 175) (M 176) (M 169 1) s) := by
  apply t_get
  unfold f_X10_rankOf
  have t1 := hT.2.1
  refine t_lp2 (fun n k => 0 ≤ k ∧ k ≤ M 169 1 ∧ n = sZ (fun o => if o = s then 0 else q_ahead (M 175) (M 176) o s) k) (fun _ k => (M 169 1 - k).toNat) ?_ jfuel 0 0 (by rw [jfuel_eq]; omega) ⟨by omega, by omega, rfl⟩
  rintro self n k ⟨hk1, hk2, hn⟩ hself
  rw [pw_of (z := 1) (by omega) (by omega), pw_of (z := M 169 1) (by omega) (by omega), pw_of (z := k) (by omega) (by omega), pw_of (z := s) (by omega) (by omega)]
  refine t_ck (by omega) ?_
  refine t_if (fun hc => ?_) (fun hc => ?_)
  · refine t_some ?_
    show n = _
    rw [hn, show k = M 169 1 from by omega]
    rfl
  · have hsz := sZ_s (f := fun o => if o = s then 0 else q_ahead (M 175) (M 176) o s) hk1
    refine t_k ?_
    refine t_k ?_
    refine t_if (fun c1 => ?_) (fun c1 => ?_)
    · refine t_let ?_
      refine t_let ?_
      refine hself _ _ ⟨by omega, by omega, ?_⟩ (by omega)
      rw [hsz, if_pos c1, hn]
    · refine t_Re (e_ahead hT hX (by omega) hs) ?_
      rcases q_ahead_b (M 175) (M 176) k s with h | h
      · rw [h]
        refine t_pos (by decide) ?_
        refine t_let ?_
        refine t_let ?_
        refine hself _ _ ⟨by omega, by omega, ?_⟩ (by omega)
        rw [hsz, if_neg c1, hn, h]
      · rw [h]
        refine t_neg (by decide) ?_
        refine t_let ?_
        refine t_let ?_
        refine hself _ _ ⟨by omega, by omega, ?_⟩ (by omega)
        rw [hsz, if_neg c1, hn, h]
def q_at (tot pts : Int → Int) (n k : Int) : Int := q_first (fun s => b2 (q_rank tot pts n s = k)) n.toNat 0
theorem e_rankedAt {M : jM} {r : Int} (hT : bT (M 169)) (hX : bX M) (hr : -2147483648 ≤ r ∧ r ≤ 2147483647) : f_X10_rankedAt r M = some (q_at (M 175) (M 176) (M 169 1) r) := by
  apply t_get
  unfold f_X10_rankedAt
  have t1 := hT.2.1
  refine t_lp1 (fun k => 0 ≤ k ∧ k ≤ M 169 1 ∧ q_first (fun s => b2 (q_rank (M 175) (M 176) (M 169 1) s = r)) (M 169 1 - k).toNat k = q_at (M 175) (M 176) (M 169 1) r) (fun k => (M 169 1 - k).toNat) ?_ jfuel 0 (by rw [jfuel_eq]; omega) ⟨by omega, by omega, by rw [Int.sub_zero]; rfl⟩
  rintro self k ⟨hk1, hk2, hn⟩ hself
  rw [pw_of (z := 1) (by omega) (by omega), pw_of (z := M 169 1) (by omega) (by omega), pw_of (z := k) (by omega) (by omega), pw_of (z := r) (by omega) (by omega)]
  refine t_ck (by omega) ?_
  refine t_if (fun hc => ?_) (fun hc => ?_)
  · refine t_some ?_
    rw [show (M 169 1 - k).toNat = 0 from by omega] at hn
    exact hn
  · refine t_Re (e_rank hT hX (by omega)) ?_
    have hrb := q_rank_b (tot := M 175) (pts := M 176) (n := M 169 1) (s := k) (by omega)
    rw [pw_of (z := q_rank (M 175) (M 176) (M 169 1) k) (by omega) (by omega)]
    rw [show (M 169 1 - k).toNat = (M 169 1 - (k + 1)).toNat + 1 from by omega] at hn
    unfold q_first at hn
    refine t_if (fun c1 => ?_) (fun c1 => ?_)
    · rw [b2_t c1, if_neg (by decide)] at hn
      exact t_some hn
    · rw [b2_f c1, if_pos rfl] at hn
      refine t_let ?_
      exact hself _ ⟨by omega, by omega, hn⟩ (by omega)
def frI (lo hi : Int) (M M' : jM) : Prop := ∀ a, a < lo ∨ hi < a → M' a = M a
theorem e_lays {M : jM} (hP : bP (M 166)) (hT : bT (M 169)) (hN : bN (M 170)) (hJ : bJ (M 166) (M 169)) (hR : bR (M 169)) : jT (f_X10_laysTotals M) (fun M' => frI 173 176 M M' ∧ (∀ i, 0 ≤ i → i < M 169 1 → M' 175 i = q_total (M 166) (M 169) (M 170) i) ∧ ∀ i, 0 ≤ i → i < M 169 1 → M' 176 i = q_points (M 166) (M 169) (M 170) i) := by
  unfold f_X10_laysTotals
  have t1 := hT.2.1
  refine t_lp2 (fun k M2 => 0 ≤ k ∧ k ≤ M 169 1 ∧ frI 173 176 M M2 ∧ (∀ i, 0 ≤ i → i < k → M2 175 i = q_total (M 166) (M 169) (M 170) i) ∧ ∀ i, 0 ≤ i → i < k → M2 176 i = q_points (M 166) (M 169) (M 170) i) (fun k _ => (M 169 1 - k).toNat) ?_ jfuel 0 M (by rw [jfuel_eq]; omega) ⟨by omega, by omega, fun _ _ => rfl, fun i h0 h1 => by omega, fun i h0 h1 => by omega⟩
  rintro self k M2 ⟨hk1, hk2, hfr, ht, hp⟩ hself
  have e9 : M2 169 = M 169 := hfr 169 (by decide)
  have e6 : M2 166 = M 166 := hfr 166 (by decide)
  have e0 : M2 170 = M 170 := hfr 170 (by decide)
  rw [e9, pw_of (z := 1) (by omega) (by omega), pw_of (z := M 169 1) (by omega) (by omega), pw_of (z := k) (by omega) (by omega)]
  refine t_ck (by omega) ?_
  refine t_if (fun hc => ?_) (fun hc => ?_)
  · have : k = M 169 1 := by omega
    subst this
    exact t_some ⟨hfr, ht, hp⟩
  · refine t_W (t_mono (e_total (by rw [e6]; exact hP) (by rw [e9]; exact hT) (by rw [e0]; exact hN) (by rw [e6, e9]; exact hJ) (by rw [e9]; exact hR) (by omega)) (fun p hp1 => ?_))
    refine t_ck (by omega) ?_
    refine t_let ?_
    have f9 : jst p.2 175 k p.1 169 = M 169 := by rw [pst_f (by decide), hp1.2 169 (by decide) (by decide)]; exact e9
    have f6 : jst p.2 175 k p.1 166 = M 166 := by rw [pst_f (by decide), hp1.2 166 (by decide) (by decide)]; exact e6
    have f0 : jst p.2 175 k p.1 170 = M 170 := by rw [pst_f (by decide), hp1.2 170 (by decide) (by decide)]; exact e0
    refine t_W (t_mono (e_points (by rw [f6]; exact hP) (by rw [f9]; exact hT) (by rw [f0]; exact hN) (by rw [f6, f9]; exact hJ) (by omega)) (fun q hq => ?_))
    refine t_ck (by omega) ?_
    refine t_let ?_
    refine t_let ?_
    refine hself _ _ ⟨by omega, by omega, fun a ha => ?_, fun i h0 h1 => ?_, fun i h0 h1 => ?_⟩ (by omega)
    · rw [pst_f (by omega), hq.2 a (by omega), pst_f (by omega), hp1.2 a (by omega) (by omega)]
      exact hfr a ha
    · rw [pst_f (show (175 : Int) ≠ 176 by decide), hq.2 175 (by decide)]
      by_cases c : i = k
      · subst c
        rw [pst_s, hp1.1, e6, e9, e0]
      · rw [pst_i c, hp1.2 175 (by decide) (by decide)]
        exact ht i h0 (by omega)
    · by_cases c : i = k
      · subst c
        rw [pst_s, hq.1, f6, f9, f0]
      · rw [pst_i c, hq.2 176 (by decide), pst_f (by decide), hp1.2 176 (by decide) (by decide)]
        exact hp i h0 (by omega)
