/-! ===== rules, totals, ranks of the reference ===== -/
theorem q_called_b {P T N : Int → Int} (hT : bT T) {s c : Int} (hs : 0 ≤ s ∧ s < 6) : 0 ≤ q_called P T N s c ∧ q_called P T N s c ≤ 12 := by
  have t1 := hT.2.2.2.2.2.2.1 s hs.1 hs.2
  have := sZ_b (f := fun k => if q_is P T N s k = 0 then 0 else q_in (q_calls P N s k) c) (lo := 0) (hi := 1) (z := T (116 + s)) t1.1 (fun k h0 h1 => by
    rcases q_in_b (q_calls P N s k) c with h | h <;> split <;> omega)
  unfold q_called
  omega
theorem q_tries_b {P T N : Int → Int} (hT : bT T) {s c : Int} (hs : 0 ≤ s ∧ s < 6) : 0 ≤ q_tries P T N s c ∧ q_tries P T N s c ≤ 12 := by
  have t1 := hT.2.2.2.2.2.2.1 s hs.1 hs.2
  have := sZ_b (f := fun k => if q_is P T N s k = 0 then 0 else if c = 0 then 1 else q_late P T N s k) (lo := 0) (hi := 1) (z := T (116 + s)) t1.1 (fun k h0 h1 => by
    rcases q_late_b P T N s k with h | h <;> split <;> (try split) <;> omega)
  unfold q_tries
  omega
theorem q_elsBy_b {P T N : Int → Int} (hT : bT T) {s c : Int} (hs : 0 ≤ s ∧ s < 6) : 0 ≤ q_elsBy P T N s c ∧ q_elsBy P T N s c ≤ 36 := by
  have t1 := hT.2.2.2.2.2.2.1 s hs.1 hs.2
  have := sZ_b (f := fun k => if q_is P T N s k = 0 then 0 else sZ (fun i => if c = 3 then q_struck P T N s k i else b2 (T (4 + q_el T s k i) = c)) (q_many T s k)) (lo := 0) (hi := 3) (z := T (116 + s)) t1.1 (fun k h0 h1 => by
    have hm := q_many_b hT hs (k := k) (by omega)
    have := sZ_b (f := fun i => if c = 3 then q_struck P T N s k i else b2 (T (4 + q_el T s k i) = c)) (lo := 0) (hi := 1) (z := q_many T s k) hm.1 (fun i _ _ => by
      have := b2_b (T (4 + q_el T s k i) = c)
      rcases q_struck_b P T N s k i with h | h <;> split <;> omega)
    split <;> omega)
  unfold q_elsBy
  omega
theorem q_word_b {P T N : Int → Int} (hT : bT T) {s : Int} (hs : 0 ≤ s ∧ s < 6) : ∀ w, 0 ≤ w → w < 10 → 0 ≤ q_word P T N s w ∧ q_word P T N s w ≤ 1000 := by
  intro w _ _
  have h1 := q_called_b (P := P) (N := N) hT (c := 2) hs
  have h2 := hT.2.2.2.2.2.1 s hs.1 hs.2
  have h3 := q_tries_b (P := P) (N := N) hT (c := 0) hs
  have h4 := q_tries_b (P := P) (N := N) hT (c := 1) hs
  have h5 := q_elsBy_b (P := P) (N := N) hT (c := w - 3) hs
  have h6 := q_elsBy_b (P := P) (N := N) hT (c := 3) hs
  have h7 := q_called_b (P := P) (N := N) hT (c := w - 8) hs
  unfold q_word
  repeat' split
  all_goals omega
theorem e_held {v : Int} (h : -9000000000000 ≤ v ∧ v ≤ 9000000000000) : f_X10_held v = some (clB v) := by
  unfold f_X10_held
  rw [e_minL (by omega) (by omega), eR, e_maxL (by omega) (by omega), eR]
  rfl
theorem mul_b6 {a b : Int} (ha : -1000000 ≤ a ∧ a ≤ 1000000) (hb : -1000000 ≤ b ∧ b ≤ 1000000) : -1000000000000 ≤ a * b ∧ a * b ≤ 1000000000000 := by
  by_cases h : 0 ≤ a
  · have := mul_bnd2 h ha.2 (B := 1000000) hb.1 hb.2
    omega
  · have := mul_bnd2 (a := -a) (A := 1000000) (by omega) (by omega) (B := 1000000) hb.1 hb.2
    rw [Int.neg_mul] at this
    omega
theorem e_worked {v a b : Int} (hv : 10001 ≤ v ∧ v ≤ 10009) (ha : -1000000 ≤ a ∧ a ≤ 1000000) (hb : -1000000 ≤ b ∧ b ≤ 1000000) : f_X10_worked v a b = some (rop v a b) := by
  have hm := mul_b6 ha hb
  unfold f_X10_worked rop
  rw [pw_of (z := v) (by omega) (by omega), pcmp_of (a := a) (b := b) (by omega) (by omega), pcmp_of (a := b) (b := 1) (by omega) (by omega)]
  by_cases h1 : v = 10001
  · rw [if_neg (by omega), if_pos h1, if_pos h1, e_held (by omega)]; rfl
  by_cases h2 : v = 10002
  · rw [if_neg (by omega), if_neg h1, if_pos h2, if_neg h1, if_pos h2, e_held (by omega)]; rfl
  by_cases h3 : v = 10003
  · rw [if_neg (by omega), if_neg h1, if_neg h2, if_pos h3, if_neg h1, if_neg h2, if_pos h3, e_held (by omega)]; rfl
  by_cases h4 : v = 10004
  · rw [if_neg (by omega), if_neg h1, if_neg h2, if_neg h3, if_pos h4, if_neg h1, if_neg h2, if_neg h3, if_pos h4]
    by_cases c : a < b
    · rw [if_pos c, b2_t c]; rfl
    · rw [if_neg c, b2_f c]
      by_cases c2 : a = b
      · rw [if_pos c2]; rfl
      · rw [if_neg c2]; rfl
  by_cases h5 : v = 10005
  · rw [if_neg (by omega), if_neg h1, if_neg h2, if_neg h3, if_neg h4, if_pos h5, if_neg h1, if_neg h2, if_neg h3, if_neg h4, if_pos h5]
    by_cases c : a < b
    · rw [if_pos c, b2_f (by omega)]; rfl
    · rw [if_neg c]
      by_cases c2 : a = b
      · rw [if_pos c2, b2_t c2]; rfl
      · rw [if_neg c2, b2_f c2]; rfl
  by_cases h6 : v = 10006
  · rw [if_neg (by omega), if_neg h1, if_neg h2, if_neg h3, if_neg h4, if_neg h5, if_pos h6, if_neg h1, if_neg h2, if_neg h3, if_neg h4, if_neg h5, if_pos h6]
    by_cases c : a < b
    · rw [if_pos c, b2_f (by omega)]; rfl
    · rw [if_neg c]
      by_cases c2 : a = b
      · rw [if_pos c2, b2_f (by omega)]; rfl
      · rw [if_neg c2, b2_t (by omega)]; rfl
  by_cases h7 : v = 10007
  · rw [if_neg (by omega), if_neg h1, if_neg h2, if_neg h3, if_neg h4, if_neg h5, if_neg h6, if_pos h7, if_neg h1, if_neg h2, if_neg h3, if_neg h4, if_neg h5, if_neg h6, if_pos h7]
  by_cases h8 : v = 10008
  · rw [if_neg (by omega), if_neg h1, if_neg h2, if_neg h3, if_neg h4, if_neg h5, if_neg h6, if_neg h7, if_neg h1, if_neg h2, if_neg h3, if_neg h4, if_neg h5, if_neg h6, if_neg h7, if_pos h8, e_maxL (by omega) (by omega)]; rfl
  · rw [if_pos (by omega), if_neg h1, if_neg h2, if_neg h3, if_neg h4, if_neg h5, if_neg h6, if_neg h7, if_neg h8]
    by_cases c : b < 1
    · rw [if_pos c, if_neg (show ¬ b = 1 by omega)]; rfl
    · rw [if_neg c]
      by_cases c2 : b = 1
      · rw [if_pos c2, if_pos c2]; rfl
      · rw [if_neg c2, if_neg c2]; rfl
theorem vty_nb {s : List Bool} {st : List Int} (h : vty s st) : ∀ x ∈ st, -1000000 ≤ x ∧ x ≤ 1000000 := by
  revert st
  induction s with
  | nil => intro st h x hx; cases st with
    | nil => cases hx
    | cons v t => cases h
  | cons a s ih => intro st h x hx; cases st with
    | nil => cases h
    | cons v t =>
      rcases List.mem_cons.mp hx with e | e
      · subst e
        have := h.1
        split at this <;> omega
      · exact ih h.2 x e
theorem la_top {f : Int → Int} {n : Nat} {r : List Int} {x : Int} (h : la f 0 (n + 1) = r ++ [x]) : la f 0 n = r ∧ f (n : Int) = x := by
  rw [la_snoc] at h
  obtain ⟨h1, h2⟩ := List.append_inj' h rfl
  refine ⟨h1, ?_⟩
  have h3 := List.cons.inj h2
  rw [← h3.1]
  congr 1
  omega
theorem tstep_two {v : Int} {s s1 : List Bool} (h : tstep v s = some s1) (hv : 10001 ≤ v ∧ v ≤ 10009) : ∃ b a t, s = b :: a :: t := by
  unfold tstep at h
  rw [if_neg (by omega)] at h
  match s, h with
  | b :: a :: t, h => exact ⟨b, a, t, rfl⟩
theorem vty_two {b a : Bool} {t : List Bool} {st : List Int} (h : vty (b :: a :: t) st) : ∃ y x q, st = y :: x :: q := by
  have := vty_len h
  match st, this with
  | y :: x :: q, _ => exact ⟨y, x, q, rfl⟩
def fr34 (M M' : jM) : Prop := ∀ a, a ≠ 173 → a ≠ 174 → M' a = M a
set_option maxHeartbeats 2000000 in
theorem e_rule {M : jM} {s r : Int} (hP : bP (M 166)) (hT : bT (M 169)) (hN : bN (M 170)) (hR : bR (M 169)) (hs : 0 ≤ s ∧ s < 6) (hr : 0 ≤ r ∧ r < M 169 3) : jT (f_X10_ruleOf s r M) (fun p => p.1 = q_rule (M 166) (M 169) (M 170) s r ∧ ∀ a, a ≠ 174 → p.2 a = M a) := by
  have t3 := hT.2.2.2.1
  obtain ⟨r1, r2, r3, r4⟩ := hR r hr.1 hr.2
  have hW := q_word_b (P := M 166) (N := M 170) hT hs
  unfold f_X10_ruleOf
  rw [pw_of (z := 482 + r) (by omega) (by omega)]
  refine t_ck (by omega) ?_
  refine t_let ?_
  generalize ha : M 169 (482 + r) = a at r1 r2 r4
  generalize hb : M 169 (482 + r + 1) = b at r2 r3 r4
  refine t_lp3 (fun top k M5 => ∃ (ty : List Bool) (st : List Int), a ≤ k ∧ k ≤ b ∧ top = (st.length : Int) ∧ la (M5 174) 0 st.length = st.reverse ∧ okc 16 (la (M 169) (489 + k) (b - k).toNat) ty [true] ∧ ty.length ≤ 16 ∧ vty ty st ∧ ev (q_word (M 166) (M 169) (M 170) s) (la (M 169) (489 + k) (b - k).toNat) st = ev (q_word (M 166) (M 169) (M 170) s) (la (M 169) (489 + a) (b - a).toNat) [] ∧ ∀ c, c ≠ 174 → M5 c = M c) (fun _ k _ => (b - k).toNat) ?_ jfuel 0 a M (by rw [jfuel_eq]; omega) ⟨[], [], by omega, by omega, rfl, rfl, r4, by decide, trivial, rfl, fun _ _ => rfl⟩
  rintro self top k M5 ⟨ty, st, hk1, hk2, htop, hla, hok, htl, hvt, hev, hfr⟩ hself
  have e9 : M5 169 = M 169 := hfr 169 (by decide)
  have e6 : M5 166 = M 166 := hfr 166 (by decide)
  have e0 : M5 170 = M 170 := hfr 170 (by decide)
  have hlen := vty_len hvt
  rw [e9, pw_of (z := 482 + r + 1) (by omega) (by omega), hb, pw_of (z := b) (by omega) (by omega), pw_of (z := k) (by omega) (by omega)]
  refine t_ck (by omega) ?_
  refine t_if (fun hc => ?_) (fun hc => ?_)
  · have ek : (b - k).toNat = 0 := by omega
    rw [ek] at hok hev
    have hty : ty = [true] := hok
    subst hty
    match st, hvt, hlen, hla, hev with
    | [x], hvt, hlen, hla, hev =>
      have hx := hvt.1
      rw [if_pos rfl] at hx
      have h174 : M5 174 0 = x := (List.cons.inj hla).1
      rw [pw_of (z := 0) (by omega) (by omega), h174]
      refine t_ck (by omega) ?_
      refine t_Re (e_minL (by omega) (by omega)) ?_
      refine t_Re (e_maxL (by omega) (by omega)) ?_
      refine t_some ⟨?_, hfr⟩
      unfold q_rule
      rw [hb, ha, ← hev]
      rfl
  · have ek : (b - k).toNat = (b - (k + 1)).toNat + 1 := by omega
    rw [ek] at hok hev
    have hla1 : la (M 169) (489 + k) ((b - (k + 1)).toNat + 1) = M 169 (489 + k) :: la (M 169) (489 + (k + 1)) (b - (k + 1)).toNat := by
      rw [show 489 + (k + 1) = 489 + k + 1 from by omega]; rfl
    rw [hla1] at hok hev
    obtain ⟨ty1, o1, o2, o3⟩ := hok
    have hvt1 := vty_step hW o1 hvt
    have hlen1 := vty_len hvt1
    rw [pw_of (z := 489 + k) (by omega) (by omega)]
    refine t_ck (by omega) ?_
    refine t_let ?_
    generalize hv : M 169 (489 + k) = v at o1 hev hvt1 hlen1 ⊢
    have hev1 : ev (q_word (M 166) (M 169) (M 170) s) (la (M 169) (489 + (k + 1)) (b - (k + 1)).toNat) (rst (q_word (M 166) (M 169) (M 170) s) v st) = ev (q_word (M 166) (M 169) (M 170) s) (la (M 169) (489 + a) (b - a).toNat) [] := hev
    have push : ∀ z : Int, rst (q_word (M 166) (M 169) (M 170) s) v st = z :: st → jT (
          jck (0 ≤ jw top ∧ jw top < 600) <|
          jlet (jst M5 174 (jw top) z) fun M19 =>
          jlet (top + 1) fun l3_20 =>
          jlet (k + 1) fun l4_21 =>
          self l3_20 l4_21 M19) (fun p => p.1 = q_rule (M 166) (M 169) (M 170) s r ∧ ∀ a, a ≠ 174 → p.2 a = M a) := by
      intro z hz
      rw [hz] at hvt1 hlen1 hev1
      rw [List.length_cons] at hlen1
      rw [pw_of (z := top) (by omega) (by omega)]
      refine t_ck (by omega) ?_
      refine t_let ?_
      refine t_let ?_
      refine t_let ?_
      refine hself _ _ _ ⟨ty1, z :: st, by omega, by omega, by rw [List.length_cons]; omega, ?_, o3, o2, hvt1, hev1, fun c hc => by rw [pst_f hc]; exact hfr c hc⟩ (by omega)
      rw [List.length_cons, la_snoc, List.reverse_cons, show (0 : Int) + ((st.length : Nat) : Int) = top from by omega, pst_s, ← hla]
      congr 1
      exact la_congr (fun i h0 h1 => pst_i (by omega))
    have hvr : (0 ≤ v ∧ v ≤ 9999) ∨ (10020 ≤ v ∧ v ≤ 10029) ∨ (10001 ≤ v ∧ v ≤ 10009) := by
      unfold tstep at o1
      split at o1
      · omega
      · split at o1
        · repeat' split at o1
          all_goals first | omega | (cases o1)
        · cases o1
    refine t_k ?_
    rw [pw_of (z := v) (by omega) (by omega), pw_of (z := 9999) (by omega) (by omega), pw_of (z := 10020) (by omega) (by omega)]
    refine t_if (fun c1 => ?_) (fun c1 => ?_)
    · refine t_k ?_
      refine t_pos (by omega) ?_
      exact push v (by unfold rst; rw [if_pos c1])
    · refine t_if (fun c2 => ?_) (fun c2 => ?_)
      · refine t_let ?_
        obtain ⟨b1, a1, t1, rfl⟩ := tstep_two o1 (by omega)
        obtain ⟨y, x, q, rfl⟩ := vty_two hvt
        have hx := vty_nb hvt x (by simp)
        have hy := vty_nb hvt y (by simp)
        have hrst : rst (q_word (M 166) (M 169) (M 170) s) v (y :: x :: q) = rop v x y :: q := by unfold rst; rw [if_neg (by omega), if_neg (by omega)]
        rw [hrst] at hvt1 hlen1 hev1
        rw [List.length_cons, List.length_cons] at htop hlen
        have hla' : la (M5 174) 0 (q.length + 1 + 1) = (q.reverse ++ [x]) ++ [y] := by
          have := hla
          rw [List.reverse_cons, List.reverse_cons] at this
          exact this
        obtain ⟨l1, l2⟩ := la_top hla'
        obtain ⟨l3, l4⟩ := la_top l1
        have hq14 : q.length + 2 ≤ 16 := by
          simp only [List.length_cons] at htl hlen
          omega
        rw [pw_of (z := top + -1 - 1) (by omega) (by omega), pw_of (z := top + -1) (by omega) (by omega)]
        refine t_ck (by omega) ?_
        refine t_ck (by omega) ?_
        rw [show top + -1 - 1 = (q.length : Int) from by omega, show top + -1 = ((q.length + 1 : Nat) : Int) from by omega, l2, l4]
        refine t_Re (e_worked (by omega) hx hy) ?_
        refine t_ck (by omega) ?_
        refine t_let ?_
        refine t_let ?_
        refine hself _ _ _ ⟨ty1, rop v x y :: q, by omega, by omega, by rw [List.length_cons], ?_, o3, o2, hvt1, hev1, fun c hc => by rw [pst_f hc]; exact hfr c hc⟩ (by omega)
        rw [List.length_cons, la_snoc, List.reverse_cons, show (0 : Int) + ((q.length : Nat) : Int) = (q.length : Int) from by omega, pst_s, ← l3]
        congr 1
        exact la_congr (fun i h0 h1 => pst_i (by omega))
      · refine t_k ?_
        refine t_neg (by omega) ?_
        refine t_Re (e_word (by rw [e6]; exact hP) (by rw [e9]; exact hT) (by rw [e0]; exact hN) hs (by omega)) ?_
        have hw := hW (v - 10020) (by omega) (by omega)
        rw [e6, e9, e0, pw_of (z := q_word (M 166) (M 169) (M 170) s (v - 10020)) (by omega) (by omega)]
        exact push _ (by unfold rst; rw [if_neg (by omega), if_pos (by omega)])
def q_ded (P T N : Int → Int) (s : Int) : Int := sZ (q_rule P T N s) (T 3)
def q_total (P T N : Int → Int) (s : Int) : Int := max 0 (q_points P T N s + q_shown P T N s - 100 * q_called P T N s 2 - q_ded P T N s)
theorem q_rule_b (P T N : Int → Int) (s r : Int) : 0 ≤ q_rule P T N s r ∧ q_rule P T N s r ≤ 9999 := by
  unfold q_rule
  omega
theorem q_ded_b {P T N : Int → Int} (hT : bT T) (s : Int) : 0 ≤ q_ded P T N s ∧ q_ded P T N s ≤ 60000 := by
  have t3 := hT.2.2.2.1
  have := sZ_b (f := q_rule P T N s) (lo := 0) (hi := 9999) (z := T 3) t3.1 (fun r _ _ => q_rule_b P T N s r)
  unfold q_ded
  omega
theorem q_total_b {P T N : Int → Int} (hP : bP P) (hT : bT T) (hN : bN N) (hJ : bJ P T) {s : Int} (hs : 0 ≤ s ∧ s < 6) : 0 ≤ q_total P T N s ∧ q_total P T N s ≤ 129000 := by
  have h1 := q_points_b hP hT hN hJ hs
  have h2 := q_shown_b hT hN hJ hs
  have h3 := q_called_b (P := P) (N := N) hT (c := 2) hs
  have h4 := q_ded_b (P := P) (N := N) hT s
  unfold q_total
  omega
theorem e_ded {M : jM} {s : Int} (hP : bP (M 166)) (hT : bT (M 169)) (hN : bN (M 170)) (hR : bR (M 169)) (hs : 0 ≤ s ∧ s < 6) : jT (f_X10_deductedOf s M) (fun p => p.1 = q_ded (M 166) (M 169) (M 170) s ∧ ∀ a, a ≠ 174 → p.2 a = M a) := by
  unfold f_X10_deductedOf
  have t3 := hT.2.2.2.1
  refine t_lp3 (fun n k M3 => 0 ≤ k ∧ k ≤ M 169 3 ∧ n = sZ (q_rule (M 166) (M 169) (M 170) s) k ∧ ∀ a, a ≠ 174 → M3 a = M a) (fun _ k _ => (M 169 3 - k).toNat) ?_ jfuel 0 0 M (by rw [jfuel_eq]; omega) ⟨by omega, by omega, rfl, fun _ _ => rfl⟩
  rintro self n k M3 ⟨hk1, hk2, hn, hfr⟩ hself
  have e9 : M3 169 = M 169 := hfr 169 (by decide)
  have e6 : M3 166 = M 166 := hfr 166 (by decide)
  have e0 : M3 170 = M 170 := hfr 170 (by decide)
  rw [e9, pw_of (z := 3) (by omega) (by omega), pw_of (z := M 169 3) (by omega) (by omega), pw_of (z := k) (by omega) (by omega)]
  refine t_ck (by omega) ?_
  refine t_if (fun hc => ?_) (fun hc => ?_)
  · refine t_some ⟨?_, hfr⟩
    show n = _
    rw [hn, show k = M 169 3 from by omega]
    rfl
  · refine t_W (t_mono (e_rule (by rw [e6]; exact hP) (by rw [e9]; exact hT) (by rw [e0]; exact hN) (by rw [e9]; exact hR) hs (by rw [e9]; omega)) (fun p hp => ?_))
    refine t_let ?_
    refine t_let ?_
    refine hself _ _ _ ⟨by omega, by omega, ?_, fun a ha => by rw [hp.2 a ha]; exact hfr a ha⟩ (by omega)
    rw [sZ_s hk1, ← hn, hp.1, e6, e9, e0]
theorem e_total {M : jM} {s : Int} (hP : bP (M 166)) (hT : bT (M 169)) (hN : bN (M 170)) (hJ : bJ (M 166) (M 169)) (hR : bR (M 169)) (hs : 0 ≤ s ∧ s < 6) : jT (f_X10_totalOf s M) (fun p => p.1 = q_total (M 166) (M 169) (M 170) s ∧ fr34 M p.2) := by
  unfold f_X10_totalOf
  refine t_W (t_mono (e_points hP hT hN hJ hs) (fun p hp => ?_))
  have e9 : p.2 169 = M 169 := hp.2 169 (by decide)
  have e6 : p.2 166 = M 166 := hp.2 166 (by decide)
  have e0 : p.2 170 = M 170 := hp.2 170 (by decide)
  refine t_W (t_mono (e_shown (by rw [e6]; exact hP) (by rw [e9]; exact hT) (by rw [e0]; exact hN) (by rw [e6, e9]; exact hJ) hs) (fun p2 hp2 => ?_))
  have f9 : p2.2 169 = M 169 := by rw [hp2.2 169 (by decide)]; exact e9
  have f6 : p2.2 166 = M 166 := by rw [hp2.2 166 (by decide)]; exact e6
  have f0 : p2.2 170 = M 170 := by rw [hp2.2 170 (by decide)]; exact e0
  refine t_Re (e_called (by rw [f6]; exact hP) (by rw [f9]; exact hT) (by rw [f0]; exact hN) hs (by omega)) ?_
  refine t_W (t_mono (e_ded (by rw [f6]; exact hP) (by rw [f9]; exact hT) (by rw [f0]; exact hN) (by rw [f9]; exact hR) hs) (fun p3 hp3 => ?_))
  have h1 := q_points_b hP hT hN hJ hs
  have h2 := q_shown_b hT hN hJ hs
  have h3 := q_called_b (P := M 166) (N := M 170) hT (c := 2) hs
  have h4 := q_ded_b (P := M 166) (N := M 170) hT s
  rw [f6, f9, f0]
  have x1 := hp.1
  have x2 := hp2.1
  have x3 := hp3.1
  rw [e6, e9, e0] at x2
  rw [f6, f9, f0] at x3
  rw [x1, x2, x3]
  refine t_Re (e_max (by omega) (by omega)) ?_
  refine t_some ⟨rfl, fun a h1 h2 => ?_⟩
  show p3.2 a = _
  rw [hp3.2 a h2, hp2.2 a h1, hp.2 a h1]
