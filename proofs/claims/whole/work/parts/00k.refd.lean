/-! ===== worth, gain, points, shown, called, words of the reference ===== -/
def q_bases (P T N : Int → Int) (s k : Int) : Int := sZ (fun i => if q_struck P T N s k i = 0 then N (954 + q_el T s k i) else 0) (q_many T s k)
def q_plain (P T N : Int → Int) (s k : Int) : Int :=
  let v := if q_in (q_calls P N s k) 0 = 0 then q_bases P T N s k else q_bases P T N s k * 8 / 10
  if q_in (q_calls P N s k) 1 = 0 then v else v * 7 / 10
def q_worth (P T N : Int → Int) (s k : Int) : Int := if q_late P T N s k = 0 then q_plain P T N s k else q_plain P T N s k + q_plain P T N s k * N 966 / 100
def q_mx (P T N : Int → Int) (s k : Int) : Nat → Int
  | 0 => 0
  | n + 1 => if q_struck P T N s k (n : Int) = 0 then max (q_mx P T N s k n) (N (954 + q_el T s k (n : Int))) else q_mx P T N s k n
def q_best (P T N : Int → Int) (s k : Int) : Int := q_mx P T N s k (q_many T s k).toNat
def q_gain (P T N : Int → Int) (s k : Int) : Int := q_best P T N s k * q_mean P T N s k / 1000
theorem q_bases_t {P T N : Int → Int} (hT : bT T) (hN : bN N) {s k i : Int} (hs : 0 ≤ s ∧ s < 6) (hk : 0 ≤ k ∧ k < 12) (hi : 0 ≤ i ∧ i < 3) : 0 ≤ (if q_struck P T N s k i = 0 then N (954 + q_el T s k i) else 0) ∧ (if q_struck P T N s k i = 0 then N (954 + q_el T s k i) else 0) ≤ 2000 := by
  have h1 := q_el_b hT hs hk hi
  have h2 := hN.2.2.2.2.1 (q_el T s k i) (by omega) (by omega)
  split <;> omega
theorem q_bases_z {P T N : Int → Int} (hT : bT T) (hN : bN N) {s k i : Int} (hs : 0 ≤ s ∧ s < 6) (hk : 0 ≤ k ∧ k < 12) (hi : 0 ≤ i ∧ i ≤ 3) : 0 ≤ sZ (fun i => if q_struck P T N s k i = 0 then N (954 + q_el T s k i) else 0) i ∧ sZ (fun i => if q_struck P T N s k i = 0 then N (954 + q_el T s k i) else 0) i ≤ 6000 := by
  have := sZ_b (f := fun i => if q_struck P T N s k i = 0 then N (954 + q_el T s k i) else 0) (lo := 0) (hi := 2000) (z := i) hi.1 (fun j h0 h1 => q_bases_t hT hN hs hk (by omega))
  omega
theorem q_bases_b {P T N : Int → Int} (hT : bT T) (hN : bN N) {s k : Int} (hs : 0 ≤ s ∧ s < 6) (hk : 0 ≤ k ∧ k < 12) : 0 ≤ q_bases P T N s k ∧ q_bases P T N s k ≤ 6000 :=
  q_bases_z hT hN hs hk (q_many_b hT hs hk)
theorem q_plain_b {P T N : Int → Int} (hT : bT T) (hN : bN N) {s k : Int} (hs : 0 ≤ s ∧ s < 6) (hk : 0 ≤ k ∧ k < 12) : 0 ≤ q_plain P T N s k ∧ q_plain P T N s k ≤ 6000 := by
  have h := q_bases_b (P := P) hT hN hs hk
  unfold q_plain
  dsimp only
  split <;> split <;> omega
theorem q_worth_b {P T N : Int → Int} (hT : bT T) (hN : bN N) {s k : Int} (hs : 0 ≤ s ∧ s < 6) (hk : 0 ≤ k ∧ k < 12) : 0 ≤ q_worth P T N s k ∧ q_worth P T N s k ≤ 9000 := by
  have h := q_plain_b (P := P) hT hN hs hk
  have h2 := hN.2.2.2.2.2.2.2.1
  have h3 := mul_bnd h.1 h.2 h2.1 h2.2
  unfold q_worth
  split <;> omega
theorem q_mx_b {P T N : Int → Int} (hT : bT T) (hN : bN N) {s k : Int} (hs : 0 ≤ s ∧ s < 6) (hk : 0 ≤ k ∧ k < 12) : ∀ n : Nat, n ≤ 3 → 0 ≤ q_mx P T N s k n ∧ q_mx P T N s k n ≤ 2000 := by
  intro n
  induction n with
  | zero => intro _; unfold q_mx; omega
  | succ n ih =>
    intro hn
    have h1 := ih (by omega)
    have h2 := q_el_b hT hs hk (i := (n : Int)) (by omega)
    have h3 := hN.2.2.2.2.1 (q_el T s k (n : Int)) (by omega) (by omega)
    unfold q_mx
    split <;> omega
theorem q_best_b {P T N : Int → Int} (hT : bT T) (hN : bN N) {s k : Int} (hs : 0 ≤ s ∧ s < 6) (hk : 0 ≤ k ∧ k < 12) : 0 ≤ q_best P T N s k ∧ q_best P T N s k ≤ 2000 :=
  q_mx_b hT hN hs hk _ (by have := q_many_b hT hs hk; omega)
theorem q_gain_b {P T N : Int → Int} (hP : bP P) (hT : bT T) (hN : bN N) (hJ : bJ P T) {s k : Int} (hs : 0 ≤ s ∧ s < 6) (hk : 0 ≤ k ∧ k < 12) : -1000 ≤ q_gain P T N s k ∧ q_gain P T N s k ≤ 1000 := by
  have h1 := q_best_b (P := P) hT hN hs hk
  have h2 := q_mean_b hP hT hN hJ hs hk
  have h3 := mul_bnd2 h1.1 h1.2 (B := 500) h2.1 h2.2
  unfold q_gain
  omega
set_option maxHeartbeats 1000000 in
theorem e_worth {M : jM} {s k : Int} (hP : bP (M 166)) (hT : bT (M 169)) (hN : bN (M 170)) (hs : 0 ≤ s ∧ s < 6) (hk : 0 ≤ k ∧ k < 12) : f_X10_worthOf s k M = some (q_worth (M 166) (M 169) (M 170) s k) := by
  apply t_get
  unfold f_X10_worthOf
  have hm := q_many_b hT hs hk
  have hcb := q_calls_b (P := M 166) hN hs hk
  refine t_lp2 (fun n i => 0 ≤ i ∧ i ≤ q_many (M 169) s k ∧ n = sZ (fun i => if q_struck (M 166) (M 169) (M 170) s k i = 0 then M 170 (954 + q_el (M 169) s k i) else 0) i) (fun _ i => (q_many (M 169) s k - i).toNat) ?_ jfuel 0 0 (by rw [jfuel_eq]; omega) ⟨by omega, by omega, rfl⟩
  rintro self n i ⟨hi1, hi2, hn⟩ hself
  have hnb := q_bases_z (P := M 166) hT hN hs hk (i := i) (by omega)
  rw [← hn] at hnb
  refine t_Re (e_many hs hk) ?_
  rw [pw_of (z := q_many (M 169) s k) (by omega) (by omega), pw_of (z := i) (by omega) (by omega)]
  refine t_if (fun hc => ?_) (fun hc => ?_)
  · have hq : n = q_bases (M 166) (M 169) (M 170) s k := by rw [hn, show i = q_many (M 169) s k from by omega]; rfl
    refine t_Re (e_calls hP hs hk) ?_
    refine t_Re (e_isIn (by omega) (by omega)) ?_
    refine t_k ?_
    have tail : ∀ z, z = q_plain (M 166) (M 169) (M 170) s k → jT (jbR (f_X10_isLate s k M) fun v19 =>
          if jw v19 = 0 then (
            some z)
          else (
            jck (0 ≤ jw 966 ∧ jw 966 < 971) <|
            some (z + ((jw (z * (M 170 (jw 966)))).tdiv (jw 100))))) (fun r => r = q_worth (M 166) (M 169) (M 170) s k) := by
      intro z hz
      have hzb := q_plain_b (P := M 166) hT hN hs hk
      rw [← hz] at hzb
      have h2 := hN.2.2.2.2.2.2.2.1
      have h3 := mul_bnd hzb.1 hzb.2 h2.1 h2.2
      refine t_Re (e_late hP hT hN hs hk) ?_
      rcases q_late_b (M 166) (M 169) (M 170) s k with h | h
      · rw [h]
        refine t_pos (by decide) (t_some ?_)
        unfold q_worth
        rw [h, if_pos rfl]; exact hz
      · rw [h]
        refine t_neg (by decide) ?_
        rw [pw_of (z := 966) (by omega) (by omega), pw_of (z := z * M 170 966) (by omega) (by omega), pw_of (z := 100) (by omega) (by omega), Int.tdiv_eq_ediv_of_nonneg h3.1]
        refine t_ck (by omega) (t_some ?_)
        unfold q_worth
        rw [h, if_neg (by decide), ← hz]
    have mid2 : ∀ z, 0 ≤ z ∧ z ≤ 6000 → z = (if q_in (q_calls (M 166) (M 170) s k) 0 = 0 then q_bases (M 166) (M 169) (M 170) s k else q_bases (M 166) (M 169) (M 170) s k * 8 / 10) → jT (
        jbR (f_X10_callsOf s k M) fun v13 =>
        jbR (f_X10_isIn v13 1) fun v15 =>
        jk (fun (l3_16 : Int) =>
          jbR (f_X10_isLate s k M) fun v19 =>
          if jw v19 = 0 then (
            some l3_16)
          else (
            jck (0 ≤ jw 966 ∧ jw 966 < 971) <|
            some (l3_16 + ((jw (l3_16 * (M 170 (jw 966)))).tdiv (jw 100))))) fun (k17 : Int → Option (Int)) =>
        if jw v15 = 0 then (
          k17 z)
        else (
          jlet (((jw (z * 7)).tdiv (jw 10))) fun l3_21 =>
          k17 l3_21)) (fun r => r = q_worth (M 166) (M 169) (M 170) s k) := by
      intro z hzb hz
      refine t_Re (e_calls hP hs hk) ?_
      refine t_Re (e_isIn (by omega) (by omega)) ?_
      refine t_k ?_
      rcases q_in_b (q_calls (M 166) (M 170) s k) 1 with h | h
      · rw [h]
        refine t_pos (by decide) (tail z ?_)
        unfold q_plain
        dsimp only
        rw [h, if_pos rfl, hz]
      · rw [h]
        refine t_neg (by decide) ?_
        refine t_let ?_
        rw [pw_of (z := z * 7) (by omega) (by omega), pw_of (z := 10) (by omega) (by omega), Int.tdiv_eq_ediv_of_nonneg (by omega)]
        refine tail _ ?_
        unfold q_plain
        dsimp only
        rw [h, if_neg (by decide), hz]
    rcases q_in_b (q_calls (M 166) (M 170) s k) 0 with h | h
    · rw [h]
      refine t_pos (by decide) (mid2 n hnb ?_)
      rw [h, if_pos rfl]
      exact hq
    · rw [h]
      refine t_neg (by decide) ?_
      refine t_let ?_
      rw [pw_of (z := n * 8) (by omega) (by omega), pw_of (z := 10) (by omega) (by omega), Int.tdiv_eq_ediv_of_nonneg (by omega)]
      refine mid2 _ (by omega) ?_
      rw [h, if_neg (by decide), hq]
  · refine t_Re (e_struck hP hT hN hs hk (by omega)) ?_
    refine t_k ?_
    have hsz := sZ_s (f := fun i => if q_struck (M 166) (M 169) (M 170) s k i = 0 then M 170 (954 + q_el (M 169) s k i) else 0) hi1
    rcases q_struck_b (M 166) (M 169) (M 170) s k i with h | h
    · rw [h]
      have h1 := q_el_b hT hs hk (i := i) (by omega)
      refine t_pos (by decide) ?_
      refine t_Re (e_el hs hk (by omega)) ?_
      rw [pw_of (z := 954 + q_el (M 169) s k i) (by omega) (by omega)]
      refine t_ck (by omega) ?_
      refine t_let ?_
      refine t_let ?_
      refine hself _ _ ⟨by omega, by omega, ?_⟩ (by omega)
      rw [hsz, h, hn, if_pos rfl]
    · rw [h]
      refine t_neg (by decide) ?_
      refine t_let ?_
      refine t_let ?_
      refine hself _ _ ⟨by omega, by omega, ?_⟩ (by omega)
      rw [hsz, h, hn, if_neg (by decide)]
set_option maxHeartbeats 1000000 in
theorem e_gain {M : jM} {s k : Int} (hP : bP (M 166)) (hT : bT (M 169)) (hN : bN (M 170)) (hJ : bJ (M 166) (M 169)) (hs : 0 ≤ s ∧ s < 6) (hk : 0 ≤ k ∧ k < 12) : jT (f_X10_gainOf s k M) (fun p => p.1 = q_gain (M 166) (M 169) (M 170) s k ∧ fr3 M p.2) := by
  unfold f_X10_gainOf
  have hm := q_many_b hT hs hk
  refine t_lp2 (fun n i => 0 ≤ i ∧ i ≤ q_many (M 169) s k ∧ n = q_mx (M 166) (M 169) (M 170) s k i.toNat) (fun _ i => (q_many (M 169) s k - i).toNat) ?_ jfuel 0 0 (by rw [jfuel_eq]; omega) ⟨by omega, by omega, rfl⟩
  rintro self n i ⟨hi1, hi2, hn⟩ hself
  have hnb := q_mx_b (P := M 166) hT hN hs hk i.toNat (by omega)
  rw [← hn] at hnb
  refine t_Re (e_many hs hk) ?_
  rw [pw_of (z := q_many (M 169) s k) (by omega) (by omega), pw_of (z := i) (by omega) (by omega)]
  refine t_if (fun hc => ?_) (fun hc => ?_)
  · refine t_W (t_mono (e_mean hP hT hN hJ hs hk) (fun p hp => ?_))
    have h2 := q_mean_b hP hT hN hJ hs hk
    rw [← hp.1] at h2
    have h3 := mul_bnd2 hnb.1 hnb.2 (B := 500) h2.1 h2.2
    refine t_Re (e_fdiv (by omega) (by omega)) ?_
    refine t_some ⟨?_, hp.2⟩
    show n * p.1 / 1000 = _
    rw [hp.1, hn, show i = q_many (M 169) s k from by omega]
    rfl
  · refine t_Re (e_struck hP hT hN hs hk (by omega)) ?_
    refine t_k ?_
    have e1 : (i + 1).toNat = i.toNat + 1 := by omega
    have e2 : ((i.toNat : Nat) : Int) = i := by omega
    rcases q_struck_b (M 166) (M 169) (M 170) s k i with h | h
    · rw [h]
      have h1 := q_el_b hT hs hk (i := i) (by omega)
      have h4 := hN.2.2.2.2.1 (q_el (M 169) s k i) (by omega) (by omega)
      refine t_pos (by decide) ?_
      refine t_Re (e_el hs hk (by omega)) ?_
      rw [pw_of (z := 954 + q_el (M 169) s k i) (by omega) (by omega)]
      refine t_ck (by omega) ?_
      refine t_Re (e_max (by omega) (by omega)) ?_
      refine t_let ?_
      refine hself _ _ ⟨by omega, by omega, ?_⟩ (by omega)
      rw [e1]
      unfold q_mx
      rw [e2, h, if_pos rfl, hn]
    · rw [h]
      refine t_neg (by decide) ?_
      refine t_let ?_
      refine hself _ _ ⟨by omega, by omega, ?_⟩ (by omega)
      rw [e1]
      unfold q_mx
      rw [e2, h, if_neg (by decide), hn]
def q_ptsAt (P T N : Int → Int) (s k : Int) : Int := q_worth P T N s k + q_gain P T N s k
def q_points (P T N : Int → Int) (s : Int) : Int := sZ (fun k => if q_is P T N s k = 0 then 0 else q_ptsAt P T N s k) (T (116 + s))
def q_shown (P T N : Int → Int) (s : Int) : Int := sZ (q_comp P T N s) 3
def q_called (P T N : Int → Int) (s c : Int) : Int := sZ (fun k => if q_is P T N s k = 0 then 0 else q_in (q_calls P N s k) c) (T (116 + s))
def q_elsBy (P T N : Int → Int) (s kind : Int) : Int := sZ (fun k => if q_is P T N s k = 0 then 0 else sZ (fun i => if kind = 3 then q_struck P T N s k i else b2 (T (4 + q_el T s k i) = kind)) (q_many T s k)) (T (116 + s))
def q_tries (P T N : Int → Int) (s late : Int) : Int := sZ (fun k => if q_is P T N s k = 0 then 0 else if late = 0 then 1 else q_late P T N s k) (T (116 + s))
def q_word (P T N : Int → Int) (s w : Int) : Int := if w = 0 then q_called P T N s 2 else if w = 1 then T (110 + s) else if w = 2 then q_tries P T N s 0 else if w ≤ 5 then q_elsBy P T N s (w - 3) else if w = 6 then q_tries P T N s 1 else if w = 7 then q_elsBy P T N s 3 else q_called P T N s (w - 8)
theorem e_ptsAt {M : jM} {s k : Int} (hP : bP (M 166)) (hT : bT (M 169)) (hN : bN (M 170)) (hJ : bJ (M 166) (M 169)) (hs : 0 ≤ s ∧ s < 6) (hk : 0 ≤ k ∧ k < 12) : jT (f_X10_pointsAt s k M) (fun p => p.1 = q_ptsAt (M 166) (M 169) (M 170) s k ∧ fr3 M p.2) := by
  unfold f_X10_pointsAt
  refine t_Re (e_worth hP hT hN hs hk) ?_
  refine t_W (t_mono (e_gain hP hT hN hJ hs hk) (fun p hp => ?_))
  refine t_some ⟨?_, hp.2⟩
  show _ + p.1 = _
  rw [hp.1]
  rfl
theorem q_ptsAt_b {P T N : Int → Int} (hP : bP P) (hT : bT T) (hN : bN N) (hJ : bJ P T) {s k : Int} (hs : 0 ≤ s ∧ s < 6) (hk : 0 ≤ k ∧ k < 12) : -1000 ≤ q_ptsAt P T N s k ∧ q_ptsAt P T N s k ≤ 10000 := by
  have h1 := q_worth_b (P := P) hT hN hs hk
  have h2 := q_gain_b hP hT hN hJ hs hk
  unfold q_ptsAt
  omega
theorem q_points_b {P T N : Int → Int} (hP : bP P) (hT : bT T) (hN : bN N) (hJ : bJ P T) {s : Int} (hs : 0 ≤ s ∧ s < 6) : -12000 ≤ q_points P T N s ∧ q_points P T N s ≤ 120000 := by
  have t1 := hT.2.2.2.2.2.2.1 s hs.1 hs.2
  have := sZ_b (f := fun k => if q_is P T N s k = 0 then 0 else q_ptsAt P T N s k) (lo := -1000) (hi := 10000) (z := T (116 + s)) t1.1 (fun k h0 h1 => by
    have := q_ptsAt_b hP hT hN hJ hs (k := k) (by omega)
    split <;> omega)
  unfold q_points
  omega
theorem e_points {M : jM} {s : Int} (hP : bP (M 166)) (hT : bT (M 169)) (hN : bN (M 170)) (hJ : bJ (M 166) (M 169)) (hs : 0 ≤ s ∧ s < 6) : jT (f_X10_pointsOf s M) (fun p => p.1 = q_points (M 166) (M 169) (M 170) s ∧ fr3 M p.2) := by
  unfold f_X10_pointsOf
  have t1 := hT.2.2.2.2.2.2.1 s hs.1 hs.2
  refine t_lp3 (fun n k M3 => 0 ≤ k ∧ k ≤ M 169 (116 + s) ∧ n = sZ (fun k => if q_is (M 166) (M 169) (M 170) s k = 0 then 0 else q_ptsAt (M 166) (M 169) (M 170) s k) k ∧ fr3 M M3) (fun _ k _ => (M 169 (116 + s) - k).toNat) ?_ jfuel 0 0 M (by rw [jfuel_eq]; omega) ⟨by omega, by omega, rfl, fun _ _ => rfl⟩
  rintro self n k M3 ⟨hk1, hk2, hn, hfr⟩ hself
  have e9 : M3 169 = M 169 := hfr 169 (by decide)
  have e6 : M3 166 = M 166 := hfr 166 (by decide)
  have e0 : M3 170 = M 170 := hfr 170 (by decide)
  rw [e9, pw_of (z := 116 + s) (by omega) (by omega), pw_of (z := M 169 (116 + s)) (by omega) (by omega), pw_of (z := k) (by omega) (by omega)]
  refine t_ck (by omega) ?_
  refine t_if (fun hc => ?_) (fun hc => ?_)
  · refine t_some ⟨?_, hfr⟩
    show n = _
    rw [hn, show k = M 169 (116 + s) from by omega]
    rfl
  · have hsz := sZ_s (f := fun k => if q_is (M 166) (M 169) (M 170) s k = 0 then 0 else q_ptsAt (M 166) (M 169) (M 170) s k) hk1
    refine t_Re (e_is (by rw [e6]; exact hP) (by rw [e9]; exact hT) (by rw [e0]; exact hN) hs (by omega)) ?_
    rw [e6, e9, e0]
    refine t_k ?_
    rcases q_is_b (M 166) (M 169) (M 170) s k with h | h
    · rw [h]
      refine t_pos (by decide) ?_
      refine t_let ?_
      refine t_let ?_
      refine hself _ _ _ ⟨by omega, by omega, ?_, hfr⟩ (by omega)
      rw [hsz, h, ← hn, if_pos rfl]
    · rw [h]
      refine t_neg (by decide) ?_
      refine t_W (t_mono (e_ptsAt (by rw [e6]; exact hP) (by rw [e9]; exact hT) (by rw [e0]; exact hN) (by rw [e6, e9]; exact hJ) hs (by omega)) (fun p hp => ?_))
      refine t_let ?_
      refine t_let ?_
      refine hself _ _ _ ⟨by omega, by omega, ?_, fun a ha => by rw [hp.2 a ha]; exact hfr a ha⟩ (by omega)
      rw [hsz, h, ← hn, if_neg (by decide), hp.1, e6, e9, e0]
theorem q_shown_b {P T N : Int → Int} (hT : bT T) (hN : bN N) (hJ : bJ P T) {s : Int} (hs : 0 ≤ s ∧ s < 6) : 0 ≤ q_shown P T N s ∧ q_shown P T N s ≤ 9000 := by
  have := sZ_b (f := q_comp P T N s) (lo := 0) (hi := 3000) (z := 3) (by omega) (fun c h0 h1 => q_comp_b hT hN hJ hs ⟨h0, h1⟩)
  unfold q_shown
  omega
theorem e_shown {M : jM} {s : Int} (hP : bP (M 166)) (hT : bT (M 169)) (hN : bN (M 170)) (hJ : bJ (M 166) (M 169)) (hs : 0 ≤ s ∧ s < 6) : jT (f_X10_shownOf s M) (fun p => p.1 = q_shown (M 166) (M 169) (M 170) s ∧ fr3 M p.2) := by
  unfold f_X10_shownOf
  refine t_lp3 (fun n k M3 => 0 ≤ k ∧ k ≤ 3 ∧ n = sZ (q_comp (M 166) (M 169) (M 170) s) k ∧ fr3 M M3) (fun _ k _ => (3 - k).toNat) ?_ jfuel 0 0 M (by rw [jfuel_eq]; omega) ⟨by omega, by omega, rfl, fun _ _ => rfl⟩
  rintro self n k M3 ⟨hk1, hk2, hn, hfr⟩ hself
  have e9 : M3 169 = M 169 := hfr 169 (by decide)
  have e6 : M3 166 = M 166 := hfr 166 (by decide)
  have e0 : M3 170 = M 170 := hfr 170 (by decide)
  rw [pw_of (z := 3) (by omega) (by omega), pw_of (z := k) (by omega) (by omega)]
  refine t_if (fun hc => ?_) (fun hc => ?_)
  · refine t_some ⟨?_, hfr⟩
    show n = _
    rw [hn, show k = 3 from by omega]
    rfl
  · refine t_W (t_mono (e_comp (by rw [e6]; exact hP) (by rw [e9]; exact hT) (by rw [e0]; exact hN) (by rw [e6, e9]; exact hJ) hs (by omega)) (fun p hp => ?_))
    refine t_let ?_
    refine t_let ?_
    refine hself _ _ _ ⟨by omega, by omega, ?_, fun a ha => by rw [hp.2 a ha]; exact hfr a ha⟩ (by omega)
    rw [sZ_s hk1, ← hn, hp.1, e6, e9, e0]
theorem e_called {M : jM} {s c : Int} (hP : bP (M 166)) (hT : bT (M 169)) (hN : bN (M 170)) (hs : 0 ≤ s ∧ s < 6) (hcc : 0 ≤ c ∧ c < 3) : f_X10_calledOf s c M = some (q_called (M 166) (M 169) (M 170) s c) := by
  apply t_get
  unfold f_X10_calledOf
  have t1 := hT.2.2.2.2.2.2.1 s hs.1 hs.2
  refine t_lp2 (fun n k => 0 ≤ k ∧ k ≤ M 169 (116 + s) ∧ n = sZ (fun k => if q_is (M 166) (M 169) (M 170) s k = 0 then 0 else q_in (q_calls (M 166) (M 170) s k) c) k) (fun _ k => (M 169 (116 + s) - k).toNat) ?_ jfuel 0 0 (by rw [jfuel_eq]; omega) ⟨by omega, by omega, rfl⟩
  rintro self n k ⟨hk1, hk2, hn⟩ hself
  rw [pw_of (z := 116 + s) (by omega) (by omega), pw_of (z := M 169 (116 + s)) (by omega) (by omega), pw_of (z := k) (by omega) (by omega)]
  refine t_ck (by omega) ?_
  refine t_if (fun hc => ?_) (fun hc => ?_)
  · refine t_some ?_
    show n = _
    rw [hn, show k = M 169 (116 + s) from by omega]
    rfl
  · have hsz := sZ_s (f := fun k => if q_is (M 166) (M 169) (M 170) s k = 0 then 0 else q_in (q_calls (M 166) (M 170) s k) c) hk1
    refine t_Re (e_is hP hT hN hs (by omega)) ?_
    refine t_k ?_
    refine t_k ?_
    rcases q_is_b (M 166) (M 169) (M 170) s k with h | h
    · rw [h]
      refine t_pos (by decide) ?_
      refine t_let ?_
      refine t_let ?_
      refine hself _ _ ⟨by omega, by omega, ?_⟩ (by omega)
      rw [hsz, h, ← hn, if_pos rfl]
    · rw [h]
      refine t_neg (by decide) ?_
      refine t_Re (e_calls hP hs (by omega)) ?_
      have hcb := q_calls_b (P := M 166) hN hs (k := k) (by omega)
      refine t_Re (e_isIn (by omega) (by omega)) ?_
      rcases q_in_b (q_calls (M 166) (M 170) s k) c with h2 | h2
      · rw [h2]
        refine t_pos (by decide) ?_
        refine t_let ?_
        refine t_let ?_
        refine hself _ _ ⟨by omega, by omega, ?_⟩ (by omega)
        rw [hsz, h, ← hn, if_neg (by decide), h2]
      · rw [h2]
        refine t_neg (by decide) ?_
        refine t_let ?_
        refine t_let ?_
        refine hself _ _ ⟨by omega, by omega, ?_⟩ (by omega)
        rw [hsz, h, ← hn, if_neg (by decide), h2]
theorem e_tries {M : jM} {s c : Int} (hP : bP (M 166)) (hT : bT (M 169)) (hN : bN (M 170)) (hs : 0 ≤ s ∧ s < 6) (hcc : c = 0 ∨ c = 1) : f_X10_triesOf s c M = some (q_tries (M 166) (M 169) (M 170) s c) := by
  apply t_get
  unfold f_X10_triesOf
  have t1 := hT.2.2.2.2.2.2.1 s hs.1 hs.2
  refine t_lp2 (fun n k => 0 ≤ k ∧ k ≤ M 169 (116 + s) ∧ n = sZ (fun k => if q_is (M 166) (M 169) (M 170) s k = 0 then 0 else if c = 0 then 1 else q_late (M 166) (M 169) (M 170) s k) k) (fun _ k => (M 169 (116 + s) - k).toNat) ?_ jfuel 0 0 (by rw [jfuel_eq]; omega) ⟨by omega, by omega, rfl⟩
  rintro self n k ⟨hk1, hk2, hn⟩ hself
  rw [pw_of (z := 116 + s) (by omega) (by omega), pw_of (z := M 169 (116 + s)) (by omega) (by omega), pw_of (z := k) (by omega) (by omega), pw_of (z := c) (by omega) (by omega)]
  refine t_ck (by omega) ?_
  refine t_if (fun hc => ?_) (fun hc => ?_)
  · refine t_some ?_
    show n = _
    rw [hn, show k = M 169 (116 + s) from by omega]
    rfl
  · have hsz := sZ_s (f := fun k => if q_is (M 166) (M 169) (M 170) s k = 0 then 0 else if c = 0 then 1 else q_late (M 166) (M 169) (M 170) s k) hk1
    refine t_Re (e_is hP hT hN hs (by omega)) ?_
    refine t_k ?_
    refine t_k ?_
    rcases q_is_b (M 166) (M 169) (M 170) s k with h | h
    · rw [h]
      refine t_pos (by decide) ?_
      refine t_let ?_
      refine t_let ?_
      refine hself _ _ ⟨by omega, by omega, ?_⟩ (by omega)
      rw [hsz, h, ← hn, if_pos rfl]
    · rw [h]
      refine t_neg (by decide) ?_
      refine t_k ?_
      refine t_if (fun h3 => ?_) (fun h3 => ?_)
      · refine t_let ?_
        refine t_let ?_
        refine hself _ _ ⟨by omega, by omega, ?_⟩ (by omega)
        rw [hsz, h, ← hn, if_neg (by decide), if_pos h3]
      · refine t_Re (e_late hP hT hN hs (by omega)) ?_
        rcases q_late_b (M 166) (M 169) (M 170) s k with h2 | h2
        · rw [h2]
          refine t_pos (by decide) ?_
          refine t_let ?_
          refine t_let ?_
          refine hself _ _ ⟨by omega, by omega, ?_⟩ (by omega)
          rw [hsz, h, ← hn, if_neg (by decide), if_neg h3, h2]
        · rw [h2]
          refine t_neg (by decide) ?_
          refine t_let ?_
          refine t_let ?_
          refine hself _ _ ⟨by omega, by omega, ?_⟩ (by omega)
          rw [hsz, h, ← hn, if_neg (by decide), if_neg h3, h2]
theorem e_elsBy {M : jM} {s c : Int} (hP : bP (M 166)) (hT : bT (M 169)) (hN : bN (M 170)) (hs : 0 ≤ s ∧ s < 6) (hcc : 0 ≤ c ∧ c ≤ 3) : f_X10_elementsBy s c M = some (q_elsBy (M 166) (M 169) (M 170) s c) := by
  apply t_get
  unfold f_X10_elementsBy
  have t1 := hT.2.2.2.2.2.2.1 s hs.1 hs.2
  refine t_lp2 (fun n k => 0 ≤ k ∧ k ≤ M 169 (116 + s) ∧ n = sZ (fun k => if q_is (M 166) (M 169) (M 170) s k = 0 then 0 else sZ (fun i => if c = 3 then q_struck (M 166) (M 169) (M 170) s k i else b2 (M 169 (4 + q_el (M 169) s k i) = c)) (q_many (M 169) s k)) k) (fun _ k => (M 169 (116 + s) - k).toNat) ?_ jfuel 0 0 (by rw [jfuel_eq]; omega) ⟨by omega, by omega, rfl⟩
  rintro self n k ⟨hk1, hk2, hn⟩ hself
  rw [pw_of (z := 116 + s) (by omega) (by omega), pw_of (z := M 169 (116 + s)) (by omega) (by omega), pw_of (z := k) (by omega) (by omega)]
  refine t_ck (by omega) ?_
  refine t_if (fun hc => ?_) (fun hc => ?_)
  · refine t_some ?_
    show n = _
    rw [hn, show k = M 169 (116 + s) from by omega]
    rfl
  · have hsz := sZ_s (f := fun k => if q_is (M 166) (M 169) (M 170) s k = 0 then 0 else sZ (fun i => if c = 3 then q_struck (M 166) (M 169) (M 170) s k i else b2 (M 169 (4 + q_el (M 169) s k i) = c)) (q_many (M 169) s k)) hk1
    refine t_Re (e_is hP hT hN hs (by omega)) ?_
    rcases q_is_b (M 166) (M 169) (M 170) s k with h | h
    · rw [h]
      refine t_pos (by decide) ?_
      refine t_let ?_
      refine hself _ _ ⟨by omega, by omega, ?_⟩ (by omega)
      rw [hsz, h, ← hn, if_pos rfl]
      omega
    · rw [h]
      refine t_neg (by decide) ?_
      have hm := q_many_b hT hs (k := k) (by omega)
      refine t_lp2 (fun m i => 0 ≤ i ∧ i ≤ q_many (M 169) s k ∧ m = n + sZ (fun i => if c = 3 then q_struck (M 166) (M 169) (M 170) s k i else b2 (M 169 (4 + q_el (M 169) s k i) = c)) i) (fun _ i => (q_many (M 169) s k - i).toNat) ?_ jfuel n 0 (by rw [jfuel_eq]; omega) ⟨by omega, by omega, by rw [sZ_0]; omega⟩
      rintro self2 m i ⟨hi1, hi2, hmm⟩ hself2
      refine t_Re (e_many hs (by omega)) ?_
      rw [pw_of (z := q_many (M 169) s k) (by omega) (by omega), pw_of (z := i) (by omega) (by omega)]
      refine t_if (fun hc2 => ?_) (fun hc2 => ?_)
      · refine t_let ?_
        refine hself _ _ ⟨by omega, by omega, ?_⟩ (by omega)
        rw [hsz, h, ← hn, if_neg (by decide), hmm, show i = q_many (M 169) s k from by omega]
      · have hsy := sZ_s (f := fun i => if c = 3 then q_struck (M 166) (M 169) (M 170) s k i else b2 (M 169 (4 + q_el (M 169) s k i) = c)) hi1
        rw [pw_of (z := c) (by omega) (by omega), pw_of (z := 3) (by omega) (by omega)]
        refine t_k ?_
        refine t_if (fun hc3 => ?_) (fun hc3 => ?_)
        · refine t_Re (e_struck hP hT hN hs (by omega) (by omega)) ?_
          rcases q_struck_b (M 166) (M 169) (M 170) s k i with h2 | h2
          · rw [h2]
            refine t_pos (by decide) ?_
            refine t_let ?_
            refine t_let ?_
            refine hself2 _ _ ⟨by omega, by omega, ?_⟩ (by omega)
            rw [hsy, if_pos hc3, h2, hmm]
            omega
          · rw [h2]
            refine t_neg (by decide) ?_
            refine t_let ?_
            refine t_let ?_
            refine hself2 _ _ ⟨by omega, by omega, ?_⟩ (by omega)
            rw [hsy, if_pos hc3, h2, hmm]
            omega
        · have hel := q_el_b hT hs (k := k) (i := i) (by omega) (by omega)
          have hkd := hT.2.2.2.2.1 (q_el (M 169) s k i) (by omega) (by omega)
          refine t_Re (e_el hs (by omega) (by omega)) ?_
          rw [pw_of (z := 4 + q_el (M 169) s k i) (by omega) (by omega), pw_of (z := M 169 (4 + q_el (M 169) s k i)) (by omega) (by omega)]
          refine t_ck (by omega) ?_
          refine t_if (fun hc4 => ?_) (fun hc4 => ?_)
          · refine t_let ?_
            refine t_let ?_
            refine hself2 _ _ ⟨by omega, by omega, ?_⟩ (by omega)
            rw [hsy, if_neg hc3, b2_t hc4, hmm]
            omega
          · refine t_let ?_
            refine t_let ?_
            refine hself2 _ _ ⟨by omega, by omega, ?_⟩ (by omega)
            rw [hsy, if_neg hc3, b2_f hc4, hmm]
            omega
theorem e_word {M : jM} {s w : Int} (hP : bP (M 166)) (hT : bT (M 169)) (hN : bN (M 170)) (hs : 0 ≤ s ∧ s < 6) (hw : 0 ≤ w ∧ w < 10) : f_X10_wordBy s w M = some (q_word (M 166) (M 169) (M 170) s w) := by
  unfold f_X10_wordBy q_word
  rw [pw_of (z := w) (by omega) (by omega), pw_of (z := 110 + s) (by omega) (by omega)]
  by_cases h0 : w = 0
  · rw [if_neg (by omega), if_pos h0, if_pos h0, e_called hP hT hN hs (by omega)]; rfl
  by_cases h1 : w = 1
  · rw [if_neg (by omega), if_neg h0, if_neg h0, if_pos h1, if_pos h1, eC (by omega)]
  by_cases h2 : w = 2
  · rw [if_neg (by omega), if_neg h0, if_neg h0, if_neg h1, if_neg h1, if_pos h2, if_pos h2, e_tries hP hT hN hs (Or.inl rfl)]; rfl
  by_cases h3 : w = 3
  · rw [if_neg (by omega), if_neg h0, if_neg h0, if_neg h1, if_neg h1, if_neg h2, if_neg h2, if_pos h3, if_pos (by omega), e_elsBy hP hT hN hs (by omega)]; rfl
  by_cases h4 : w = 4
  · rw [if_neg (by omega), if_neg h0, if_neg h0, if_neg h1, if_neg h1, if_neg h2, if_neg h2, if_neg h3, if_pos h4, if_pos (by omega), e_elsBy hP hT hN hs (by omega)]; rfl
  by_cases h5 : w = 5
  · rw [if_neg (by omega), if_neg h0, if_neg h0, if_neg h1, if_neg h1, if_neg h2, if_neg h2, if_neg h3, if_neg h4, if_pos h5, if_pos (by omega), e_elsBy hP hT hN hs (by omega)]; rfl
  by_cases h6 : w = 6
  · rw [if_neg (by omega), if_neg h0, if_neg h0, if_neg h1, if_neg h1, if_neg h2, if_neg h2, if_neg h3, if_neg h4, if_neg h5, if_pos h6, if_neg (by omega), if_pos h6, e_tries hP hT hN hs (Or.inr rfl)]; rfl
  by_cases h7 : w = 7
  · rw [if_neg (by omega), if_neg h0, if_neg h0, if_neg h1, if_neg h1, if_neg h2, if_neg h2, if_neg h3, if_neg h4, if_neg h5, if_neg h6, if_neg (by omega), if_neg h6, if_pos h7, e_elsBy hP hT hN hs (by omega)]; rfl
  · rw [if_pos (by omega), if_neg h0, if_neg h1, if_neg h2, if_neg (by omega), if_neg h6, if_neg h7, e_called hP hT hN hs (by omega)]; rfl
