/-! ===== judges sorted by their votes, trimmed means by a panel (program) ===== -/
def sO (O V : Int → Int) (row : Int) (J : Nat) : Prop := (la O (row * 9) J).Perm (la (fun i => i) 0 J) ∧ Srt ((la O (row * 9) J).map V)
theorem srt_ins {A B : List Int} {V : Int → Int} {j : Int} (h : Srt ((A ++ B).map V)) (hA : ∀ x ∈ A, V x ≤ V j) (hB : ∀ x ∈ B, V j < V x) : Srt ((A ++ [j] ++ B).map V) := by
  rw [List.map_append] at h
  obtain ⟨h1, h2, h3⟩ := List.pairwise_append.mp h
  rw [List.map_append, List.map_append]
  refine List.pairwise_append.mpr ⟨List.pairwise_append.mpr ⟨h1, by simp, ?_⟩, h2, ?_⟩
  · intro a ha b hb
    obtain ⟨x, hx, rfl⟩ := List.mem_map.mp ha
    simp at hb
    subst hb
    exact hA x hx
  · intro a ha b hb
    rcases List.mem_append.mp ha with ha | ha
    · exact h3 a ha b hb
    · simp at ha
      subst ha
      obtain ⟨x, hx, rfl⟩ := List.mem_map.mp hb
      have := hB x hx
      omega
set_option maxHeartbeats 2000000 in
theorem c_sort {t e g row : Int} {J : Nat} {M : jM} (ht : 117 ≤ t) (he : 3 ≤ e ∧ e ≤ 56) (hg : 3 ≤ g ∧ g ≤ 103) (ke : jkd e = 1) (kg : jkd g = 6) (m0 : M t 0 = e) (m1 : M t 1 = g) (hJ : M e 0 = (J : Int)) (hJ9 : 1 ≤ J ∧ J ≤ 9) (hrow : 0 ≤ row ∧ row < 15) (hV : ∀ j : Int, 0 ≤ j → j < (J : Int) → -5 ≤ M (g + 5) (row * 9 + j) ∧ M (g + 5) (row * 9 + j) ≤ 10) :
    jT (f_X8_sortJudges t row M) (fun M' => (∀ a, a ≠ t + 6 → M' a = M a) ∧ (∀ i, i < row * 9 ∨ row * 9 + 9 ≤ i → M' (t + 6) i = M (t + 6) i) ∧ sO (M' (t + 6)) (fun j => M (g + 5) (row * 9 + j)) row J) := by
  unfold f_X8_sortJudges
  refine t_let ?_
  generalize hf : row * 9 = first
  rw [hf] at hV
  have hfb : 0 ≤ first ∧ first ≤ 126 := by omega
  refine t_lp2 (fun (jd : Int) (M3 : jM) => 0 ≤ jd ∧ jd ≤ (J : Int) ∧ (∀ a, a ≠ t + 6 → M3 a = M a) ∧ (∀ i, i < first ∨ first + 9 ≤ i → M3 (t + 6) i = M (t + 6) i) ∧ (la (M3 (t + 6)) first jd.toNat).Perm (la (fun i => i) 0 jd.toNat) ∧ Srt ((la (M3 (t + 6)) first jd.toNat).map (fun j => M (g + 5) (first + j)))) (fun (jd : Int) (_ : jM) => ((J : Int) - jd).toNat) ?_ jfuel 0 M (by rw [jfuel_eq]; omega) ⟨by omega, by omega, fun _ _ => rfl, fun _ _ => rfl, List.Perm.refl _, List.Pairwise.nil⟩
  rintro self jd M3 ⟨hj1, hj2, hfr, hfi, hpm, hst⟩ hself
  have a0 : M3 t 0 = e := by rw [hfr t (by omega)]; exact m0
  have a1 : M3 t 1 = g := by rw [hfr t (by omega)]; exact m1
  have aJ : M3 e 0 = J := by rw [hfr e (by omega)]; exact hJ
  have aV : M3 (g + 5) = M (g + 5) := hfr (g + 5) (by omega)
  rw [a0, a1, aJ, aV]
  refine t_ck ke ?_
  rw [pw_of (z := (J : Int)) (by omega) (by omega), pw_of (z := jd) (by omega) (by omega)]
  refine t_if (fun hc => ?_) (fun hc => ?_)
  · have : jd.toNat = J := by omega
    rw [this] at hpm hst
    refine t_some ⟨hfr, hfi, ?_, ?_⟩
    · rw [hf]; exact hpm
    · rw [hf]; exact hst
  · refine t_let ?_
    refine t_ck kg ?_
    rw [pw_of (z := first + jd) (by omega) (by omega)]
    refine t_ck (by omega) ?_
    refine t_let ?_
    have hvt := hV jd hj1 (by omega)
    refine t_lp2 (fun at_ M4 => first ≤ at_ ∧ at_ ≤ first + jd ∧ (∀ a, a ≠ t + 6 → M4 a = M a) ∧ (∀ i, i < first ∨ first + 9 ≤ i → M4 (t + 6) i = M (t + 6) i) ∧ la (M4 (t + 6)) first (at_ - first).toNat ++ la (M4 (t + 6)) (at_ + 1) (first + jd - at_).toNat = la (M3 (t + 6)) first jd.toNat ∧ ∀ x ∈ la (M4 (t + 6)) (at_ + 1) (first + jd - at_).toNat, M (g + 5) (first + jd) < M (g + 5) (first + x)) (fun at_ _ => (at_ - first).toNat) ?_ jfuel (first + jd) M3 (by rw [jfuel_eq]; omega) ⟨by omega, by omega, hfr, hfi, by rw [show (first + jd - (first + jd)).toNat = 0 from by omega, show (first + jd - first).toNat = jd.toNat from by omega]; exact List.append_nil _, by rw [show (first + jd - (first + jd)).toNat = 0 from by omega]; intro x hx; cases hx⟩
    rintro self2 at_ M4 ⟨hat1, hat2, hfr4, hfi4, hAB, hBg⟩ hself2
    have b1 : M4 t 1 = g := by rw [hfr4 t (by omega)]; exact m1
    have bV : M4 (g + 5) = M (g + 5) := hfr4 (g + 5) (by omega)
    have hmem : ∀ x, x ∈ la (M3 (t + 6)) first jd.toNat → 0 ≤ x ∧ x < jd := fun x hx => by
      obtain ⟨i, q1, q2, q3⟩ := la_mem.mp (hpm.mem_iff.mp hx)
      omega
    have exit_ : (∀ x ∈ la (M4 (t + 6)) first (at_ - first).toNat, M (g + 5) (first + x) ≤ M (g + 5) (first + jd)) → jT (
          jck (0 ≤ jw at_ ∧ jw at_ < 135) <|
          jlet (jst M4 (t + 6) (jw at_) jd) fun M15 =>
          jlet (jd + 1) fun l3_16 =>
          self l3_16 M15) (fun M' => (∀ a, a ≠ t + 6 → M' a = M a) ∧ (∀ i, i < first ∨ first + 9 ≤ i → M' (t + 6) i = M (t + 6) i) ∧ sO (M' (t + 6)) (fun j => M (g + 5) (first + j)) row J) := by
      intro hA
      rw [pw_of (z := at_) (by omega) (by omega)]
      refine t_ck (by omega) ?_
      refine t_let ?_
      refine t_let ?_
      have hlist : la (jst M4 (t + 6) at_ jd (t + 6)) first (jd + 1).toNat = la (M4 (t + 6)) first (at_ - first).toNat ++ [jd] ++ la (M4 (t + 6)) (at_ + 1) (first + jd - at_).toNat := by
        rw [show (jd + 1).toNat = (at_ - first).toNat + (1 + (first + jd - at_).toNat) from by omega, la_app, la_app, ← List.append_assoc]
        congr 1
        · congr 1
          · exact la_congr (fun i h0 h1 => pst_i (by omega))
          · rw [show first + (((at_ - first).toNat : Nat) : Int) = at_ from by omega]
            show [jst M4 (t + 6) at_ jd (t + 6) at_] = _
            rw [pst_s]
        · rw [show first + (((at_ - first).toNat : Nat) : Int) + ((1 : Nat) : Int) = at_ + 1 from by omega]
          exact la_congr (fun i h0 h1 => pst_i (by omega))
      refine hself _ _ ⟨by omega, by omega, fun a ha => by rw [pst_f ha]; exact hfr4 a ha, fun i hi => by rw [pst_i (by omega)]; exact hfi4 i hi, ?_, ?_⟩ (by omega)
      · rw [hlist, show (jd + 1).toNat = jd.toNat + 1 from by omega, la_snoc]
        have p1 : (la (M4 (t + 6)) first (at_ - first).toNat ++ [jd] ++ la (M4 (t + 6)) (at_ + 1) (first + jd - at_).toNat).Perm (la (M4 (t + 6)) first (at_ - first).toNat ++ la (M4 (t + 6)) (at_ + 1) (first + jd - at_).toNat ++ [jd]) := by
          rw [List.append_assoc, List.append_assoc]
          exact List.Perm.append_left _ List.perm_append_comm
        refine p1.trans ?_
        rw [hAB, show (0 : Int) + ((jd.toNat : Nat) : Int) = jd from by omega]
        exact hpm.append_right _
      · rw [hlist]
        refine srt_ins (V := fun j => M (g + 5) (first + j)) (j := jd) ?_ hA hBg
        rw [hAB]
        exact hst
    refine t_k ?_
    rw [pw_of (z := first) (by omega) (by omega), pw_of (z := at_) (by omega) (by omega)]
    refine t_if (fun c1 => ?_) (fun c1 => ?_)
    · have := exit_ (by
        rw [show (at_ - first).toNat = 0 from by omega]
        intro x hx
        cases hx)
      rwa [pw_of (z := at_) (by omega) (by omega)] at this
    · rw [b1, bV, pw_of (z := at_ - 1) (by omega) (by omega)]
      refine t_ck kg ?_
      refine t_ck (by omega) ?_
      have hA1 : la (M4 (t + 6)) first (at_ - first).toNat = la (M4 (t + 6)) first (at_ - 1 - first).toNat ++ [M4 (t + 6) (at_ - 1)] := by
        rw [show (at_ - first).toNat = (at_ - 1 - first).toNat + 1 from by omega, la_snoc, show first + (((at_ - 1 - first).toNat : Nat) : Int) = at_ - 1 from by omega]
      have hx := hmem (M4 (t + 6) (at_ - 1)) (by rw [← hAB, hA1]; simp)
      have hxv := hV (M4 (t + 6) (at_ - 1)) hx.1 (by omega)
      rw [pw_of (z := first + M4 (t + 6) (at_ - 1)) (by omega) (by omega), pw_of (z := M (g + 5) (first + M4 (t + 6) (at_ - 1))) (by omega) (by omega), pw_of (z := M (g + 5) (first + jd)) (by omega) (by omega)]
      refine t_ck (by omega) ?_
      refine t_if (fun c2 => ?_) (fun c2 => ?_)
      · have hsA : Srt ((la (M4 (t + 6)) first (at_ - first).toNat).map (fun j => M (g + 5) (first + j))) := by
          have := hst
          rw [← hAB, List.map_append] at this
          exact (List.pairwise_append.mp this).1
        have := exit_ (by
          intro x hx
          rw [hA1] at hx hsA
          rw [List.map_append] at hsA
          rcases List.mem_append.mp hx with hx | hx
          · have h5 := (List.pairwise_append.mp hsA).2.2 (M (g + 5) (first + x)) (List.mem_map.mpr ⟨x, hx, rfl⟩) (M (g + 5) (first + M4 (t + 6) (at_ - 1))) (by simp)
            omega
          · simp at hx
            rw [hx]
            exact c2)
        rwa [pw_of (z := at_) (by omega) (by omega)] at this
      · refine t_ck (by omega) ?_
        refine t_ck (by omega) ?_
        refine t_let ?_
        refine t_let ?_
        have hA2 : la (jst M4 (t + 6) at_ (M4 (t + 6) (at_ - 1)) (t + 6)) first (at_ + -1 - first).toNat = la (M4 (t + 6)) first (at_ - 1 - first).toNat := by
          rw [show (at_ + -1 - first).toNat = (at_ - 1 - first).toNat from by omega]
          exact la_congr (fun i h0 h1 => pst_i (by omega))
        have hB2 : la (jst M4 (t + 6) at_ (M4 (t + 6) (at_ - 1)) (t + 6)) (at_ + -1 + 1) (first + jd - (at_ + -1)).toNat = M4 (t + 6) (at_ - 1) :: la (M4 (t + 6)) (at_ + 1) (first + jd - at_).toNat := by
          rw [show (first + jd - (at_ + -1)).toNat = (first + jd - at_).toNat + 1 from by omega, la_cons, show at_ + -1 + 1 = at_ from by omega, pst_s]
          congr 1
          exact la_congr (fun i h0 h1 => pst_i (by omega))
        refine hself2 _ _ ⟨by omega, by omega, fun a ha => by rw [pst_f ha]; exact hfr4 a ha, fun i hi => by rw [pst_i (by omega)]; exact hfi4 i hi, ?_, ?_⟩ (by omega)
        · rw [hA2, hB2, ← hAB, hA1, List.append_assoc]
          rfl
        · rw [hB2]
          intro x hx
          rcases List.mem_cons.mp hx with hx | hx
          · rw [hx]; omega
          · exact hBg x hx
theorem pc_sum (n : Nat) : ((pc n : Nat) : Int) = sS (q_in (n : Int)) 12 := by
  have hb : ∀ i : Nat, ((n / 2 ^ i % 2 : Nat) : Int) = q_in (n : Int) (i : Int) := fun i => by
    unfold q_in
    rw [Int.toNat_natCast, Int.toNat_natCast, Nat.testBit_eq_decide_div_mod_eq]
    rcases Nat.mod_two_eq_zero_or_one (n / 2 ^ i) with h | h <;> rw [h] <;> rfl
  unfold pc
  simp only [show List.range 12 = [0, 1, 2, 3, 4, 5, 6, 7, 8, 9, 10, 11] from rfl, List.map_cons, List.map_nil, List.sum_cons, List.sum_nil, Int.natCast_add, hb, sS]
  omega
theorem q_in_hi {n : Nat} {J : Nat} (h : n < 2 ^ J) {i : Int} (hi : (J : Int) ≤ i) : q_in (n : Int) i = 0 := by
  unfold q_in
  apply b2_f
  rw [Int.toNat_natCast, Nat.testBit_lt_two_pow (Nat.lt_of_lt_of_le h (Nat.pow_le_pow_right (by decide) (by omega)))]
  decide
theorem sS_zero {f : Int → Int} {J : Nat} : ∀ (d : Nat), (∀ i : Int, (J : Int) ≤ i → f i = 0) → sS f (J + d) = sS f J := by
  intro d
  induction d with
  | zero => intro _; rfl
  | succ d ih =>
    intro h
    show sS f (J + d) + f ((J + d : Nat) : Int) = sS f J
    rw [ih h, h _ (by omega), Int.add_zero]
theorem pc_pan {n J : Nat} (h : n < 2 ^ J) (hJ : J ≤ 12) : ((pc n : Nat) : Int) = sS (q_in (n : Int)) J := by
  rw [pc_sum, show 12 = J + (12 - J) from by omega]
  exact sS_zero _ (fun i hi => q_in_hi h hi)
theorem q_row_filter (V : Int → Int) (panel : Int) : ∀ J : Nat, q_row V panel J = ((la (fun i => i) 0 J).filter (fun j => decide (q_in panel j ≠ 0))).map V := by
  intro J
  induction J with
  | zero => rfl
  | succ J ih =>
    rw [la_snoc, List.filter_append, List.map_append, ← ih]
    show (if q_in panel (J : Int) = 0 then q_row V panel J else q_row V panel J ++ [V (J : Int)]) = _
    rw [show (0 : Int) + (J : Int) = J from by omega]
    by_cases h : q_in panel (J : Int) = 0
    · rw [if_pos h]
      simp [h]
    · rw [if_neg h]
      simp [h]
theorem sO_row {O V : Int → Int} {row : Int} {J : Nat} (h : sO O V row J) (panel : Int) : Srt (((la O (row * 9) J).filter (fun j => decide (q_in panel j ≠ 0))).map V) ∧ (((la O (row * 9) J).filter (fun j => decide (q_in panel j ≠ 0))).map V).Perm (q_row V panel J) := by
  refine ⟨List.Pairwise.sublist (List.Sublist.map V List.filter_sublist) h.2, ?_⟩
  rw [q_row_filter]
  exact (h.1.filter _).map V
set_option maxHeartbeats 2000000 in
theorem c_trim {t e g row : Int} {J pn : Nat} {M : jM} (ke : jkd e = 1) (kg : jkd g = 6) (m0 : M t 0 = e) (m1 : M t 1 = g) (hJ : M e 0 = (J : Int)) (hJ9 : 1 ≤ J ∧ J ≤ 9) (hrow : 0 ≤ row ∧ row < 15) (hV : ∀ j : Int, 0 ≤ j → j < (J : Int) → -5 ≤ M (g + 5) (row * 9 + j) ∧ M (g + 5) (row * 9 + j) ≤ 10) (hD : 0 ≤ M (e + 1) 0 ∧ M (e + 1) 0 ≤ 3)
    (hO : sO (M (t + 6)) (fun j => M (g + 5) (row * 9 + j)) row J) (hpn : pn < 2 ^ J) (hp1 : 1 ≤ sS (q_in (pn : Int)) J) :
    f_X8_trimmed t row (pn : Int) M = some (q_tr (M (e + 1) 0) (q_row (fun j => M (g + 5) (row * 9 + j)) (pn : Int) J)) := by
  apply t_get
  obtain ⟨s1, s2⟩ := sO_row hO (pn : Int)
  have h512 : 2 ^ J ≤ 2 ^ 9 := Nat.pow_le_pow_right (by decide) hJ9.2
  have hcnt := pc_pan hpn (by omega)
  have hlen : (((la (M (t + 6)) (row * 9) J).filter (fun j => decide (q_in (pn : Int) j ≠ 0))).map (fun j => M (g + 5) (row * 9 + j))).length = pc pn := by
    rw [s2.length_eq]
    have := q_row_len (fun j => M (g + 5) (row * 9 + j)) (pn : Int) J
    omega
  have hpc : pc pn ≤ 9 := by
    have := List.length_filter_le (fun j => decide (q_in (pn : Int) j ≠ 0)) (la (M (t + 6)) (row * 9) J)
    rw [List.length_map] at hlen
    rw [la_len] at this
    omega
  rw [← q_tr_of s1 s2]
  unfold f_X8_trimmed
  refine t_Re (pb_pc (by omega)) ?_
  rw [m0, m1]
  refine t_ck ke ?_
  rw [pw_of (z := 0) (by omega) (by omega), pw_of (z := 2) (by omega) (by omega), pw_of (z := ((pc pn : Nat) : Int) - 1) (by omega) (by omega), tdiv2 (by omega), hJ]
  refine t_ck (by omega) ?_
  refine t_Re (e_min (by omega) (by omega)) ?_
  generalize hd : min (M (e + 1) 0) ((((pc pn : Nat) : Int) - 1) / 2) = d
  have hd0 : 0 ≤ d ∧ 2 * d < ((pc pn : Nat) : Int) := by omega
  refine t_let ?_
  rw [pw_of (z := 1) (by omega) (by omega), pw_of (z := ((pc pn : Nat) : Int) - 2 * d) (by omega) (by omega)]
  refine t_pos (by omega) ?_
  refine t_let ?_
  generalize hf : row * 9 = first
  rw [hf] at hV hO hlen
  have hfb : 0 ≤ first ∧ first ≤ 126 := by omega
  have hmem : ∀ i : Int, first ≤ i → i < first + J → 0 ≤ M (t + 6) i ∧ M (t + 6) i < J := fun i h0 h1 => by
    have hh := hO.1
    rw [hf] at hh
    obtain ⟨q, q1, q2, q3⟩ := la_mem.mp (hh.mem_iff.mp (la_mem.mpr ⟨i, h0, h1, rfl⟩))
    omega
  have hvb : ∀ i : Nat, i ≤ J → ∀ x ∈ ((la (M (t + 6)) first i).filter (fun j => decide (q_in (pn : Int) j ≠ 0))).map (fun j => M (g + 5) (first + j)), -5 ≤ x ∧ x ≤ 10 := fun i hi x hx => by
    obtain ⟨y, hy, rfl⟩ := List.mem_map.mp hx
    obtain ⟨q, q1, q2, q3⟩ := la_mem.mp (List.mem_filter.mp hy).1
    have := hmem q q1 (by omega)
    rw [q3] at this
    exact hV y this.1 this.2
  refine t_lp3 (fun ahead tog i => first ≤ i ∧ i ≤ first + J ∧ ahead = ((((la (M (t + 6)) first (i - first).toNat).filter (fun j => decide (q_in (pn : Int) j ≠ 0))).map (fun j => M (g + 5) (first + j))).length : Int) ∧ tog = mid d.toNat (pc pn - 2 * d.toNat) (((la (M (t + 6)) first (i - first).toNat).filter (fun j => decide (q_in (pn : Int) j ≠ 0))).map (fun j => M (g + 5) (first + j))) ∧ -100000 ≤ tog ∧ tog ≤ 100000) (fun _ _ i => (first + J - i).toNat) ?_ jfuel 0 0 first (by rw [jfuel_eq]; omega) ⟨by omega, by omega, by rw [show (first - first).toNat = 0 from by omega]; rfl, by rw [show (first - first).toNat = 0 from by omega]; simp [la, mid], by omega, by omega⟩
  rintro self ahead tog i ⟨hi1, hi2, hah, htog, htb1, htb2⟩ hself
  rw [pw_of (z := first + J) (by omega) (by omega), pw_of (z := i) (by omega) (by omega)]
  refine t_if (fun hc => ?_) (fun hc => ?_)
  · refine t_Re (e_fdiv (by omega) (by omega)) ?_
    refine t_some ?_
    have ei : (i - first).toNat = J := by omega
    rw [ei] at htog
    unfold trS
    simp only
    rw [hlen, hd, htog, show ((pc pn - 2 * d.toNat : Nat) : Int) = ((pc pn : Nat) : Int) - 2 * d from by omega]
  · refine t_ck (by omega) ?_
    refine t_let ?_
    have hx := hmem i hi1 (by omega)
    have hcb := List.length_filter_le (fun j => decide (q_in (pn : Int) j ≠ 0)) (la (M (t + 6)) first (i - first).toNat)
    rw [la_len] at hcb
    rw [List.length_map] at hah
    have hsn : la (M (t + 6)) first (i + 1 - first).toNat = la (M (t + 6)) first (i - first).toNat ++ [M (t + 6) i] := by
      rw [show (i + 1 - first).toNat = (i - first).toNat + 1 from by omega, la_snoc, show first + (((i - first).toNat : Nat) : Int) = i from by omega]
    rw [e_bit (s := (pn : Int)) (k := M (t + 6) i) (by omega) (by omega)]
    rcases q_in_b (pn : Int) (M (t + 6) i) with h | h
    · rw [h]
      refine t_pos (by decide) ?_
      refine t_let ?_
      have hfl : (la (M (t + 6)) first (i + 1 - first).toNat).filter (fun j => decide (q_in (pn : Int) j ≠ 0)) = (la (M (t + 6)) first (i - first).toNat).filter (fun j => decide (q_in (pn : Int) j ≠ 0)) := by
        rw [hsn, List.filter_append]
        simp [h]
      refine hself _ _ _ ⟨by omega, by omega, ?_, ?_, htb1, htb2⟩ (by omega)
      · rw [hfl, List.length_map]; exact hah
      · rw [hfl]; exact htog
    · rw [h]
      refine t_neg (by decide) ?_
      have hfl : ((la (M (t + 6)) first (i + 1 - first).toNat).filter (fun j => decide (q_in (pn : Int) j ≠ 0))).map (fun j => M (g + 5) (first + j)) = ((la (M (t + 6)) first (i - first).toNat).filter (fun j => decide (q_in (pn : Int) j ≠ 0))).map (fun j => M (g + 5) (first + j)) ++ [M (g + 5) (first + M (t + 6) i)] := by
        rw [hsn, List.filter_append, List.map_append]
        simp [h]
      have hvi := hV (M (t + 6) i) hx.1 hx.2
      have hms := mid_snoc d.toNat (pc pn - 2 * d.toNat) (((la (M (t + 6)) first (i - first).toNat).filter (fun j => decide (q_in (pn : Int) j ≠ 0))).map (fun j => M (g + 5) (first + j))) (M (g + 5) (first + M (t + 6) i))
      rw [List.length_map] at hms
      have hbnd : ∀ z : Nat, (z : Int) = ahead + 1 → z ≤ 10 := fun z hz => by omega
      have next : ∀ z, z = mid d.toNat (pc pn - 2 * d.toNat) (((la (M (t + 6)) first (i + 1 - first).toNat).filter (fun j => decide (q_in (pn : Int) j ≠ 0))).map (fun j => M (g + 5) (first + j))) → jT (jlet (ahead + 1) fun l7_20 =>
            jlet (i + 1) fun l9_21 =>
            self l7_20 z l9_21) (fun r => r = trS (M (e + 1) 0) (((la (M (t + 6)) first J).filter (fun j => decide (q_in (pn : Int) j ≠ 0))).map (fun j => M (g + 5) (first + j)))) := by
        intro z hz
        refine t_let ?_
        refine t_let ?_
        have hzb : -100000 ≤ z ∧ z ≤ 100000 := by
          have hb2 := hvb (i + 1 - first).toNat (by omega)
          have gen : ∀ (q : List Int), (∀ x ∈ q, -5 ≤ x ∧ x ≤ 10) → q.length ≤ 10 → -100 ≤ q.sum ∧ q.sum ≤ 100 := by
            intro q hq hl
            have := mid_le (d := 0) (m := q.length) (l := q) (lo := -5) (hi := 10) hq (by omega)
            unfold mid at this
            rw [List.drop_zero, List.take_of_length_le (Nat.le_refl _)] at this
            omega
          have := gen (List.take (pc pn - 2 * d.toNat) (List.drop d.toNat (((la (M (t + 6)) first (i + 1 - first).toNat).filter (fun j => decide (q_in (pn : Int) j ≠ 0))).map (fun j => M (g + 5) (first + j))))) (fun x hx => hb2 x (List.mem_of_mem_drop (List.mem_of_mem_take hx))) (by
            rw [List.length_take]
            omega)
          rw [hz]
          unfold mid
          omega
        refine hself _ _ _ ⟨by omega, by omega, ?_, hz, hzb.1, hzb.2⟩ (by omega)
        rw [hfl, List.length_append, List.length_map, List.length_singleton, Int.natCast_add, ← hah]
        rfl
      refine t_k ?_
      rw [pw_of (z := ahead) (by omega) (by omega), pw_of (z := d) (by omega) (by omega), pw_of (z := ((pc pn : Nat) : Int) - d) (by omega) (by omega)]
      refine t_if (fun c1 => ?_) (fun c1 => ?_)
      · refine next _ ?_
        rw [hfl, hms, if_neg (by omega), Int.add_zero]
        exact htog
      · refine t_if (fun c2 => ?_) (fun c2 => ?_)
        · refine next _ ?_
          rw [hfl, hms, if_neg (by omega), Int.add_zero]
          exact htog
        · refine t_ck kg ?_
          rw [pw_of (z := first + M (t + 6) i) (by omega) (by omega)]
          refine t_ck (by omega) ?_
          refine t_let ?_
          refine next _ ?_
          rw [hfl, hms, if_pos (by omega), htog]
