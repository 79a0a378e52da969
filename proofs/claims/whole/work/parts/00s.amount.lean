/-! ===== the program's rules ===== -/
theorem tstep_rng {v : Int} {s s1 : List Bool} (h : tstep v s = some s1) : (0 ≤ v ∧ v ≤ 9999) ∨ (10020 ≤ v ∧ v ≤ 10029) ∨ (10001 ≤ v ∧ v ≤ 10009) := by
  unfold tstep at h
  split at h
  · omega
  · split at h
    · repeat' split at h
      all_goals first | omega | (cases h)
    · cases h
theorem ev_congr {W W' : Int → Int} (hW : ∀ w, 0 ≤ w → w < 10 → W w = W' w) {d : Nat} : ∀ {l : List Int} {s s' : List Bool} {st : List Int}, okc d l s s' → ev W l st = ev W' l st := by
  intro l
  induction l with
  | nil => intro s s' st _; rfl
  | cons v l ih =>
    intro s s' st h
    obtain ⟨s1, h1, h2, h3⟩ := h
    show ev W l (rst W v st) = ev W' l (rst W' v st)
    have : rst W v st = rst W' v st := by
      unfold rst
      by_cases c1 : v ≤ 9999
      · rw [if_pos c1, if_pos c1]
      · rw [if_neg c1, if_neg c1]
        by_cases c2 : 10020 ≤ v
        · have := tstep_rng h1
          rw [if_pos c2, if_pos c2, hW (v - 10020) (by omega) (by omega)]
        · rw [if_neg c2, if_neg c2]
    rw [this]
    exact ih h3
theorem c_joined {v a b : Int} (hv : 10001 ≤ v ∧ v ≤ 10008) (ha : -1000000 ≤ a ∧ a ≤ 1000000) (hb : -1000000 ≤ b ∧ b ≤ 1000000) (hbool : 10007 ≤ v → (a = 0 ∨ a = 1) ∧ (b = 0 ∨ b = 1)) : f_X5_joined (10000 - v) a b = some (rop v a b) := by
  have hm := mul_b6 ha hb
  have clamp : ∀ z : Int, -9000000000000 ≤ z ∧ z ≤ 9000000000000 → (jbR (f_J9_min_f86c9 1000000 z) fun v4 => jbR (f_J9_max_f86c9 (-1000000) v4) fun v6 => some v6) = some (clB z) := fun z hz => by
    rw [e_minL (by omega) (by omega), eR, e_maxL (by omega) (by omega), eR]; rfl
  unfold f_X5_joined rop
  rw [pw_of (z := 10000 - v) (by omega) (by omega), pcmp_of (a := a) (b := b) (by omega) (by omega), pcmp_of (a := a) (b := 0) (by omega) (by omega), pcmp_of (a := b) (b := 0) (by omega) (by omega), eK, pw_of (z := -1) (by omega) (by omega), pw_of (z := -2) (by omega) (by omega)]
  dsimp only
  by_cases h1 : v = 10001
  · rw [if_pos (by omega), if_pos (by omega), if_pos h1]; exact clamp _ (by omega)
  by_cases h2 : v = 10002
  · rw [if_pos (by omega), if_neg (by omega), if_pos (by omega), if_neg h1, if_pos h2]; exact clamp _ (by omega)
  by_cases h3 : v = 10003
  · rw [if_pos (by omega), if_neg (by omega), if_neg (by omega), if_neg h1, if_neg h2, if_pos h3]; exact clamp _ (by omega)
  rw [if_neg (by omega), if_neg h1, if_neg h2, if_neg h3]
  by_cases h8 : v = 10008
  · obtain ⟨qa, qb⟩ := hbool (by omega)
    subst h8
    rcases qa with qa | qa <;> rcases qb with qb | qb <;> subst qa <;> subst qb <;> decide
  by_cases h7 : v = 10007
  · obtain ⟨qa, qb⟩ := hbool (by omega)
    subst h7
    rcases qa with qa | qa <;> rcases qb with qb | qb <;> subst qa <;> subst qb <;> decide
  rw [if_neg (by omega), if_neg (by omega)]
  by_cases h6 : v = 10006
  · rw [if_pos (by omega), if_neg (show ¬ v = 10004 by omega), if_neg (show ¬ v = 10005 by omega), if_pos h6]
    by_cases c : a < b
    · rw [if_pos c, b2_f (by omega)]; rfl
    · rw [if_neg c]
      by_cases c2 : a = b
      · rw [if_pos c2, b2_f (by omega)]; rfl
      · rw [if_neg c2, b2_t (by omega)]; rfl
  rw [if_neg (by omega)]
  by_cases h5 : v = 10005
  · rw [if_pos (by omega), if_neg (show ¬ v = 10004 by omega), if_pos h5]
    by_cases c : a < b
    · rw [if_pos c, b2_f (by omega)]; rfl
    · rw [if_neg c]
      by_cases c2 : a = b
      · rw [if_pos c2, b2_t c2]; rfl
      · rw [if_neg c2, b2_f c2]; rfl
  · rw [if_neg (by omega), if_pos (show v = 10004 by omega)]
    by_cases c : a < b
    · rw [if_pos c, b2_t c]; rfl
    · rw [if_neg c, b2_f c]
      by_cases c2 : a = b
      · rw [if_pos c2]; rfl
      · rw [if_neg c2]; rfl
theorem tstep_bool {v : Int} {b1 a1 : Bool} {t1 s1 : List Bool} {y x : Int} {q : List Int} (h : tstep v (b1 :: a1 :: t1) = some s1) (hv : vty (b1 :: a1 :: t1) (y :: x :: q)) (h7 : 10007 ≤ v) (h8 : v ≤ 10008) : (x = 0 ∨ x = 1) ∧ (y = 0 ∨ y = 1) := by
  unfold tstep at h
  rw [if_neg (by omega)] at h
  simp only at h
  rw [if_neg (by omega), if_neg (by omega)] at h
  split at h
  · rename_i c
    obtain ⟨-, -, ca, cb⟩ := c
    subst ca cb
    obtain ⟨hy, hx, -⟩ := hv
    rw [if_neg (by decide)] at hx hy
    exact ⟨hx, hy⟩
  · rw [if_neg (by omega)] at h
    cases h
set_option maxHeartbeats 4000000 in
theorem c_work {rl fc from_ a : Int} {n : Nat} {M : jM} {T W : Int → Int} {tau : Bool} (hrl : rl ≠ fc) (hfc : rl + 5 ≠ fc) (hln : jln fc = 10) (hf0 : 0 ≤ from_) (hf1 : from_ + n ≤ 600) (hW : ∀ w, 0 ≤ w → w < 10 → M fc w = W w) (hWb : ∀ w, 0 ≤ w → w < 10 → 0 ≤ W w ∧ W w ≤ 1000)
    (hcd : ∀ i : Int, 0 ≤ i → i < n → M (rl + 1) (from_ + i) = ctr (T (a + i))) (hok : okc 14 (la T a n) [] [tau]) (hnoif : ∀ i : Int, 0 ≤ i → i < n → T (a + i) ≠ 10009) :
    jT (f_X5_workOut rl from_ (from_ + n) fc M) (fun p => ev W (la T a n) [] = [p.1] ∧ vty [tau] [p.1] ∧ ∀ c, c ≠ rl + 5 → p.2 c = M c) := by
  unfold f_X5_workOut
  refine t_lp3 (fun top k M5 => ∃ (ty : List Bool) (st : List Int), from_ ≤ k ∧ k ≤ from_ + n ∧ top = (st.length : Int) ∧ la (M5 (rl + 5)) 0 st.length = st.reverse ∧ okc 14 (la T (a + (k - from_)) (from_ + n - k).toNat) ty [tau] ∧ ty.length ≤ 14 ∧ vty ty st ∧ ev W (la T (a + (k - from_)) (from_ + n - k).toNat) st = ev W (la T a n) [] ∧ ∀ c, c ≠ rl + 5 → M5 c = M c) (fun _ k _ => (from_ + n - k).toNat) ?_ jfuel 0 from_ M (by rw [jfuel_eq]; omega) ⟨[], [], by omega, by omega, rfl, rfl, by rw [show from_ - from_ = 0 from by omega, Int.add_zero, show (from_ + n - from_).toNat = n from by omega]; exact hok, by decide, trivial, by rw [show from_ - from_ = 0 from by omega, Int.add_zero, show (from_ + n - from_).toNat = n from by omega], fun _ _ => rfl⟩
  rintro self top k M5 ⟨ty, st, hk1, hk2, htop, hla, hok, htl, hvt, hev, hfr⟩ hself
  have hlen := vty_len hvt
  rw [pw_of (z := from_ + n) (by omega) (by omega), pw_of (z := k) (by omega) (by omega)]
  refine t_if (fun hc => ?_) (fun hc => ?_)
  · have ek : (from_ + n - k).toNat = 0 := by omega
    rw [ek] at hok hev
    have hty : ty = [tau] := hok
    subst hty
    match st, hvt, hlen, hla, hev with
    | [x], hvt, hlen, hla, hev =>
      have h174 : M5 (rl + 5) 0 = x := (List.cons.inj hla).1
      rw [pw_of (z := 0) (by omega) (by omega), h174]
      refine t_ck (by omega) ?_
      exact t_some ⟨hev.symm, hvt, hfr⟩
  · have ek : (from_ + n - k).toNat = (from_ + n - (k + 1)).toNat + 1 := by omega
    rw [ek] at hok hev
    have hla1 : la T (a + (k - from_)) ((from_ + n - (k + 1)).toNat + 1) = T (a + (k - from_)) :: la T (a + (k + 1 - from_)) (from_ + n - (k + 1)).toNat := by
      rw [show a + (k + 1 - from_) = a + (k - from_) + 1 from by omega]; rfl
    rw [hla1] at hok hev
    obtain ⟨ty1, o1, o2, o3⟩ := hok
    have hvt1 := vty_step hWb o1 hvt
    have hlen1 := vty_len hvt1
    refine t_ck (by omega) ?_
    refine t_let ?_
    have hcode := hcd (k - from_) (by omega) (by omega)
    rw [show from_ + (k - from_) = k from by omega] at hcode
    have hno := hnoif (k - from_) (by omega) (by omega)
    have f1 : M5 (rl + 1) = M (rl + 1) := hfr _ (by omega)
    rw [f1, hcode]
    generalize hv : T (a + (k - from_)) = v at o1 hev hvt1 hlen1 hno ⊢
    have hev1 : ev W (la T (a + (k + 1 - from_)) (from_ + n - (k + 1)).toNat) (rst W v st) = ev W (la T a n) [] := hev
    have hvr := tstep_rng o1
    have push : ∀ z : Int, rst W v st = z :: st → jT (
          jck (0 ≤ jw top ∧ jw top < 16) <|
          jlet (jst M5 (rl + 5) (jw top) z) fun M19 =>
          jlet (top + 1) fun l4_20 =>
          jlet (k + 1) fun l5_21 =>
          self l4_20 l5_21 M19) (fun p => ev W (la T a n) [] = [p.1] ∧ vty [tau] [p.1] ∧ ∀ c, c ≠ rl + 5 → p.2 c = M c) := by
      intro z hz
      rw [hz] at hvt1 hlen1 hev1
      rw [List.length_cons] at hlen1
      rw [pw_of (z := top) (by omega) (by omega)]
      refine t_ck (by omega) ?_
      refine t_let ?_
      refine t_let ?_
      refine t_let ?_
      refine hself _ _ _ ⟨ty1, z :: st, by omega, by omega, by rw [List.length_cons]; omega, ?_, o3, o2, hvt1, hev1, fun c hc => by rw [pst_f hc]; exact hfr c hc⟩ (by omega)
      rw [List.length_cons, la_snoc, List.reverse_cons, show (0 : Int) + ((st.length : Nat) : Int) = top from by omega, pst_s, ← hla]
      congr 1
      exact la_congr (fun i h0 h1 => pst_i (by omega))
    unfold ctr
    by_cases c1 : v ≤ 9999
    · rw [if_pos c1, pw_of (z := v) (by omega) (by omega), pw_of (z := top) (by omega) (by omega), pw_of (z := 16) (by omega) (by omega)]
      refine t_neg (by omega) ?_
      refine t_pos (by omega) ?_
      refine t_Re (v := v) ?_ ?_
      · unfold f_X5_valueOf
        rw [eL, pw_of (z := v - 10000) (by omega) (by omega), if_pos (by omega)]
      · have := push v (by unfold rst; rw [if_pos c1])
        rwa [pw_of (z := top) (by omega) (by omega)] at this
    · rw [if_neg c1]
      by_cases c2 : 10020 ≤ v
      · rw [if_pos c2, pw_of (z := v - 20) (by omega) (by omega), pw_of (z := top) (by omega) (by omega), pw_of (z := 16) (by omega) (by omega)]
        refine t_neg (by omega) ?_
        refine t_pos (by omega) ?_
        refine t_Re (v := W (v - 10020)) ?_ ?_
        · unfold f_X5_valueOf
          rw [eL, show v - 20 - 10000 = v - 10020 from by omega, pw_of (z := v - 10020) (by omega) (by omega), hln, pw_of (z := 10) (by omega) (by omega), if_neg (by omega), if_neg (by omega), eC (by omega), hfr fc (by omega), hW _ (by omega) (by omega)]
        · have := push (W (v - 10020)) (by unfold rst; rw [if_neg c1, if_pos c2])
          rwa [pw_of (z := top) (by omega) (by omega)] at this
      · rw [if_neg c2, pw_of (z := 10000 - v) (by omega) (by omega)]
        obtain ⟨b1, a1, t1, rfl⟩ := tstep_two o1 (by omega)
        obtain ⟨y, x, q, rfl⟩ := vty_two hvt
        have hx := vty_nb hvt x (by simp)
        have hy := vty_nb hvt y (by simp)
        have hrst : rst W v (y :: x :: q) = rop v x y :: q := by unfold rst; rw [if_neg (by omega), if_neg (by omega)]
        rw [hrst] at hvt1 hlen1 hev1
        simp only [List.length_cons] at htop hlen htl
        have hla' : la (M5 (rl + 5)) 0 (q.length + 1 + 1) = (q.reverse ++ [x]) ++ [y] := by
          have := hla
          rw [List.reverse_cons, List.reverse_cons] at this
          exact this
        obtain ⟨l1, l2⟩ := la_top hla'
        obtain ⟨l3, l4⟩ := la_top l1
        rw [pw_of (z := 2) (by omega) (by omega), pw_of (z := top) (by omega) (by omega)]
        refine t_pos (by omega) ?_
        refine t_pos (by omega) ?_
        refine t_let ?_
        rw [pw_of (z := top + -1 - 1) (by omega) (by omega), pw_of (z := top + -1) (by omega) (by omega)]
        refine t_ck (by omega) ?_
        refine t_ck (by omega) ?_
        rw [show top + -1 - 1 = (q.length : Int) from by omega, show top + -1 = ((q.length + 1 : Nat) : Int) from by omega, l2, l4, pw_of (z := x) (by omega) (by omega), pw_of (z := y) (by omega) (by omega)]
        refine t_Re (c_joined (by omega) hx hy (fun h7 => tstep_bool o1 hvt h7 (by omega))) ?_
        refine t_ck (by omega) ?_
        refine t_let ?_
        refine t_let ?_
        refine hself _ _ _ ⟨ty1, rop v x y :: q, by omega, by omega, by rw [List.length_cons], ?_, o3, o2, hvt1, hev1, fun c hc => by rw [pst_f hc]; exact hfr c hc⟩ (by omega)
        rw [List.length_cons, la_snoc, List.reverse_cons, show (0 : Int) + ((q.length : Nat) : Int) = (q.length : Int) from by omega, pst_s, ← l3]
        congr 1
        exact la_congr (fun i h0 h1 => pst_i (by omega))
set_option maxHeartbeats 4000000 in
theorem c_amount {e r fc s : Int} {M : jM} {P T N : Int → Int} (he : e = 3 ∨ e = 56) (hfc : 117 ≤ fc) (hln : jln fc = 10) (hT : bT T) (hs : 0 ≤ s ∧ s < 6) (hr : 0 ≤ r ∧ r < T 3) (hR : rRl e M T r) (hW : ∀ w, 0 ≤ w → w < 10 → M fc w = q_word P T N s w) :
    jT (f_X5_amount (e + 7) r fc M) (fun p => p.1 = q_rule P T N s r ∧ ∀ c, c ≠ e + 12 → p.2 c = M c) := by
  have t3 := hT.2.2.2.1
  have hWb := q_word_b (P := P) (N := N) hT hs
  obtain ⟨n1, n2, q1, q2, q3, q4, q5, q6, q7, q8, q9⟩ := hR
  unfold f_X5_amount
  rw [show e + 7 + 2 = e + 9 from by omega, show e + 7 + 3 = e + 10 from by omega, show e + 7 + 4 = e + 11 from by omega, pw_of (z := r) (by omega) (by omega), q2, q3]
  generalize hA : M (e + 9) r = A at q1 q2 q3 q4 q7
  generalize ha : T (482 + r) = a at q5 q7 q8 q9
  refine t_ck (by omega) ?_
  refine t_ck (by omega) ?_
  refine t_k ?_
  rw [pw_of (z := A + n1 + n2) (by omega) (by omega), pw_of (z := A + n1) (by omega) (by omega)]
  have sumP : ∀ M5 : jM, (∀ c, c ≠ e + 12 → M5 c = M c) → (∀ x, ev (q_word P T N s) (la T (489 + a) n1) [] = [x] → vty [true] [x] → max 0 (min 9999 x) = q_rule P T N s r) → jT (
      jck (0 ≤ r ∧ r < 6) <|
      jck (0 ≤ r ∧ r < 6) <|
      jbW (f_X5_workOut (e + 7) (M5 (e + 9) r) (M5 (e + 10) r) fc M5) fun v11 M10 =>
      jbR (f_J9_min_7cf53 9999 v11) fun v13 =>
      jbR (f_J9_max_7cf53 0 v13) fun v15 =>
      some (v15, M10)) (fun p => p.1 = q_rule P T N s r ∧ ∀ c, c ≠ e + 12 → p.2 c = M c) := by
    intro M5 hf5 hx
    refine t_ck (by omega) ?_
    refine t_ck (by omega) ?_
    rw [hf5 (e + 9) (by omega), hf5 (e + 10) (by omega), hA, q2]
    refine t_W (t_mono (c_work (rl := e + 7) (fc := fc) (from_ := A) (a := 489 + a) (n := n1) (M := M5) (T := T) (W := q_word P T N s) (tau := true) (by omega) (by omega) hln q1 (by omega) (fun w h0 h1 => by rw [hf5 fc (by omega)]; exact hW w h0 h1) hWb (fun i h0 h1 => by
      rw [show e + 7 + 1 = e + 8 from by omega, hf5 (e + 8) (by omega)]
      exact (q7 i h0 (by omega)).1) q8 (fun i h0 h1 => (q7 i h0 (by omega)).2)) (fun p hp => ?_))
    obtain ⟨hp1, hp2, hp3⟩ := hp
    have hb := hp2.1
    rw [if_pos rfl] at hb
    refine t_Re (e_min (by omega) (by omega)) ?_
    refine t_Re (e_max (by omega) (by omega)) ?_
    refine t_some ⟨hx p.1 hp1 hp2, fun c hc => ?_⟩
    show p.2 c = _
    rw [hp3 c (by omega)]
    exact hf5 c hc
  have hq : q_rule P T N s r = max 0 (min 9999 ((ev (q_word P T N s) (la T (489 + a) (T (482 + r + 1) - a).toNat) []).headD 0)) := by
    unfold q_rule
    rw [ha]
  rcases q9 with ⟨c1, c2⟩ | ⟨c1, c2, c3, c4⟩
  · refine t_pos (by omega) ?_
    refine t_k ?_
    refine t_pos (by decide) ?_
    refine sumP M (fun _ _ => rfl) (fun x hx _ => ?_)
    rw [hq, show (T (482 + r + 1) - a).toNat = n1 from by omega, hx]
    rfl
  · refine t_neg (by omega) ?_
    refine t_k ?_
    refine t_neg (by decide) ?_
    refine t_ck (by omega) ?_
    refine t_ck (by omega) ?_
    refine t_W (t_mono (c_work (rl := e + 7) (fc := fc) (from_ := A + n1) (a := 489 + a + n1) (n := n2) (M := M) (T := T) (W := q_word P T N s) (tau := false) (by omega) (by omega) hln (by omega) (by omega) hW hWb (fun i h0 h1 => by
      have := (q7 (n1 + i) (by omega) (by omega)).1
      rw [show e + 7 + 1 = e + 8 from by omega, show A + n1 + i = A + (n1 + i) from by omega, show 489 + a + n1 + i = 489 + a + (n1 + i) from by omega]
      exact this) c2 (fun i h0 h1 => by
      have := (q7 (n1 + i) (by omega) (by omega)).2
      rw [show 489 + a + n1 + i = 489 + a + (n1 + i) from by omega]
      exact this)) (fun p hp => ?_))
    obtain ⟨hp1, hp2, hp3⟩ := hp
    have hb := hp2.1
    rw [if_neg (by decide)] at hb
    have hev : ∀ x, ev (q_word P T N s) (la T (489 + a) n1) [] = [x] → q_rule P T N s r = max 0 (min 9999 (if p.1 = 1 then x else 0)) := fun x hx => by
      rw [hq, show (T (482 + r + 1) - a).toNat = n1 + (n2 + 1) from by omega, la_app, ev_app, hx, la_snoc, ev_app, c3]
      have := ev_base (W := q_word P T N s) (d := 14) [x] c2 (st := []) rfl
      rw [List.nil_append] at this
      rw [this, hp1]
      rfl
    have hfrm : ∀ c, c ≠ e + 12 → p.2 c = M c := fun c hc => hp3 c (by omega)
    rw [pw_of (z := p.1) (by omega) (by omega)]
    refine t_if (fun c5 => ?_) (fun c5 => ?_)
    · refine t_some ⟨?_, hfrm⟩
      have hv1 := vty_run hWb q8 (show vty [] [] from trivial)
      match hh : ev (q_word P T N s) (la T (489 + a) n1) [], hv1 with
      | [x], _ =>
        rw [hev x hh, if_neg (by omega)]
        rfl
    · refine sumP p.2 hfrm (fun x hx _ => ?_)
      rw [hev x hx, if_pos (by omega)]
