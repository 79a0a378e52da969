/-! ===== reading: a rule's line ===== -/
theorem la_of {f : Int → Int} : ∀ {l : List Int} {a : Int}, (∀ i : Nat, i < l.length → f (a + (i : Int)) = l.getD i 0) → la f a l.length = l := by
  intro l
  induction l with
  | nil => intro a _; rfl
  | cons x l ih =>
    intro a h
    rw [List.length_cons, la_cons]
    have h0 := h 0 (by rw [List.length_cons]; omega)
    rw [show a + ((0 : Nat) : Int) = a from by omega] at h0
    rw [h0, ih (fun i hi => ?_)]
    · rfl
    · have := h (i + 1) (by rw [List.length_cons]; omega)
      rw [show a + ((i + 1 : Nat) : Int) = a + 1 + (i : Int) from by omega] at this
      rw [this]
      rfl
theorem getD_l {l m : List Int} {i : Nat} (h : i < l.length) : (l ++ m).getD i 0 = l.getD i 0 := by
  rw [List.getD_eq_getElem?_getD, List.getD_eq_getElem?_getD, List.getElem?_append_left h]
theorem getD_r {l m : List Int} (i : Nat) : (l ++ m).getD (l.length + i) 0 = m.getD i 0 := by
  rw [List.getD_eq_getElem?_getD, List.getD_eq_getElem?_getD, List.getElem?_append_right (by omega), Nat.add_sub_cancel_left]
theorem getD_mem {l : List Int} {i : Nat} (h : i < l.length) : l.getD i 0 ∈ l := by
  rw [List.getD_eq_getElem?_getD, List.getElem?_eq_getElem h]
  exact List.getElem_mem h
theorem evT_rule {e p p' sh r u0 c0 cE : Int} {M M' : jM} {T T' N : Int → Int} {l1 l2 : List Int} (h : evT e p sh M T N) (hp : p ≤ p') (hr : T 3 = r) (hlt : r < 6) (hu : u0 = M (e + 7) 1) (hc0 : c0 = T (482 + r))
    (hM : ∀ a, e ≤ a → a ≤ e + 52 → (a < e + 7 ∨ e + 11 < a) → M' a = M a) (h70 : M' (e + 7) 0 = r + 1) (h71 : M' (e + 7) 1 = u0 + (l1.length : Int) + (l2.length : Int))
    (h8 : ∀ j, j < u0 → M' (e + 8) j = M (e + 8) j) (h8n : ∀ i : Nat, i < (l1 ++ l2).length → M' (e + 8) (u0 + (i : Int)) = ctr ((l1 ++ l2).getD i 0))
    (h9 : ∀ j, M' (e + 9) j = if j = r then u0 else M (e + 9) j) (h10 : ∀ j, M' (e + 10) j = if j = r then u0 + (l1.length : Int) else M (e + 10) j) (h11 : ∀ j, M' (e + 11) j = if j = r then u0 + (l1.length : Int) + (l2.length : Int) else M (e + 11) j)
    (t3 : T' 3 = r + 1) (tc : T' (482 + r + 1) = cE) (tt : ∀ j, j ≠ 3 → j ≠ 482 + r + 1 → j < 489 + c0 → T' j = T j) (tl : ∀ i : Nat, i < (l1 ++ l2).length → T' (489 + c0 + (i : Int)) = (l1 ++ l2).getD i 0)
    (ok1 : okc 14 l1 [] [true]) (n9 : ∀ x ∈ l1 ++ l2, x ≠ 10009)
    (ok2 : l2.length = 0 ∧ cE = c0 + (l1.length : Int) ∨ 0 < l2.length ∧ okc 14 l2 [] [false] ∧ T' (489 + c0 + (l1.length : Int) + (l2.length : Int)) = 10009 ∧ cE = c0 + (l1.length : Int) + (l2.length : Int) + 1)
    (hcE : cE ≤ p') (hp6 : p' ≤ 600) : evT e p' sh M' T' N := by
  obtain ⟨bt, bn, bl, ⟨a1, a2, a3, a4, a5, a6, a7, a8, a9⟩, hS, h0, hg, hc, hs, hm⟩ := h
  have t0 := bt.1
  have t1 := bt.2.1
  have t3' := bt.2.2.2.1
  rw [hr] at hc
  rw [← hu, ← hc0] at hc
  have hB := hc.2.2.2
  unfold rlB at hB
  rw [hr, ← hu, ← hc0] at hB
  have hll : ((l1 ++ l2).length : Int) = (l1.length : Int) + (l2.length : Int) := by rw [List.length_append]; omega
  have hcEl : c0 + (l1.length : Int) + (l2.length : Int) ≤ cE := by rcases ok2 with q | q <;> omega
  refine ⟨bT_r bt (fun j => ?_), bn, bL_c bt bl (by rw [tt 0 (by omega) (by omega) (by omega)]; omega) (tt 1 (by omega) (by omega) (by omega)) (fun j q0 q1 => tt j (by omega) (by omega) (by omega)), ⟨?_, ?_, ?_, ?_, ?_, ?_, ?_, ?_, fun x q0 q1 => ?_⟩, fun s q0 q1 => ?_, fun s q0 q1 => ?_, hg, ⟨?_, ?_, ?_, ?_⟩, hs, fun q s q0 q1 => ?_⟩
  · by_cases c : j = 3
    · subst c
      right
      rw [t3]
      unfold okTi
      omega
    · by_cases c1 : j ≠ 482 + r + 1 ∧ j < 489 + c0
      · exact Or.inl (tt j c c1.1 c1.2)
      · right
        unfold okTi
        omega
  · rw [hM e (by omega) (by omega) (by omega), tt 2 (by omega) (by omega) (by omega)]; exact a1
  · intro i q0 q1
    rw [hM (e + 1) (by omega) (by omega) (by omega)]; exact a2 i q0 q1
  · rw [hM (e + 2) (by omega) (by omega) (by omega), tt 0 (by omega) (by omega) (by omega)]; exact a3
  · rw [hM (e + 13) (by omega) (by omega) (by omega), tt 1 (by omega) (by omega) (by omega)]; exact a4
  · rw [h70, t3]
  · rw [hM (e + 3) (by omega) (by omega) (by omega), hM (e + 4) (by omega) (by omega) (by omega), tt 0 (by omega) (by omega) (by omega)]
    exact rNm_c a6 (fun j q0 q1 => tt j (by omega) (by omega) (by omega))
  · rw [hM (e + 14) (by omega) (by omega) (by omega), hM (e + 15) (by omega) (by omega) (by omega), tt 1 (by omega) (by omega) (by omega)]
    exact rNm_c a7 (fun j q0 q1 => tt j (by omega) (by omega) (by omega))
  · intro i q0 q1
    rw [tt 0 (by omega) (by omega) (by omega)] at q1
    rw [hM (e + 5) (by omega) (by omega) (by omega), hM (e + 6) (by omega) (by omega) (by omega), tt (4 + i) (by omega) (by omega) (by omega)]
    exact a8 i q0 q1
  · rw [t3] at q1
    by_cases c : x = r
    · subst c
      refine ⟨l1.length, l2.length, ?_⟩
      rw [h9 x, if_pos rfl, h10 x, if_pos rfl, h11 x, if_pos rfl, tc, tt (482 + x) (by omega) (by omega) (by omega), ← hc0]
      refine ⟨by omega, rfl, rfl, by omega, by omega, by omega, fun i i0 i1 => ?_, ?_, ?_⟩
      · obtain ⟨k, rfl⟩ := Int.eq_ofNat_of_zero_le i0
        have hk : k < (l1 ++ l2).length := by omega
        rw [h8n k hk, tl k hk]
        exact ⟨rfl, n9 _ (getD_mem hk)⟩
      · rw [la_of (fun i hi => by rw [tl i (by omega), getD_l hi])]
        exact ok1
      · rcases ok2 with q | q
        · exact Or.inl q
        · refine Or.inr ⟨q.1, ?_, q.2.2.1, q.2.2.2⟩
          rw [la_of (fun i hi => ?_)]
          · exact q.2.1
          · have := tl (l1.length + i) (by omega)
            rw [getD_r] at this
            rw [show 489 + c0 + (l1.length : Int) + (i : Int) = 489 + c0 + ((l1.length + i : Nat) : Int) from by omega]
            exact this
    · have hb := hB x q0 (by omega)
      obtain ⟨n1, n2, b1, b2, b3, b4, b5, b6, b7, b8, b9⟩ := a9 x q0 (by omega)
      have hle : T (482 + x) + (n1 : Int) + (n2 : Int) ≤ T (482 + x + 1) := by rcases b9 with q | q <;> omega
      refine ⟨n1, n2, ?_⟩
      rw [h9 x, if_neg c, h10 x, if_neg c, h11 x, if_neg c, tt (482 + x) (by omega) (by omega) (by omega), tt (482 + x + 1) (by omega) (by omega) (by omega)]
      refine ⟨b1, b2, b3, b4, b5, b6, fun i i0 i1 => ?_, ?_, ?_⟩
      · rw [h8 _ (by omega), tt (489 + T (482 + x) + i) (by omega) (by omega) (by omega)]
        exact b7 i i0 i1
      · rw [la_congr (f := T') (g := T) (fun i j0 j1 => tt i (by omega) (by omega) (by omega))]
        exact b8
      · rcases b9 with q | q
        · exact Or.inl q
        · refine Or.inr ⟨q.1, ?_, ?_, q.2.2.2⟩
          · rw [la_congr (f := T') (g := T) (fun i j0 j1 => tt i (by omega) (by omega) (by omega))]
            exact q.2.1
          · rw [tt _ (by omega) (by omega) (by omega)]
            exact q.2.2.1
  · have hg' : M' (e + 16 + 1 + 6 * s) = M (e + 16 + 1 + 6 * s) := hM _ (by omega) (by omega) (by omega)
    have hk := hS s q0 q1
    exact rSk_c bt ⟨q0, q1⟩ hk (by rw [hg', tt (110 + s) (by omega) (by omega) (by omega)]; exact hk.2.2.1) (by rw [hg']) (by rw [hg']) (fun a b0 b1 => hM a (by omega) (by omega) (by omega)) (fun j b => tt j (by omega) (by omega) (by omega)) (fun _ _ => rfl)
  · rw [tt 1 (by omega) (by omega) (by omega)] at q0
    rw [tt (116 + s) (by omega) (by omega) (by omega)]
    exact h0 s q0 q1
  · rw [h71]; omega
  · rw [h71, t3, show 482 + (r + 1) = 482 + r + 1 from by omega, tc]; omega
  · rw [t3, show 482 + (r + 1) = 482 + r + 1 from by omega, tc]; omega
  · intro x q0 q1
    rw [t3] at q1
    rw [h71, t3, show 482 + (r + 1) = 482 + r + 1 from by omega, tc, h11 x]
    by_cases c : x = r
    · subst c
      rw [if_pos rfl, tc]
      omega
    · have hb := hB x q0 (by omega)
      rw [if_neg c, tt (482 + x + 1) (by omega) (by omega) (by omega)]
      omega
  · rw [hM (e + 16 + 1 + 6 * s + 5) (by omega) (by omega) (by omega), tt (116 + s) (by omega) (by omega) (by omega)]
    exact hm q s q0 q1
theorem rule_fin {e n p p' r u0 c0 : Int} {tx : Int → Int} {A B M6 X Mf Rf : jM} {l1 l2 L' : List Int} (hR : rc e tx n A B) (h2 : rLn e tx n A B p M6 X) (hp : p ≤ p') (hr : X 171 3 = r) (hr6 : 0 ≤ r ∧ r < 6) (hu : u0 = M6 (e + 7) 1) (hc0 : c0 = X 171 (482 + r))
    (hc : cR e tx n A M6 u0 (l1 ++ l2) p' Mf) (hrr : rR tx n B (jst X 171 (482 + r + 1) c0) r c0 L' 0 p' Rf) (ok1 : okc 14 l1 [] [true]) (n9 : ∀ x ∈ l1 ++ l2, x ≠ 10009)
    (ok2 : l2.length = 0 ∧ L' = l1 ++ l2 ∨ 0 < l2.length ∧ okc 14 l2 [] [false] ∧ L' = (l1 ++ l2) ++ [10009]) (hcE : c0 + (L'.length : Int) ≤ p') :
    jT (f_X5_close (e + 7) u0 (u0 + (l1.length : Int)) Mf) (fun M' => rLn e tx n A B p' M' (jst Rf 171 3 (Rf 171 3 + 1))) := by
  obtain ⟨he, hO, hB, r10, r6⟩ := hR
  have n6 := hO.2.1
  obtain ⟨-, -, h13, h8, hE⟩ := h2
  obtain ⟨c1, c2, c3, c4, c5, c6, c7⟩ := hc
  obtain ⟨d1, d2, d3, d4, d5, d6, d7⟩ := hrr
  have hc00 := hE.2.2.2.2.2.2.2.1
  rw [hr, ← hu, ← hc0] at hc00
  have hM0 : Mf (e + 7) 0 = r := by rw [c6 0 (by decide), hE.2.2.2.1.2.2.2.2.1, hr]
  have hll : ((l1 ++ l2).length : Int) = (l1.length : Int) + (l2.length : Int) := by rw [List.length_append]; omega
  have hfull : f_X5_isFull (e + 7) Mf = some 0 := by
    unfold f_X5_isFull
    rw [hM0, pw_of (z := r) (by omega) (by omega), pw_of (z := 6) (by omega) (by omega), if_pos (by omega)]
  have x3 : Rf 171 3 = r := by rw [d6 3 (by omega) (by omega), pst_i (by omega), hr]
  have n7 : e + 7 ≠ e + 7 + 2 ∧ e + 7 ≠ e + 7 + 3 ∧ e + 7 ≠ e + 7 + 4 := by omega
  unfold f_X5_close
  refine t_Re hfull (t_pos (by decide) ?_)
  rw [hM0, pw_of (z := r) (by omega) (by omega)]
  refine t_ck (by omega) (t_let ?_)
  rw [pst_c n7.1, hM0, pw_of (z := r) (by omega) (by omega)]
  refine t_ck (by omega) (t_let ?_)
  rw [pst_c n7.2.1, pst_c n7.1, hM0, pw_of (z := r) (by omega) (by omega)]
  refine t_ck (by omega) (t_let ?_)
  rw [pst_c n7.2.2, pst_c n7.2.1, pst_c n7.1, pst_c n7.2.1, pst_c n7.1, hM0, c2, hll]
  refine t_let (t_some ?_)
  rw [show e + 7 + 2 = e + 9 from by omega, show e + 7 + 3 = e + 10 from by omega, show e + 7 + 4 = e + 11 from by omega]
  refine ⟨?_, rS_1 d1, ?_, ?_, ?_⟩
  · refine cS_st (cS_st (cS_st (cS_st c1 he (frC_s (by omega) (Or.inl (by omega))) (fun j _ _ => pst_c (by omega))) he (frC_s (by omega) (Or.inl (by omega))) (fun j _ _ => pst_c (by omega))) he (frC_s (by omega) (Or.inl (by omega))) (fun j _ _ => pst_c (by omega))) he (frC_s (by omega) (Or.inl (by omega))) (fun j _ _ => pst_c (by omega))
  · rw [pst_c (by decide)]
    exact d2
  · rw [pst_c (by omega), pst_c (by omega), pst_c (by omega), pst_c (by omega), pst_c (by decide), c7, d3, pst_c (by decide)]
    exact h8
  · rw [pst_c (show (166 : Int) ≠ 171 by decide), pst_f (show (172 : Int) ≠ 171 by decide), d3, pst_c (show (166 : Int) ≠ 171 by decide), d7 172 (by decide) (by decide), pst_f (show (172 : Int) ≠ 171 by decide), x3]
    have hpp : 0 ≤ p' ∧ p' ≤ n := c1.1.2.1
    refine evT_rule (l1 := l1) (l2 := l2) (u0 := u0) (c0 := c0) (cE := c0 + (L'.length : Int)) hE hp hr hr6.2 hu hc0 (fun a b0 b1 b2 => ?_) ?_ ?_ (fun j b => ?_) (fun i hi => ?_) (fun j => ?_) (fun j => ?_) (fun j => ?_) (pst_s _ _ _ _) ?_ (fun j b0 b1 b2 => ?_) (fun i hi => ?_) ok1 n9 ?_ hcE (by omega)
    · rw [pst_f (by omega), pst_f (by omega), pst_f (by omega), pst_f (by omega)]
      exact c5 a (by omega) (by omega) (by omega)
    · rw [pst_s]
    · rw [pst_i (by decide), pst_c (by omega), pst_c (by omega), pst_c (by omega), c2, hll]
      omega
    · rw [pst_c (by omega), pst_c (by omega), pst_c (by omega), pst_c (by omega)]
      exact c4 j b
    · rw [pst_c (by omega), pst_c (by omega), pst_c (by omega), pst_c (by omega)]
      exact c3 i hi
    · rw [pst_c (by omega), pst_c (by omega), pst_c (by omega), pst_a, c5 (e + 9) (by omega) (by omega) (by omega)]
    · rw [pst_c (by omega), pst_c (by omega), pst_a, pst_c (by omega), c5 (e + 10) (by omega) (by omega) (by omega)]
    · rw [pst_c (by omega), pst_a, pst_c (by omega), pst_c (by omega), c5 (e + 11) (by omega) (by omega) (by omega), Int.add_assoc]
    · rw [pst_i (by omega)]
      exact d4
    · rw [pst_i b0, d6 j b1 b2, pst_i b1]
    · rw [pst_i (by omega)]
      rcases ok2 with q | q
      · rw [d5 i (by rw [q.2]; exact hi), q.2]
      · rw [d5 i (by rw [q.2.2, List.length_append]; omega), q.2.2, getD_l hi]
    · rcases ok2 with q | q
      · refine Or.inl ⟨q.1, ?_⟩
        rw [q.2, hll]
        omega
      · refine Or.inr ⟨q.1, q.2.1, ?_, ?_⟩
        · have := d5 (l1 ++ l2).length (by rw [q.2.2, show ((l1 ++ l2) ++ [(10009 : Int)]).length = (l1 ++ l2).length + 1 from List.length_append]; omega)
          rw [q.2.2, show (l1 ++ l2).length = (l1 ++ l2).length + 0 from rfl, getD_r] at this
          rw [pst_i (by omega), show 489 + c0 + (l1.length : Int) + (l2.length : Int) = 489 + c0 + (((l1 ++ l2).length + 0 : Nat) : Int) from by omega]
          exact this
        · rw [q.2.2, List.length_append, List.length_singleton]
          omega
