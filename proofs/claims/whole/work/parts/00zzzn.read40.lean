/-! ===== reading: the reference begins and ends ===== -/
def u72 (j : Int) : Int := if j = 964 then 1 else if j = 965 then 120 else if j = 966 then 10 else if j = 967 then 2 else if 968 ≤ j then 100 else 0
def us0 (M M' : jM) : Prop := (∀ a, a ≠ 171 → a ≠ 172 → M' a = M a) ∧ (∀ j, 0 ≤ j → j < 1089 → M' 171 j = if j = 2 then 5 else 0) ∧ ∀ j, 0 ≤ j → j < 971 → M' 172 j = u72 j
theorem e_usual (M : jM) : jT (f_X10_usual M) (us0 M) := by
  unfold f_X10_usual
  refine t_lp2 (fun l M' => 0 ≤ l ∧ l ≤ 1089 ∧ (∀ a, a ≠ 171 → a ≠ 172 → M' a = M a) ∧ ∀ j, 0 ≤ j → j < l → M' 171 j = 0) (fun l _ => (1089 - l).toNat) ?_ jfuel 0 _ ?_ ⟨by decide, by decide, fun _ _ _ => rfl, fun j q0 q1 => by omega⟩
  · intro self l M1 hI hself
    obtain ⟨l0, l6, h1, h2⟩ := hI
    rw [pw_of (z := 1089) (by omega) (by omega), pw_of (z := l) (by omega) (by omega)]
    refine t_if (fun c => ?_) (fun c => ?_)
    · have : l = 1089 := by omega
      subst this
      clear hself
      refine t_lp2 (fun l M' => 0 ≤ l ∧ l ≤ 971 ∧ (∀ a, a ≠ 171 → a ≠ 172 → M' a = M a) ∧ (∀ j, 0 ≤ j → j < 1089 → M' 171 j = 0) ∧ ∀ j, 0 ≤ j → j < l → M' 172 j = 0) (fun l _ => (971 - l).toNat) ?_ jfuel 0 _ ?_ ⟨by decide, by decide, h1, h2, fun j q0 q1 => by omega⟩
      · intro self l M2 hI hself
        obtain ⟨l0, l6, h1, h2, h3⟩ := hI
        rw [pw_of (z := 971) (by omega) (by omega), pw_of (z := l) (by omega) (by omega)]
        refine t_if (fun c => ?_) (fun c => ?_)
        · have : l = 971 := by omega
          subst this
          clear hself
          rw [pw_of (z := 2) (by omega) (by omega), pw_of (z := 964) (by omega) (by omega), pw_of (z := 965) (by omega) (by omega), pw_of (z := 966) (by omega) (by omega), pw_of (z := 967) (by omega) (by omega)]
          refine t_ck (by decide) (t_let (t_ck (by decide) (t_let (t_ck (by decide) (t_let (t_ck (by decide) (t_let (t_ck (by decide) (t_let ?_)))))))))
          refine t_lp2 (fun l M' => 0 ≤ l ∧ l ≤ 3 ∧ (∀ a, a ≠ 171 → a ≠ 172 → M' a = M a) ∧ (∀ j, 0 ≤ j → j < 1089 → M' 171 j = if j = 2 then 5 else 0) ∧ ∀ j, 0 ≤ j → j < 968 + l → M' 172 j = u72 j) (fun l _ => (3 - l).toNat) ?_ jfuel 0 _ ?_ ⟨by decide, by decide, fun a b0 b1 => ?_, fun j q0 q1 => ?_, fun j q0 q1 => ?_⟩
          · intro self l M3 hI hself
            obtain ⟨l0, l6, h1, h2, h3⟩ := hI
            rw [pw_of (z := 3) (by omega) (by omega), pw_of (z := l) (by omega) (by omega)]
            refine t_if (fun c => ?_) (fun c => ?_)
            · have : l = 3 := by omega
              subst this
              exact t_some ⟨h1, h2, h3⟩
            · rw [pw_of (z := 968 + l) (by omega) (by omega)]
              refine t_ck (by omega) (t_let (t_let (hself (l + 1) _ ⟨by omega, by omega, fun a b0 b1 => ?_, fun j q0 q1 => ?_, fun j q0 q1 => ?_⟩ (by omega))))
              · rw [pst_f b1]; exact h1 a b0 b1
              · rw [pst_c (by decide)]; exact h2 j q0 q1
              · rw [pst_a]
                by_cases c2 : j = 968 + l
                · rw [if_pos c2]
                  unfold u72
                  rw [if_neg (by omega), if_neg (by omega), if_neg (by omega), if_neg (by omega), if_pos (by omega)]
                · rw [if_neg c2]
                  exact h3 j q0 (by omega)
          · rw [jfuel_eq]; decide
          · rw [pst_f b1, pst_f b1, pst_f b1, pst_f b1, pst_f b0]
            exact h1 a b0 b1
          · rw [pst_c (by decide), pst_c (by decide), pst_c (by decide), pst_c (by decide), pst_a, h2 j q0 q1]
          · rw [pst_a, pst_a, pst_a, pst_a, pst_c (by decide), h3 j q0 (by omega)]
            unfold u72
            by_cases c1 : j = 964
            · rw [if_neg (by omega), if_neg (by omega), if_neg (by omega), if_pos c1, if_pos c1]
            · rw [if_neg (show ¬ j = 964 from c1), if_neg (show ¬ j = 964 from c1)]
              by_cases c2 : j = 965
              · rw [if_neg (by omega), if_neg (by omega), if_pos c2, if_pos c2]
              · rw [if_neg (show ¬ j = 965 from c2), if_neg (show ¬ j = 965 from c2)]
                by_cases c3 : j = 966
                · rw [if_neg (by omega), if_pos c3, if_pos c3]
                · rw [if_neg (show ¬ j = 966 from c3), if_neg (show ¬ j = 966 from c3)]
                  by_cases c4 : j = 967
                  · rw [if_pos c4, if_pos c4]
                  · rw [if_neg c4, if_neg c4, if_neg (by omega)]
        · refine t_ck (by omega) (t_let (t_let (hself (l + 1) _ ⟨by omega, by omega, fun a b0 b1 => ?_, fun j q0 q1 => ?_, fun j q0 q1 => ?_⟩ (by omega))))
          · rw [pst_f b1]; exact h1 a b0 b1
          · rw [pst_c (by decide)]; exact h2 j q0 q1
          · rw [pst_a]
            split
            · rfl
            · exact h3 j q0 (by omega)
      · rw [jfuel_eq]; decide
    · refine t_ck (by omega) (t_let (t_let (hself (l + 1) _ ⟨by omega, by omega, fun a b0 b1 => ?_, fun j q0 q1 => ?_⟩ (by omega))))
      · rw [pst_f b0]; exact h1 a b0 b1
      · rw [pst_a]
        split
        · rfl
        · exact h2 j q0 (by omega)
  · rw [jfuel_eq]; decide
def tk0 (M M' : jM) : Prop := (∀ a, a ≠ 169 → a ≠ 170 → M' a = M a) ∧ (∀ j, 0 ≤ j → j < 1089 → M' 169 j = M 171 j) ∧ ∀ j, 0 ≤ j → j < 971 → M' 170 j = M 172 j
theorem e_taken (M : jM) : jT (f_X10_taken M) (tk0 M) := by
  unfold f_X10_taken
  refine t_lp2 (fun l M' => 0 ≤ l ∧ l ≤ 1089 ∧ (∀ a, a ≠ 169 → a ≠ 170 → M' a = M a) ∧ ∀ j, 0 ≤ j → j < l → M' 169 j = M 171 j) (fun l _ => (1089 - l).toNat) ?_ jfuel 0 _ ?_ ⟨by decide, by decide, fun _ _ _ => rfl, fun j q0 q1 => by omega⟩
  · intro self l M1 hI hself
    obtain ⟨l0, l6, h1, h2⟩ := hI
    rw [pw_of (z := 1089) (by omega) (by omega), pw_of (z := l) (by omega) (by omega)]
    refine t_if (fun c => ?_) (fun c => ?_)
    · have : l = 1089 := by omega
      subst this
      clear hself
      refine t_lp2 (fun l M' => 0 ≤ l ∧ l ≤ 971 ∧ (∀ a, a ≠ 169 → a ≠ 170 → M' a = M a) ∧ (∀ j, 0 ≤ j → j < 1089 → M' 169 j = M 171 j) ∧ ∀ j, 0 ≤ j → j < l → M' 170 j = M 172 j) (fun l _ => (971 - l).toNat) ?_ jfuel 0 _ ?_ ⟨by decide, by decide, h1, h2, fun j q0 q1 => by omega⟩
      · intro self l M2 hI hself
        obtain ⟨l0, l6, h1, h2, h3⟩ := hI
        rw [pw_of (z := 971) (by omega) (by omega), pw_of (z := l) (by omega) (by omega)]
        refine t_if (fun c => ?_) (fun c => ?_)
        · have : l = 971 := by omega
          subst this
          exact t_some ⟨h1, h2, h3⟩
        · refine t_ck (by omega) (t_ck (by omega) (t_let (t_let (hself (l + 1) _ ⟨by omega, by omega, fun a b0 b1 => ?_, fun j q0 q1 => ?_, fun j q0 q1 => ?_⟩ (by omega)))))
          · rw [pst_f b1]; exact h1 a b0 b1
          · rw [pst_c (by decide)]; exact h2 j q0 q1
          · rw [pst_a]
            split
            · rename_i c2
              rw [h1 172 (by decide) (by decide), c2]
            · exact h3 j q0 (by omega)
      · rw [jfuel_eq]; decide
    · refine t_ck (by omega) (t_ck (by omega) (t_let (t_let (hself (l + 1) _ ⟨by omega, by omega, fun a b0 b1 => ?_, fun j q0 q1 => ?_⟩ (by omega)))))
      · rw [pst_f b0]; exact h1 a b0 b1
      · rw [pst_a]
        split
        · rename_i c2
          rw [h1 171 (by decide) (by decide), c2]
        · exact h2 j q0 (by omega)
  · rw [jfuel_eq]; decide
/-! rows that agree where they are looked at -/
theorem rRl_t {e r : Int} {M : jM} {T T' : Int → Int} (h : rRl e M T r) (hr : 0 ≤ r ∧ r < 6) (ht : ∀ j, 0 ≤ j → j < 1089 → T' j = T j) : rRl e M T' r := by
  obtain ⟨n1, n2, a1, a2, a3, a4, a5, a6, a7, a8, a9⟩ := h
  have hle : T (482 + r) + (n1 : Int) + (n2 : Int) ≤ T (482 + r + 1) := by rcases a9 with q | q <;> omega
  refine ⟨n1, n2, ?_⟩
  rw [ht (482 + r) (by omega) (by omega), ht (482 + r + 1) (by omega) (by omega)]
  refine ⟨a1, a2, a3, a4, a5, a6, fun i q0 q1 => ?_, ?_, ?_⟩
  · rw [ht (489 + T (482 + r) + i) (by omega) (by omega)]
    exact a7 i q0 q1
  · rw [la_congr (f := T') (g := T) (fun i q0 q1 => ht i (by omega) (by omega))]
    exact a8
  · rcases a9 with q | q
    · exact Or.inl q
    · refine Or.inr ⟨q.1, ?_, ?_, q.2.2.2⟩
      · rw [la_congr (f := T') (g := T) (fun i q0 q1 => ht i (by omega) (by omega))]
        exact q.2.1
      · rw [ht _ (by omega) (by omega)]
        exact q.2.2.1
theorem cE_t {e : Int} {M : jM} {T T' N N' : Int → Int} (h : cE e M T N) (ht : ∀ j, 0 ≤ j → j < 1089 → T' j = T j) (hn : ∀ j, 0 ≤ j → j < 971 → N' j = N j) : cE e M T' N' := by
  obtain ⟨he, hT, hN, hL, ⟨a1, a2, a3, a4, a5, a6, a7, a8, a9, a10⟩⟩ := h
  have t0 := hT.1
  have t1 := hT.2.1
  have t3 := hT.2.2.2.1
  have e0 := ht 0 (by decide) (by decide)
  have e1 := ht 1 (by decide) (by decide)
  have e2 := ht 2 (by decide) (by decide)
  have e3 := ht 3 (by decide) (by decide)
  refine ⟨he, ?_, ?_, ?_, ⟨?_, ?_, ?_, ?_, ?_, ?_, ?_, ?_, ?_, ?_⟩⟩
  · obtain ⟨b0, b1, b2, b3, b4, b5, b6, b7, b8, b9⟩ := hT
    refine ⟨by rw [e0]; exact b0, by rw [e1]; exact b1, by rw [e2]; exact b2, by rw [e3]; exact b3, fun i q0 q1 => ?_, fun i q0 q1 => ?_, fun i q0 q1 => ?_, fun i q0 q1 => ?_, fun i q0 q1 => ?_, fun i q0 q1 => ?_⟩
    · rw [ht _ (by omega) (by omega)]; exact b4 i q0 q1
    · rw [ht _ (by omega) (by omega)]; exact b5 i q0 q1
    · rw [ht _ (by omega) (by omega)]; exact b6 i q0 q1
    · rw [ht _ (by omega) (by omega)]; exact b7 i q0 q1
    · rw [ht _ (by omega) (by omega)]; exact b8 i q0 q1
    · rw [ht _ (by omega) (by omega)]; exact b9 i q0 q1
  · obtain ⟨b0, b1, b2, b3, b4, b5, b6, b7, b8, b9⟩ := hN
    refine ⟨fun i q0 q1 => ?_, fun i q0 q1 => ?_, fun i q0 q1 => ?_, fun i q0 q1 => ?_, fun i q0 q1 => ?_, ?_, ?_, ?_, ?_, fun i q0 q1 => ?_⟩
    · rw [hn _ (by omega) (by omega)]; exact b0 i q0 q1
    · rw [hn _ (by omega) (by omega)]; exact b1 i q0 q1
    · rw [hn _ (by omega) (by omega)]; exact b2 i q0 q1
    · rw [hn _ (by omega) (by omega)]; exact b3 i q0 q1
    · rw [hn _ (by omega) (by omega)]; exact b4 i q0 q1
    · rw [hn _ (by omega) (by omega)]; exact b5
    · rw [hn _ (by omega) (by omega)]; exact b6
    · rw [hn _ (by omega) (by omega)]; exact b7
    · rw [hn _ (by omega) (by omega)]; exact b8
    · rw [hn _ (by omega) (by omega)]; exact b9 i q0 q1
  · exact bL_c hT hL (by omega) e1 (fun j q0 q1 => ht j (by omega) (by omega))
  · rw [e2]; exact a1
  · intro i q0 q1
    rw [hn _ (by omega) (by omega)]; exact a2 i q0 q1
  · rw [e0]; exact a3
  · rw [e1]; exact a4
  · rw [e3]; exact a5
  · rw [e0]; exact rNm_c a6 (fun j q0 q1 => ht j (by omega) (by omega))
  · rw [e1]; exact rNm_c a7 (fun j q0 q1 => ht j (by omega) (by omega))
  · intro i q0 q1
    rw [e0] at q1
    rw [hn _ (by omega) (by omega), ht (4 + i) (by omega) (by omega)]
    exact a8 i q0 q1
  · intro r q0 q1
    rw [e3] at q1
    exact rRl_t (a9 r q0 q1) ⟨q0, by omega⟩ ht
  · intro s q0 q1
    rw [e1] at q1
    have hk := a10 s q0 q1
    exact rSk_c hT ⟨q0, by omega⟩ hk (by rw [ht (110 + s) (by omega) (by omega)]; exact hk.2.2.1) rfl rfl (fun _ _ _ => rfl) (fun j b => ht j (by omega) (by omega)) (fun j b => hn j (by omega) (by omega))
theorem jst2_v : jstt 2 0 = 1 ∧ jstt 2 1 = 120 ∧ jstt 2 2 = 10 ∧ jstt 2 3 = 2 ∧ jstt 2 4 = 100 ∧ jstt 2 5 = 100 ∧ jstt 2 6 = 100 := by decide +kernel
theorem u72_s {i : Int} (h : 0 ≤ i ∧ i < 7) : jstt 2 i = u72 (964 + i) := by
  obtain ⟨v0, v1, v2, v3, v4, v5, v6⟩ := jst2_v
  rcases (by omega : i = 0 ∨ i = 1 ∨ i = 2 ∨ i = 3 ∨ i = 4 ∨ i = 5 ∨ i = 6) with q | q | q | q | q | q | q <;> subst q
  · rw [v0]; decide
  · rw [v1]; decide
  · rw [v2]; decide
  · rw [v3]; decide
  · rw [v4]; decide
  · rw [v5]; decide
  · rw [v6]; decide
theorem u72_0 {j : Int} (h : j < 964) : u72 j = 0 := by
  unfold u72
  rw [if_neg (by omega), if_neg (by omega), if_neg (by omega), if_neg (by omega), if_neg (by omega)]
theorem evT_0 {e p : Int} {M0 M : jM} {T N : Int → Int} (hp : 0 ≤ p) (h : ev0 e M0 M) (hs : ∀ s, 0 ≤ s → s < 6 → sk0 (e + 16 + 1 + 6 * s) M) (ht : ∀ j, 0 ≤ j → j < 1089 → T j = if j = 2 then 5 else 0) (hn : ∀ j, 0 ≤ j → j < 971 → N j = u72 j) : evT e p 0 M T N := by
  obtain ⟨-, -, -, a4, a5, a6, a7, a8, a9⟩ := h
  have tz : ∀ j, 0 ≤ j → j < 1089 → j ≠ 2 → T j = 0 := fun j q0 q1 q2 => by rw [ht j q0 q1, if_neg q2]
  have t2 : T 2 = 5 := by rw [ht 2 (by decide) (by decide)]; rfl
  have t0 := tz 0 (by decide) (by decide) (by decide)
  have t1 := tz 1 (by decide) (by decide) (by decide)
  have t3 := tz 3 (by decide) (by decide) (by decide)
  have nz : ∀ j, 0 ≤ j → j < 964 → N j = 0 := fun j q0 q1 => by rw [hn j q0 (by omega), u72_0 q1]
  have tc : T (482 + T 3) = 0 := by rw [t3]; exact tz _ (by decide) (by decide) (by decide)
  have nv : ∀ j v, 0 ≤ j → j < 971 → u72 j = v → N j = v := fun j v q0 q1 q => by rw [hn j q0 q1, q]
  refine ⟨⟨by omega, by omega, by omega, by omega, fun i q0 q1 => ?_, fun i q0 q1 => ?_, fun i q0 q1 => ?_, fun i q0 q1 => ?_, fun i q0 q1 => ?_, fun i q0 q1 => ?_⟩, ⟨fun i q0 q1 => ?_, fun i q0 q1 => ?_, fun i q0 q1 => ?_, fun i q0 q1 => ?_, fun i q0 q1 => ?_, ?_, ?_, ?_, ?_, fun i q0 q1 => ?_⟩, fun s k q0 q1 => by omega, ⟨?_, fun i q0 q1 => ?_, ?_, ?_, ?_, fun i q0 q1 => by omega, fun i q0 q1 => by omega, fun i q0 q1 => by omega, fun r q0 q1 => by omega⟩, fun s q0 q1 => ?_, fun s q0 q1 => tz _ (by omega) (by omega) (by omega), fun i q0 q1 => nz _ (by omega) (by omega), ⟨by omega, by omega, by omega, fun r q0 q1 => by omega⟩, Or.inl rfl, fun _ s q0 q1 => ⟨tz _ (by omega) (by omega) (by omega), fun c j c0 c1 j0 j1 => ?_⟩⟩
  · rw [tz _ (by omega) (by omega) (by omega)]; decide
  · rw [tz _ (by omega) (by omega) (by omega)]; decide
  · rw [tz _ (by omega) (by omega) (by omega)]; decide
  · rw [tz _ (by omega) (by omega) (by omega)]; decide
  · rw [tz _ (by omega) (by omega) (by omega)]; decide
  · rw [tz _ (by omega) (by omega) (by omega)]; decide
  · rw [nz _ (by omega) (by omega)]; decide
  · rw [nz _ (by omega) (by omega)]; decide
  · rw [nz _ (by omega) (by omega)]; decide
  · rw [nz _ (by omega) (by omega)]; decide
  · rw [nz _ (by omega) (by omega)]; decide
  · rw [nv 964 1 (by decide) (by decide) (by decide)]; decide
  · rw [nv 965 120 (by decide) (by decide) (by decide)]; decide
  · rw [nv 966 10 (by decide) (by decide) (by decide)]; decide
  · rw [nv 967 2 (by decide) (by decide) (by decide)]; decide
  · have : u72 (968 + i) = 100 := by
      unfold u72
      rw [if_neg (by omega), if_neg (by omega), if_neg (by omega), if_neg (by omega), if_pos (by omega)]
    rw [nv _ 100 (by omega) (by omega) this]; decide
  · rw [a4, t2]
  · rw [a5 i q0 q1, hn _ (by omega) (by omega)]; exact u72_s ⟨q0, q1⟩
  · rw [a6, t0]
  · rw [a7, t1]
  · rw [a8, t3]
  · obtain ⟨s1, s2, s3, s4⟩ := hs s q0 q1
    have ts := tz (116 + s) (by omega) (by omega) (by omega)
    refine ⟨by rw [s1, ts], by rw [s2, ts]; rfl, by rw [s3, tz (110 + s) (by omega) (by omega) (by omega)], fun k k0 k1 => by omega, fun c j c0 c1 j0 j1 => ?_⟩
    rw [s4 _ (by omega) (by omega), nz _ (by omega) (by omega)]
  · obtain ⟨s1, s2, s3, s4⟩ := hs s q0 q1
    rw [s4 _ (by omega) (by omega), nz _ (by omega) (by omega)]
/-! both from the start to the end of the loop -/
def BW (W : jM) : jM := jst (jst (jst (jst (jst (jst (jst W 166 0 0) 166 6 (W 166 2)) 166 2 0) 166 4 0) 166 7 (-1)) 166 13 0) 166 14 0
theorem rd_u (W : jM) : f_X10_read W = jbV (f_X10_usual (BW W)) fun M9 => jbV (f_X10_blanks M9) fun M11 => jlp1 FrL jfuel M11 := by
  have h : jst W 166 0 0 166 2 = W 166 2 := pst_i (by decide)
  unfold f_X10_read jlet
  dsimp only
  rw [h]
  rfl
theorem BW_f {W : jM} {a : Int} (h : a ≠ 166) : BW W a = W a := by
  unfold BW
  rw [pst_f h, pst_f h, pst_f h, pst_f h, pst_f h, pst_f h, pst_f h]
theorem BW_j {W : jM} {j : Int} (h : j ≠ 0 ∧ j ≠ 6 ∧ j ≠ 2 ∧ j ≠ 4 ∧ j ≠ 7 ∧ j ≠ 13 ∧ j ≠ 14) : BW W 166 j = W 166 j := by
  unfold BW
  rw [pst_i h.2.2.2.2.2.2, pst_i h.2.2.2.2.2.1, pst_i h.2.2.2.2.1, pst_i h.2.2.2.1, pst_i h.2.2.1, pst_i h.2.1, pst_i h.1]
theorem BW_v (W : jM) : BW W 166 0 = 0 ∧ BW W 166 6 = W 166 2 ∧ BW W 166 2 = 0 ∧ BW W 166 4 = 0 ∧ BW W 166 7 = -1 ∧ BW W 166 13 = 0 ∧ BW W 166 14 = 0 := by
  unfold BW
  refine ⟨?_, ?_, ?_, ?_, ?_, ?_, ?_⟩
  · rw [pst_i (by decide), pst_i (by decide), pst_i (by decide), pst_i (by decide), pst_i (by decide), pst_i (by decide), pst_s]
  · rw [pst_i (by decide), pst_i (by decide), pst_i (by decide), pst_i (by decide), pst_i (by decide), pst_s]
  · rw [pst_i (by decide), pst_i (by decide), pst_i (by decide), pst_i (by decide), pst_s]
  · rw [pst_i (by decide), pst_i (by decide), pst_i (by decide), pst_s]
  · rw [pst_i (by decide), pst_i (by decide), pst_s]
  · rw [pst_i (by decide), pst_s]
  · rw [pst_s]
theorem read_pair {e n : Int} {tx : Int → Int} {C W : jM} (he : e = 3 ∨ e = 56) (hO : okT tx n) (ht : ∀ i, 0 ≤ i → i < n → C 2 i = tx i) (h10 : C (e + 2) 0 = 10) (h6 : C (e + 13) 0 = 6) (hw2 : W 166 2 = n) (hw : ∀ i, 0 ≤ i → i < n → W 167 i = jb8 (tx i)) : ∃ Mc' Mr', LE e tx n C (BW W) Mc' Mr' ∧ f_X4_faultOf n e C = some (Mc' 109 7, Mc') ∧ ∀ P, jT (KR Mr') P → jT (f_X10_read W) P := by
  have n6 := hO.2.1
  have n0 := hO.1
  obtain ⟨b0, b6, b2, b4, b7, b13, b14⟩ := BW_v W
  have hB : rTx tx n (BW W) := ⟨by rw [b6]; exact hw2, fun i q0 q1 => by rw [BW_f (by decide)]; exact hw i q0 q1⟩
  have hR : rc e tx n C (BW W) := ⟨he, hO, hB, h10, h6⟩
  obtain ⟨Mc, hMc, c1, c2, c3, M0, c4, c5⟩ := c_start he hO ht
  obtain ⟨M9, hM9, u1, u2, u3⟩ := e_usual (BW W)
  have x9 : M9 166 = BW W 166 := u1 166 (by decide) (by decide)
  have f9 : frR (BW W) M9 := ⟨fun a _ q1 q2 => u1 a q1 q2, fun j _ _ _ _ _ => by rw [x9]⟩
  obtain ⟨M11, hM11, k4, k5, k6⟩ := e_blanks hO (rTx_R hB f9) (M := M9) (p := 0) (by rw [x9]; exact b4) ⟨by decide, n0⟩
  have hb := bl_b (tx := tx) (n := n) (p := 0) ⟨by decide, n0⟩
  have hrl : rLn e tx n C (BW W) (bl tx n 0) Mc M11 := by
    refine ⟨c1, ⟨?_, ?_, frR_t f9 (frR_6 k6)⟩, ?_, ?_, ?_⟩
    · unfold rAt
      rw [k4]
      exact ⟨hb.1, hb.2.1, rn_idem n0⟩
    · rw [k6.2 7 (by decide) (by decide), x9]; exact b7
    · rw [k6.2 13 (by decide) (by decide), x9]; exact b13
    · rw [k6.2 14 (by decide) (by decide), x9, b14]; exact c2
    · rw [k6.2 14 (by decide) (by decide), x9, b14, k6.1 171 (by decide), k6.1 172 (by decide)]
      exact evT_0 hb.1 c4 c5 u2 u3
  obtain ⟨Mc', Mr', l1, l2, l3⟩ := loop_pair hR 600 jfuel jfuel 0 (bl tx n 0) Mc M11 (by omega) (by rw [jfuel_eq]; decide) (by rw [jfuel_eq]; decide) (by decide) hb.1 hrl k4
  refine ⟨Mc', Mr', l1, ?_, fun P hP => ?_⟩
  · rw [fo_u, hMc]
    exact l2
  · rw [rd_u]
    exact t_Ve hM9 (t_Ve hM11 (l3 P hP))
