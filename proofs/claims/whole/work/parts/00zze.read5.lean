/-! ===== reading: words of both ===== -/
theorem tk_lt {tx : Int → Int} {n p : Int} (hO : okT tx n) (hp : 0 ≤ p ∧ p ≤ n) : (tkK tx n p = 97 ↔ p < rn isLt tx n p) ∧ (p < rn isLt tx n p → tkE tx n p = rn isLt tx n p) := by
  unfold tkK tkE
  by_cases c : n ≤ p
  · rw [if_pos c, if_pos c, rn_end c]
    omega
  · rw [if_neg c, if_neg c]
    have hv := hO.2.2 p hp.1 (by omega)
    by_cases c1 : isLt (tx p) = true
    · rw [if_pos c1, if_pos c1]
      have := rn_b (c := isLt) (tx := tx) (n := n) (p := p + 1) (by omega)
      have h2 := rn_yes (n := n) (by omega) c1
      exact ⟨⟨fun _ => by omega, fun _ => rfl⟩, fun _ => rfl⟩
    · rw [if_neg c1, if_neg c1, rn_no c1]
      rw [isLt_i] at c1
      by_cases c2 : isDg (tx p) = true
      · rw [if_pos c2, if_pos c2]
        exact ⟨⟨fun _ => by omega, fun _ => by omega⟩, fun _ => by omega⟩
      · rw [if_neg c2, if_neg c2]
        exact ⟨⟨fun _ => by omega, fun _ => by omega⟩, fun _ => by omega⟩
theorem tkK_b {tx : Int → Int} {n p : Int} (hO : okT tx n) (hp : 0 ≤ p ∧ p ≤ n) : -1 ≤ tkK tx n p ∧ tkK tx n p ≤ 255 := by
  unfold tkK
  split
  · omega
  · split
    · omega
    · split
      · omega
      · have := hO.2.2 p hp.1 (by omega)
        omega
/-- a string of words -/
def amB (k : Int) : Prop := jsln k ≤ 200 ∧ ∀ i, 0 ≤ i → i < jsln k → 0 ≤ jsch k i ∧ jsch k i ≤ 127
theorem amF_nil {w : List Int} {idx j : Int} : amF w [] idx j = -1 := rfl
theorem c_among {tx : Int → Int} {n p k : Int} {M : jM} (h : cSt tx n p M) (hk : amB k) : f_X4_among k M = some (if p < rn isLt tx n p then amF (wd tx n p) (sw k) 0 0 else -1) := by
  obtain ⟨hO, hp, h2, ht, a4, a3, a5⟩ := h
  obtain ⟨d1, d2⟩ := tk_lt hO hp
  have hkb := tkK_b hO hp
  have hr := rn_b (c := isLt) (tx := tx) hp.2
  have n6 := hO.2.1
  have hsl := sw_len k
  have hk1 := hk.1
  have hwl := wd_len tx n p
  apply t_get
  unfold f_X4_among
  rw [a3, a4, a5, pw_of (z := tkK tx n p) (by omega) (by omega), pw_of (z := 97) (by omega) (by omega), pw_of (z := jsln k) (by omega) (by omega)]
  by_cases cL : p < rn isLt tx n p
  · have hE := d2 cL
    rw [if_pos cL, d1.2 cL, hE, pw_of (z := rn isLt tx n p - p) (by omega) (by omega), pw_of (z := -1) (by omega) (by omega), pw_of (z := 32) (by omega) (by omega)]
    refine t_lp3 (fun idx j i => 0 ≤ i ∧ i ≤ jsln k ∧ (0 ≤ idx ∧ idx ≤ i) ∧ (-1 ≤ j ∧ j ≤ rn isLt tx n p - p) ∧ amF (wd tx n p) ((sw k).drop i.toNat) idx j = amF (wd tx n p) (sw k) 0 0) (fun _ _ i => (jsln k - i).toNat) ?_ jfuel 0 0 0 (by rw [jfuel_eq]; omega) ⟨by omega, by omega, by omega, by omega, rfl⟩
    rintro self idx j i ⟨hi1, hi2, hix, hj, hF⟩ hself
    rw [pw_of (z := i) (by omega) (by omega), pw_of (z := j) (by omega) (by omega)]
    refine t_if (fun c => ?_) (fun c => ?_)
    · refine t_some ?_
      rw [← hF, List.drop_eq_nil_of_le (by omega)]
      rfl
    · have hch := hk.2 i hi1 (by omega)
      have hdr : (sw k).drop i.toNat = jsch k i :: (sw k).drop (i + 1).toNat := by
        rw [show (i + 1).toNat = i.toNat + 1 from by omega, sw_get ⟨hi1, by omega⟩, List.drop_eq_getElem_cons (by omega), List.getD_eq_getElem?_getD, List.getElem?_eq_getElem (by omega)]
        rfl
      have hF2 : amF (wd tx n p) ((sw k).drop i.toNat) idx j = if jsch k i = 32 then (if j = ((wd tx n p).length : Int) then idx else amF (wd tx n p) ((sw k).drop (i + 1).toNat) (idx + 1) 0) else if j = -1 then amF (wd tx n p) ((sw k).drop (i + 1).toNat) idx (-1) else if ((wd tx n p).length : Int) ≤ j then amF (wd tx n p) ((sw k).drop (i + 1).toNat) idx (-1) else if (wd tx n p).getD j.toNat 0 = jsch k i then amF (wd tx n p) ((sw k).drop (i + 1).toNat) idx (j + 1) else amF (wd tx n p) ((sw k).drop (i + 1).toNat) idx (-1) := by
        rw [hdr]
        rfl
      rw [hF] at hF2
      have hwl' : ((wd tx n p).length : Int) = rn isLt tx n p - p := by omega
      rw [hwl'] at hF2
      refine t_pos rfl ?_
      refine t_ck (by omega) ?_
      refine t_let ?_
      rw [pw_of (z := jsch k i) (by omega) (by omega)]
      refine t_if (fun c1 => ?_) (fun c1 => ?_)
      · rw [if_pos c1] at hF2
        refine t_if (fun c2 => ?_) (fun c2 => ?_)
        · rw [if_pos c2] at hF2
          exact t_some hF2.symm
        · rw [if_neg c2] at hF2
          refine t_let ?_
          refine t_let ?_
          exact hself _ _ _ ⟨by omega, by omega, by omega, by omega, hF2.symm⟩ (by omega)
      · rw [if_neg c1] at hF2
        refine t_k ?_
        refine t_if (fun c2 => ?_) (fun c2 => ?_)
        · rw [if_pos c2] at hF2
          refine t_let ?_
          exact hself _ _ _ ⟨by omega, by omega, by omega, by omega, hF2.symm⟩ (by omega)
        · rw [if_neg c2] at hF2
          refine t_if (fun c3 => ?_) (fun c3 => ?_)
          · rw [if_pos c3] at hF2
            refine t_let ?_
            exact hself _ _ _ ⟨by omega, by omega, by omega, by omega, hF2.symm⟩ (by omega)
          · rw [if_neg c3, wd_get (i := j.toNat) (by omega), ← pn_nat (by omega)] at hF2
            have hv := hO.2.2 (p + j) (by omega) (by omega)
            rw [pw_of (z := p + j) (by omega) (by omega), ht (p + j) (by omega) (by omega), pw_of (z := tx (p + j)) (by omega) (by omega)]
            refine t_ck (by omega) ?_
            refine t_if (fun c4 => ?_) (fun c4 => ?_)
            · rw [if_pos c4] at hF2
              refine t_let ?_
              refine t_let ?_
              exact hself _ _ _ ⟨by omega, by omega, by omega, by omega, hF2.symm⟩ (by omega)
            · rw [if_neg c4] at hF2
              refine t_let ?_
              exact hself _ _ _ ⟨by omega, by omega, by omega, by omega, hF2.symm⟩ (by omega)
  · rw [if_neg cL]
    refine t_lp3 (fun idx j i => i = 0) (fun _ _ _ => 0) ?_ jfuel 0 0 0 (by rw [jfuel_eq]; omega) rfl
    rintro self idx j i hi hself
    refine t_if (fun c => t_some rfl) (fun c => ?_)
    exact t_neg (fun q => cL (d1.1 q)) (t_some rfl)
theorem e_isWord {tx : Int → Int} {n p k : Int} {M : jM} (hO : okT tx n) (hx : rTx tx n M) (ha : rAt tx n p M) (h7 : M 166 7 = -1) (hk : amB k) : jT (f_X10_isWord k M) (fun q => q.1 = b2 (wd tx n p = sw k) ∧ q.2 166 4 = p ∧ q.2 166 5 = p ∧ fr6 M q.2) := by
  obtain ⟨p0, p1, p2, p3⟩ := rAt_b ha
  have hr := rn_b (c := isLt) (tx := tx) p1
  have n6 := hO.2.1
  have hsl := sw_len k
  have hk1 := hk.1
  have hwl := wd_len tx n p
  unfold f_X10_isWord
  refine t_Re (e_failed (by omega)) ?_
  rw [if_pos h7]
  refine t_kP (fun kk => (∀ M4, wd tx n p ≠ sw k → M4 166 4 = p → M4 166 5 = p → fr6 M M4 → jT (kk 0 M4) (fun q => q.1 = b2 (wd tx n p = sw k) ∧ q.2 166 4 = p ∧ q.2 166 5 = p ∧ fr6 M q.2)) ∧ (∀ M4, rn isLt tx n p - p = jsln k → M4 166 4 = p → M4 166 5 = p → fr6 M M4 → jT (kk 1 M4) (fun q => q.1 = b2 (wd tx n p = sw k) ∧ q.2 166 4 = p ∧ q.2 166 5 = p ∧ fr6 M q.2))) ?_ ?_
  · constructor
    · intro M4 hne g1 g2 g3
      refine t_lp2 (fun b i => b = 0 ∧ i = 0) (fun _ _ => 0) ?_ jfuel 0 0 (by rw [jfuel_eq]; omega) ⟨rfl, rfl⟩
      rintro self b i ⟨rfl, rfl⟩ hself
      refine t_pos (by decide) ?_
      refine t_ck (by decide) ?_
      exact t_some ⟨(b2_f hne).symm, g1, g2, g3⟩
    · intro M4 hlen g1 g2 g3
      have hx4 := rTx_fr hx g3
      refine t_lp2 (fun b i => (b = 0 ∨ b = 1) ∧ 0 ≤ i ∧ i ≤ jsln k ∧ (b = 0 → wd tx n p ≠ sw k) ∧ (b = 1 → ∀ x, 0 ≤ x → x < i → tx (p + x) = jsch k x)) (fun _ i => (jsln k - i).toNat) ?_ jfuel 1 0 (by rw [jfuel_eq]; omega) ⟨Or.inr rfl, by omega, by omega, fun q => by omega, fun _ x q0 q1 => by omega⟩
      rintro self b i ⟨hb, hi1, hi2, h0, h1⟩ hself
      rcases hb with hb | hb
      · subst hb
        refine t_pos (by decide) ?_
        refine t_ck (by decide) ?_
        exact t_some ⟨(b2_f (h0 rfl)).symm, g1, g2, g3⟩
      · subst hb
        refine t_neg (by decide) ?_
        rw [pw_of (z := jsln k) (by omega) (by omega), pw_of (z := i) (by omega) (by omega)]
        refine t_if (fun c => ?_) (fun c => ?_)
        · refine t_ck (by decide) ?_
          refine t_some ⟨(b2_t ?_).symm, g1, g2, g3⟩
          refine ls_ext (by omega) (fun x hx => ?_)
          have e1 := h1 rfl (x : Int) (by omega) (by omega)
          have e2 := sw_get (k := k) (i := (x : Int)) (by omega)
          rw [Int.toNat_natCast] at e2
          rw [wd_get (by omega), e1, e2]
        · have hlt := isLt_i.1 (hr.2.2.1 (p + i) (by omega) (by omega))
          have hch := hk.2 i hi1 (by omega)
          rw [g1, pw_of (z := p + i) (by omega) (by omega), hx4.2 (p + i) (by omega) (by omega), b8_o (by omega), if_pos (by omega), pw_of (z := tx (p + i)) (by omega) (by omega), pw_of (z := jsch k i) (by omega) (by omega)]
          refine t_ck (by omega) ?_
          refine t_ck (by omega) ?_
          refine t_k ?_
          refine t_if (fun c1 => ?_) (fun c1 => ?_)
          · refine t_let ?_
            refine hself _ _ ⟨Or.inr rfl, by omega, by omega, fun q => by omega, fun _ x q0 q1 => ?_⟩ (by omega)
            by_cases cx : x = i
            · subst cx; exact c1
            · exact h1 rfl x q0 (by omega)
          · refine t_let ?_
            refine hself _ _ ⟨Or.inl rfl, by omega, by omega, fun _ q => ?_, fun q => by omega⟩ (by omega)
            have e1 := wd_get (tx := tx) (n := n) (p := p) (i := i.toNat) (by omega)
            rw [q, ← sw_get ⟨hi1, by omega⟩, ← pn_nat hi1] at e1
            exact c1 e1.symm
  · rintro k5 ⟨hk0, hk1'⟩
    refine t_k ?_
    refine t_pos (by decide) ?_
    refine t_W (t_mono (e_wordMany hO hx ha) (fun q hq => ?_))
    obtain ⟨g0, g1, g2, g3⟩ := hq
    rw [g0, pw_of (z := rn isLt tx n p - p) (by omega) (by omega), pw_of (z := jsln k) (by omega) (by omega)]
    refine t_if (fun c => hk1' q.2 c g1 g2 g3) (fun c => hk0 q.2 (fun e => ?_) g1 g2 g3)
    have := congrArg List.length e
    omega
