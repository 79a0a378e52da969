/-! ===== reading: the loop over lines, both sides ===== -/
def FcL (self6 : Int → Int → jM → Option (Int × jM)) (l3_3 : Int) (l4_4 : Int) (M5 : jM) : Option (Int × jM) :=
    jk (
      some ((M5 109 7), M5)) fun (k7 : Option (Int × jM)) =>
    if jw 600 < jw l4_4 then (
      k7)
    else (
      if jw l3_3 = 0 then (
        k7)
      else (
        if jw (M5 109 3) = jw (-1) then (
          k7)
        else (
          jbR (f_X4_among 0 M5) fun v9 =>
          jk (fun (l3_10 : Int) (M11 : jM) =>
            jk (fun (s0_13 : Int) (M14 : jM) =>
              jlet (l4_4 + 1) fun l4_16 =>
              self6 s0_13 l4_16 M14) fun (k15 : Int → jM → Option (Int × jM)) =>
            jk (fun (M17 : jM) =>
              k15 0 M17) fun (k18 : jM → Option (Int × jM)) =>
            if jw l3_10 = 0 then (
              k18 M11)
            else (
              jbW (f_X4_sign 59 M11) fun v21 M20 =>
              if jw v21 = 0 then (
                k18 M20)
              else (
                k15 1 M20))) fun (k12 : Int → jM → Option (Int × jM)) =>
          LC v9 k12 M5)))
def KR (M12 : jM) : Option (Int × jM) :=
      jlet (jst M12 166 8 (M12 166 7)) fun M17 =>
      jbR (f_X10_hasFailed M17) fun v19 =>
      jbW (f_X10_throwsIf v19 1 M17) fun v22 M21 =>
      if jw v22 = 0 then (
        jbV (f_X10_taken M21) fun M24 =>
        jlet (jst M24 166 29 0) fun M25 =>
        jck (0 ≤ jw 1 ∧ jw 1 < 1089) <|
        some ((M25 169 (jw 1)), M25))
      else (
        some (0, M21))
def FrL (self13 : jM → Option (Int × jM)) (M12 : jM) : Option (Int × jM) :=
    jbR (f_X10_hasFailed M12) fun v15 =>
    jk (KR M12) fun (k16 : Option (Int × jM)) =>
    if jw v15 = 0 then (
      if jw (M12 166 6) ≤ jw (M12 166 4) then (
        k16)
      else (
        jbV (f_X10_line M12) fun M28 =>
        jbV (f_X10_blanks M28) fun M30 =>
        self13 M30))
    else (
      k16)
theorem fo_u (l1 l2 : Int) (M : jM) : f_X4_faultOf l1 l2 M = jbV (f_X4_start l1 l2 M) fun M2 => jlp3 FcL jfuel 1 0 M2 := rfl
theorem lp1_u {A1 R : Type} {F : (A1 → Option R) → A1 → Option R} {f : Nat} {x : A1} : jlp1 F (f + 1) x = F (jlp1 F f) x := rfl
theorem cL_e0 {f : Nat} {i : Int} {M : jM} : jlp3 FcL (f + 1) 0 i M = some (M 109 7, M) := by
  rw [lp3_u]
  show (if jw 600 < jw i then some (M 109 7, M) else if jw 0 = 0 then some (M 109 7, M) else _) = some (M 109 7, M)
  rw [if_pos (show jw 0 = 0 by decide)]
  split <;> rfl
theorem cL_e1 {f : Nat} {i l : Int} {M : jM} (h : M 109 3 = -1) : jlp3 FcL (f + 1) l i M = some (M 109 7, M) := by
  rw [lp3_u]
  show (if jw 600 < jw i then some (M 109 7, M) else if jw l = 0 then some (M 109 7, M) else if jw (M 109 3) = jw (-1) then some (M 109 7, M) else _) = some (M 109 7, M)
  rw [h, if_pos (show jw (-1) = jw (-1) from rfl)]
  split
  · rfl
  · split <;> rfl
theorem cL_s {f : Nat} {i v9 : Int} {M : jM} {qc q : Int × jM} (hi : 0 ≤ i ∧ i ≤ 600) (h3 : 0 ≤ M 109 3 ∧ M 109 3 ≤ 255) (ha : f_X4_among 0 M = some v9) (hL : ∀ k12, LC v9 k12 M = k12 qc.1 qc.2) (hS : SC qc.1 qc.2 = some q) : jlp3 FcL (f + 1) 1 i M = jlp3 FcL f q.1 (i + 1) q.2 := by
  rw [lp3_u]
  unfold FcL
  show (if jw 600 < jw i then _ else _) = _
  rw [pw_of (z := 600) (by omega) (by omega), pw_of (z := i) (by omega) (by omega), if_neg (by omega), if_neg (by decide), pw_of (z := M 109 3) (by omega) (by omega), pw_of (z := -1) (by omega) (by omega), if_neg (by omega), ha]
  show LC v9 _ M = _
  rw [hL]
  dsimp only [jk, jlet]
  unfold SC at hS
  by_cases c : jw qc.1 = 0
  · rw [if_pos c] at hS ⊢
    cases hS
    rfl
  · rw [if_neg c] at hS ⊢
    generalize f_X4_sign 59 qc.2 = s at hS ⊢
    match s, hS with
    | some s, hS =>
      change (if jw s.1 = 0 then some ((0 : Int), s.2) else some (1, s.2)) = some q at hS
      show (if jw s.1 = 0 then _ else _) = _
      by_cases c2 : jw s.1 = 0
      · rw [if_pos c2] at hS ⊢
        cases hS
        rfl
      · rw [if_neg c2] at hS ⊢
        cases hS
        rfl
theorem rLn_6 {e n p : Int} {tx : Int → Int} {A B Mc Mr X : jM} (h : rLn e tx n A B p Mc Mr) (hf : fr6 Mr X) (ha : rAt tx n p X) : rLn e tx n A B p Mc X := by
  obtain ⟨hc, hr, h13, h8, hE⟩ := h
  refine ⟨hc, ⟨ha, by rw [hf.2 7 (by decide) (by decide)]; exact hr.2.1, frR_t hr.2.2 (frR_6 hf)⟩, by rw [hf.2 13 (by decide) (by decide)]; exact h13, by rw [hf.2 14 (by decide) (by decide)]; exact h8, ?_⟩
  rw [hf.2 14 (by decide) (by decide), hf.1 171 (by decide), hf.1 172 (by decide)]
  exact hE
theorem tkK_e {tx : Int → Int} {n p : Int} (h : n ≤ p) : tkK tx n p = -1 := if_pos h
theorem tkK_n {tx : Int → Int} {n p : Int} (hO : okT tx n) (hp : 0 ≤ p ∧ p < n) : 0 ≤ tkK tx n p ∧ tkK tx n p ≤ 255 := by
  have := hO.2.2 p hp.1 hp.2
  unfold tkK
  rw [if_neg (by omega)]
  split
  · omega
  · split <;> omega
def LE (e : Int) (tx : Int → Int) (n : Int) (A B : jM) (Mc Mr : jM) : Prop := rLn e tx n A B n Mc Mr ∨ fl e n A B Mc Mr
theorem loop_pair {e n : Int} {tx : Int → Int} {A B : jM} (hR : rc e tx n A B) : ∀ (m fc fr : Nat) (i p : Int) (Mc Mr : jM), n - p ≤ (m : Int) → m + 1 < fc → m + 1 < fr → 0 ≤ i → i ≤ p → rLn e tx n A B p Mc Mr → Mr 166 4 = p → ∃ Mc' Mr', LE e tx n A B Mc' Mr' ∧ jlp3 FcL fc 1 i Mc = some (Mc' 109 7, Mc') ∧ ∀ P, jT (KR Mr') P → jT (jlp1 FrL fr Mr) P := by
  have hR' := hR
  obtain ⟨he, hO, hB, r10, r6⟩ := hR
  have n6 := hO.2.1
  intro m
  induction m with
  | zero =>
    intro fc fr i p Mc Mr hm hfc hfr hi hip h h4
    obtain ⟨f, rfl⟩ : ∃ f, fc = f + 1 := ⟨fc - 1, by omega⟩
    obtain ⟨g, rfl⟩ : ∃ g, fr = g + 1 := ⟨fr - 1, by omega⟩
    have hp := rAt_b h.2.1.1
    have hpe : p = n := by omega
    subst hpe
    refine ⟨Mc, Mr, Or.inl h, cL_e1 (by rw [h.1.1.2.2.2.2.2.1]; exact tkK_e (Int.le_refl _)), fun P hP => ?_⟩
    rw [lp1_u]
    unfold FrL
    refine t_Re (e_failed (by rw [h.2.1.2.1]; omega)) (t_k ?_)
    have h6 : Mr 166 6 = p := (rTx_R hB h.2.1.2.2).1
    rw [if_pos h.2.1.2.1, h6, h4]
    exact t_pos (by decide) (t_pos (Int.le_refl _) hP)
  | succ m ih =>
    intro fc fr i p Mc Mr hm hfc hfr hi hip h h4
    by_cases hpn : p < n
    · obtain ⟨f, rfl⟩ : ∃ f, fc = f + 1 + 1 := ⟨fc - 2, by omega⟩
      obtain ⟨g, rfl⟩ : ∃ g, fr = g + 1 + 1 := ⟨fr - 2, by omega⟩
      have hp := rAt_b h.2.1.1
      obtain ⟨Mr2, hM2, qc, hL, q, hq, ho⟩ := line_pair hR' h hpn
      have ha : f_X4_among 0 Mc = some (ixW (wd tx n p) W0 0) := c_am h.1.1 (by decide) swJ.1 okW0.1
      have hcs := cL_s (f := f + 1) (i := i) (by omega) (by rw [h.1.1.2.2.2.2.2.1]; exact tkK_n hO ⟨hp.1, hpn⟩) ha hL hq
      have h6 : Mr 166 6 = n := (rTx_R hB h.2.1.2.2).1
      have hrs : ∀ (Y : jM) (P : Int × jM → Prop), f_X10_blanks Mr2 = some Y → jT (jlp1 FrL (g + 1) Y) P → jT (jlp1 FrL (g + 1 + 1) Mr) P := fun Y P hY hP => by
        rw [lp1_u]
        unfold FrL
        refine t_Re (e_failed (by rw [h.2.1.2.1]; omega)) (t_k ?_)
        rw [if_pos h.2.1.2.1, h6, h4, pw_of (z := n) (by omega) (by omega), pw_of (z := p) (by omega) (by omega)]
        refine t_pos (by decide) (t_neg (by omega) ?_)
        exact t_Ve hM2 (t_Ve hY hP)
      rcases ho with ⟨o1, p', hpp, hRL⟩ | ⟨o1, hfl⟩
      · have hrA := hRL.2.1.1
        unfold rAt at hrA
        obtain ⟨Y, hY, b1, b2, b6⟩ := e_blanks hO (rTx_R hB hRL.2.1.2.2) (M := Mr2) rfl ⟨hrA.1, hrA.2.1⟩
        rw [hrA.2.2] at b1
        obtain ⟨Mc', Mr', k1, k2, k3⟩ := ih (f + 1) (g + 1) (i + 1) p' q.2 Y (by omega) (by omega) (by omega) (by omega) (by omega) (rLn_6 hRL b6 (rAt_p hRL.2.1.1 b1)) b1
        refine ⟨Mc', Mr', k1, ?_, fun P hP => hrs Y P hY (k3 P hP)⟩
        rw [hcs, o1]
        exact k2
      · obtain ⟨Y, hY, hf⟩ := l_blanks hO (rTx_R hB hfl.2.2.2.1) hfl.2.2.2.2
        have hfl2 := fl_fX hfl hf
        refine ⟨q.2, Y, Or.inr hfl2, ?_, fun P hP => hrs Y P hY ?_⟩
        · rw [hcs, o1]
          exact cL_e0
        · rw [lp1_u]
          unfold FrL
          refine t_Re (l_failed (fl_okF hfl2)) (t_k ?_)
          exact t_neg (by decide) hP
    · exact ih fc fr i p Mc Mr (by omega) (by omega) (by omega) hi hip h h4
