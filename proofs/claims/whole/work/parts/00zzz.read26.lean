/-! ===== reading: calls of an attempt ===== -/
def cntB (c : Nat) : Nat := c % 2 + c / 2 % 2 + c / 4 % 2
theorem cl_d : ∀ c : Nat, c < 8 → ∀ v : Nat, v < 3 → (jw (jnd (jsr (c : Int) (v : Int)) 1) = 0 ∨ jw (jnd (jsr (c : Int) (v : Int)) 1) = 1) ∧ (jw (jnd (jsr (c : Int) (v : Int)) 1) = 0 → jor (c : Int) (jsl 1 (v : Int)) = ((c + 2 ^ v : Nat) : Int) ∧ c + 2 ^ v < 8 ∧ cntB (c + 2 ^ v) = cntB c + 1) ∧ (cntB c = 3 → jw (jnd (jsr (c : Int) (v : Int)) 1) ≠ 0) := by decide +kernel
def FcC (g k : Int) (self4 : Int → Int → jM → Option (Int × jM)) (l3_1 : Int) (l4_2 : Int) (M3 : jM) : Option (Int × jM) :=
    jk (
      jck (0 ≤ jw k ∧ jw k < 12) <|
      jlet (jst M3 (g + 4) (jw k) l3_1) fun M7 =>
      some (1, M7)) fun (k5 : Option (Int × jM)) =>
    if jw 3 < jw l4_2 then (
      k5)
    else (
      if jw (M3 109 3) = jw 97 then (
        jbR (f_X4_among 5 M3) fun v9 =>
        jk (
          jbW (f_X4_refuse M3) fun v13 M12 =>
          jck (jw v13 = 0 ∨ jw v13 = 1) <| some (v13, M12)) fun (k10 : Option (Int × jM)) =>
        if jw v9 = jw (-1) then (
          k10)
        else (
          if jw (jnd (jsr l3_1 v9) 1) = 0 then (
            jlet ((jor l3_1 (jsl 1 v9))) fun l3_15 =>
            jbV (f_X4_advance M3) fun M17 =>
            jlet (l4_2 + 1) fun l4_18 =>
            self4 l3_15 l4_18 M17)
          else (
            k10)))
      else (
        k5))
def FrD (s : Int) (M35 : jM) : Option jM :=
            jck (0 ≤ jw (116 + s) ∧ jw (116 + s) < 1089) <|
            jck (0 ≤ jw (116 + s) ∧ jw (116 + s) < 1089) <|
            jlet (jst M35 171 (jw (116 + s)) ((M35 171 (jw (116 + s))) + 1)) fun M39 =>
            jlet (jst M39 166 14 1) fun M40 =>
            some M40
def FrC (s v6 : Int) (self36 : Int → jM → Option jM) (l5_34 : Int) (M35 : jM) : Option jM :=
          if jw l5_34 = jw (-1) then (
            FrD s M35)
          else (
            jck (0 ≤ jw (810 + v6) ∧ jw (810 + v6) < 971) <|
            jbR (f_X10_isIn (M35 172 (jw (810 + v6))) l5_34) fun v43 =>
            if jw v43 = 0 then (
              jck (0 ≤ jw (810 + v6) ∧ jw (810 + v6) < 971) <|
              jck (0 ≤ jw (810 + v6) ∧ jw (810 + v6) < 971) <|
              jlet (jst M35 172 (jw (810 + v6)) (jor (M35 172 (jw (810 + v6))) (jsl 1 l5_34))) fun M46 =>
              jbW (f_X10_wordMany M46) fun v49 M48 =>
              jlet (jst M48 166 4 ((M46 166 4) + v49)) fun M50 =>
              jbW (f_X10_callTold M50) fun v53 M52 =>
              self36 v53 M52)
            else (
              jbV (f_X10_fails M35) fun M55 =>
              some M55))
theorem lp3_u {A1 A2 A3 R : Type} {F : (A1 → A2 → A3 → Option R) → A1 → A2 → A3 → Option R} {f : Nat} {x : A1} {y : A2} {z : A3} : jlp3 F (f + 1) x y z = F (jlp3 F f) x y z := rfl
/-- calls c of an attempt are told; M1, R1: as it was ahead of them -/
def RC (e : Int) (tx : Int → Int) (n : Int) (A B : jM) (v6 : Int) (M1 R1 : jM) (c p : Int) (Mc Mr : jM) : Prop := cS e tx n A p Mc ∧ rS tx n B p Mr ∧ Mr 166 13 = 0 ∧ Mc 109 8 = 1 ∧ (∀ a, a ≠ 109 → Mc a = M1 a) ∧ (∀ a, a ≠ 166 → a ≠ 172 → Mr a = R1 a) ∧ (∀ j, j ≠ 810 + v6 → Mr 172 j = R1 172 j) ∧ Mr 172 (810 + v6) = c
/-- the component has refused; the reference will, at the ';' -/
def lt8 (e : Int) (tx : Int → Int) (n : Int) (A B : jM) (Mc Mr : jM) : Prop := ∃ p', Mc 109 7 = p' ∧ p' < n ∧ isLt (tx p') = true ∧ frC e A Mc ∧ rS tx n B p' Mr
def clP (e : Int) (tx : Int → Int) (n : Int) (A B : jM) (s v6 p0 g k : Int) (M1 R1 : jM) (fr : Nat) (w : Int) (X : jM) (qc : Int × jM) : Prop := ∀ (Q : jM → Prop),
      (∀ c' p' Mx X', qc.1 = 1 → 0 ≤ c' → c' ≤ 7 → p0 ≤ p' → RC e tx n A B v6 M1 R1 c' p' Mx X' → qc.2 = jst Mx (g + 4) k c' → jT (FrD s X') Q) →
      (∀ X', qc.1 = 0 → fl e n A B qc.2 X' → Q X') →
      (∀ X', qc.1 = 0 → lt8 e tx n A B qc.2 X' → jT (FrD s X') Q) →
      jT (jlp2 (FrC s v6) fr w X) Q
theorem cl_step {e n s v6 p0 g k p l4 : Int} {tx : Int → Int} {A B M1 R1 Mc X : jM} {fc fr c : Nat} (he : e = 3 ∨ e = 56) (hO : okT tx n) (hB : rTx tx n B) (hv : 0 ≤ v6 ∧ v6 < 72) (hk : 0 ≤ k ∧ k < 12) (hl : 0 ≤ l4 ∧ l4 ≤ 3) (hc8 : c < 8) (hcn : (cntB c : Int) = l4) (hp0 : p0 ≤ p) (h : RC e tx n A B v6 M1 R1 (c : Int) p Mc X) (x4 : X 166 4 = p) (x5 : X 166 5 = p)
    (hIH : l4 < 3 → ∀ (c' : Nat) p' Mc' X', c' < 8 → (cntB c' : Int) = l4 + 1 → p0 ≤ p' → RC e tx n A B v6 M1 R1 (c' : Int) p' Mc' X' → X' 166 4 = p' → X' 166 5 = p' → jT (jlp3 (FcC g k) fc (c' : Int) (l4 + 1) Mc') (clP e tx n A B s v6 p0 g k M1 R1 fr (ixW (wd tx n p') W5 0) X')) :
    jT (jlp3 (FcC g k) (fc + 1) (c : Int) l4 Mc) (clP e tx n A B s v6 p0 g k M1 R1 (fr + 1) (ixW (wd tx n p) W5 0) X) := by
  have n6 := hO.2.1
  have hRC := h
  obtain ⟨hc, hr, h13, h8, hMa, hRa, hRj, hRc⟩ := h
  have hpp : 0 ≤ p ∧ p ≤ n := hc.1.2.1
  have hix := ix_b (w := wd tx n p) W5 0 (by decide)
  rw [show ((W5.length : Nat) : Int) = 3 from rfl] at hix
  have w8 : jw (810 + v6) = 810 + v6 := pw_of (z := 810 + v6) (by omega) (by omega)
  have c8 : 0 ≤ 810 + v6 ∧ 810 + v6 < 971 := by omega
  rw [lp3_u]
  unfold FcC
  refine t_kP (fun kk => ixW (wd tx n p) W5 0 = -1 → jT kk (clP e tx n A B s v6 p0 g k M1 R1 (fr + 1) (ixW (wd tx n p) W5 0) X)) ?_ ?_
  · intro hxi
    rw [pw_of (z := k) (by omega) (by omega)]
    refine t_ck hk (t_let (t_some ?_))
    intro Q H1 H2 H3
    rw [lp2_u]
    unfold FrC
    rw [hxi]
    refine t_pos (by decide) ?_
    exact H1 (c : Int) p Mc X rfl (by omega) (by omega) hp0 hRC rfl
  · intro k5 h5
    rw [pw_of (z := 3) (by omega) (by omega), pw_of (z := l4) (by omega) (by omega)]
    refine t_neg (by omega) ?_
    have hkb := tkK_b hO hpp
    have d1 := (tk_lt hO hpp).1
    rw [hc.1.2.2.2.2.2.1, pw_of (z := tkK tx n p) (by omega) (by omega), pw_of (z := 97) (by omega) (by omega)]
    refine t_if (fun ck => ?_) (fun ck => ?_)
    · have hlt := d1.1 ck
      clear d1 hkb
      have hnx := nx_w hO hpp hlt
      have hrn := rn_b (c := isLt) (tx := tx) hpp.2
      have hpn : p < n := by omega
      have hltx : isLt (tx p) = true := hrn.2.2.1 p (by omega) hlt
      have hrn2 := hrn.2.1
      clear hrn
      have hb : p < nx tx n p := (nx_b (tx := tx) (n := n) (p := p) hpp).2.2.2 hpn
      refine t_Re (c_am hc.1 (by decide) swJ.2.2.2.2.2 okW0.2.2.2.2.2) ?_
      refine t_kP (fun kk => (∀ Q : jM → Prop, (∀ X', fl e n A B (jst Mc 109 7 p) X' → Q X') → (∀ X', lt8 e tx n A B (jst Mc 109 7 p) X' → jT (FrD s X') Q) → jT (jlp2 (FrC s v6) (fr + 1) (ixW (wd tx n p) W5 0) X) Q) → jT kk (clP e tx n A B s v6 p0 g k M1 R1 (fr + 1) (ixW (wd tx n p) W5 0) X)) ?_ ?_
      · intro hq
        refine c_refuse ?_
        intro Q H1 H2 H3
        dsimp only at H1 H2 H3
        rw [hc.1.2.2.2.2.1] at H2 H3
        exact hq Q (fun X' hX' => H2 X' rfl hX') (fun X' hX' => H3 X' rfl hX')
      · intro k10 h10
        rw [pw_of (z := ixW (wd tx n p) W5 0) (by omega) (by omega), pw_of (z := -1) (by omega) (by omega)]
        refine t_if (fun cx => ?_) (fun cx => ?_)
        · refine h10 (fun Q H2 H3 => ?_)
          rw [lp2_u]
          unfold FrC
          rw [cx]
          refine t_pos (by decide) ?_
          refine H3 X ⟨p, pst_s _ _ _ _, hpn, hltx, frC_t hc.2.2.2 (frC_9 he (fun a q => pst_f q)), hr⟩
        · obtain ⟨v, hvv⟩ : ∃ v : Nat, ixW (wd tx n p) W5 0 = (v : Int) := ⟨(ixW (wd tx n p) W5 0).toNat, by omega⟩
          have hv3 : v < 3 := by omega
          obtain ⟨j0, j1, j2⟩ := cl_d c hc8 v hv3
          rw [hvv]
          have hin : f_X10_isIn (c : Int) (v : Int) = some (if jw (jnd (jsr (c : Int) (v : Int)) 1) = 0 then 0 else 1) := by
            unfold f_X10_isIn
            rw [pw_of (z := 1) (by omega) (by omega)]
            rcases j0 with q | q
            · rw [q, if_neg (by decide), if_pos rfl]
            · rw [q, if_pos rfl, if_neg (by decide)]
          by_cases cb : jw (jnd (jsr (c : Int) (v : Int)) 1) = 0
          · obtain ⟨i1, i2, i3⟩ := j1 cb
            have hl3 : l4 < 3 := by
              rcases Int.lt_or_le l4 3 with q | q
              · exact q
              · exact absurd cb (j2 (by omega))
            rw [if_pos cb] at hin
            refine t_pos cb ?_
            refine t_let ?_
            refine t_V (t_mono (cS_adv hc he) (fun M17 h17 => ?_))
            obtain ⟨h17, h179⟩ := h17
            refine t_let ?_
            rw [i1]
            -- the reference
            have hrS2 : rS tx n B p (jst X 172 (810 + v6) ((c + 2 ^ v : Nat) : Int)) := by
              refine ⟨?_, by rw [pst_c (by decide)]; exact hr.2.1, frR_t hr.2.2 (frR_2 _ _ _)⟩
              unfold rAt
              rw [pst_c (by decide)]
              exact hr.1
            obtain ⟨y, hyy, y0, y1, y2, y3⟩ := e_wordMany hO (rTx_R hB hrS2.2.2) hrS2.1
            have hrS3 : rS tx n B (nx tx n p) (jst y.2 166 4 (p + (rn isLt tx n p - p))) := by
              refine ⟨?_, by rw [pst_i (by decide), y3.2 7 (by decide) (by decide)]; exact hrS2.2.1, frR_t hrS2.2.2 (frR_6 (fr6_t y3 (fr6_4 _ _)))⟩
              unfold rAt
              rw [pst_s, hnx, show p + (rn isLt tx n p - p) = rn isLt tx n p from by omega]
              exact ⟨by omega, hrn2, rfl⟩
            obtain ⟨z, hzz, z0, z1, z2, z3⟩ := e_callTold hO (rTx_R hB hrS3.2.2) hrS3.1 hrS3.2.1
            have zf := fr6_t y3 (fr6_t (fr6_4 y.2 (p + (rn isLt tx n p - p))) z3)
            refine t_mono (hIH hl3 (c + 2 ^ v) (nx tx n p) M17 z.2 i2 (by omega) (by omega) ⟨h17, ⟨rAt_p hrS3.1 z1, by rw [z3.2 7 (by decide) (by decide)]; exact hrS3.2.1, frR_t hrS3.2.2 (frR_6 z3)⟩, ?_, ?_, fun a b => ?_, fun a b0 b1 => ?_, fun j b => ?_, ?_⟩ z1 z2) (fun qc hqc Q H1 H2 H3 => ?_)
            · rw [zf.2 13 (by decide) (by decide), pst_c (by decide)]
              exact h13
            · rw [h179.2 8 (by decide) (by decide) (by decide)]
              exact h8
            · rw [h179.1 a b]
              exact hMa a b
            · rw [zf.1 a b0, pst_f b1]
              exact hRa a b0 b1
            · rw [zf.1 172 (by decide), pst_i b]
              exact hRj j b
            · rw [zf.1 172 (by decide), pst_s]
            · rw [lp2_u]
              show jT (if jw (v : Int) = jw (-1) then _ else _) Q
              rw [pw_of (z := (v : Int)) (by omega) (by omega), pw_of (z := -1) (by omega) (by omega), w8, hRc]
              refine t_neg (by omega) ?_
              refine t_ck c8 ?_
              refine t_Re hin ?_
              refine t_pos (by decide) ?_
              refine t_ck c8 (t_ck c8 (t_let ?_))
              rw [i1, pst_c (show (166 : Int) ≠ 172 by decide), x4]
              refine t_We (v := y.1) (M := y.2) hyy ?_
              rw [y0]
              refine t_let ?_
              refine t_We (v := z.1) (M := z.2) hzz ?_
              rw [z0]
              exact hqc Q H1 H2 H3
          · rw [if_neg cb] at hin
            refine t_neg cb ?_
            rw [← hvv]
            refine h10 (fun Q H2 H3 => ?_)
            rw [lp2_u]
            unfold FrC
            rw [hvv, pw_of (z := (v : Int)) (by omega) (by omega), pw_of (z := -1) (by omega) (by omega), w8, hRc]
            refine t_neg (by omega) ?_
            refine t_ck c8 ?_
            refine t_Re hin ?_
            refine t_neg (by decide) ?_
            refine t_Ve (e_fails0 hr.2.1) ?_
            exact t_some (H2 _ (fl_f (A := A) hc.2.2.2 he n6 hr x5))
    · refine h5 ?_
      have hw : wd tx n p = [] := List.length_eq_zero_iff.1 (by
        rw [wd_len]
        have : ¬ p < rn isLt tx n p := fun q => ck (d1.2 q)
        omega)
      rw [hw]
      exact ix_nil W5 0 okW0.2.2.2.2.2
theorem cl_pair {e n s v6 p0 g k : Int} {tx : Int → Int} {A B M1 R1 : jM} (hR : rc e tx n A B) (hv : 0 ≤ v6 ∧ v6 < 72) (hk : 0 ≤ k ∧ k < 12) : ∀ (m fc fr : Nat) (c : Nat) (p l4 : Int) (Mc X : jM), (m : Int) = 3 - l4 → 0 ≤ l4 → m < fc → m < fr → c < 8 → (cntB c : Int) = l4 → p0 ≤ p → RC e tx n A B v6 M1 R1 (c : Int) p Mc X → X 166 4 = p → X 166 5 = p → jT (jlp3 (FcC g k) fc (c : Int) l4 Mc) (clP e tx n A B s v6 p0 g k M1 R1 fr (ixW (wd tx n p) W5 0) X) := by
  obtain ⟨he, hO, hB, r10, r6⟩ := hR
  intro m
  induction m with
  | zero =>
    intro fc fr c p l4 Mc X hm hl hfc hfr hc8 hcn hp0 h x4 x5
    obtain ⟨f, rfl⟩ : ∃ f, fc = f + 1 := ⟨fc - 1, by omega⟩
    obtain ⟨g', rfl⟩ : ∃ g', fr = g' + 1 := ⟨fr - 1, by omega⟩
    exact cl_step he hO hB hv hk (by omega) hc8 hcn hp0 h x4 x5 (fun q => by omega)
  | succ m ih =>
    intro fc fr c p l4 Mc X hm hl hfc hfr hc8 hcn hp0 h x4 x5
    obtain ⟨f, rfl⟩ : ∃ f, fc = f + 1 := ⟨fc - 1, by omega⟩
    obtain ⟨g', rfl⟩ : ∃ g', fr = g' + 1 := ⟨fr - 1, by omega⟩
    exact cl_step he hO hB hv hk (by omega) hc8 hcn hp0 h x4 x5 (fun q c' p' Mc' X' a1 a2 a3 a4 a5 a6 => ih f g' c' p' (l4 + 1) Mc' X' (by omega) (by omega) (by omega) (by omega) a1 a2 a3 a4 a5 a6)
theorem q_or_0 {f : Int → Int} : ∀ n : Nat, (∀ i : Int, 0 ≤ i → i < n → f i = 0) → q_or f n = 0 := by
  intro n
  induction n with
  | zero => intro _; rfl
  | succ n ih =>
    intro h
    unfold q_or
    rw [if_pos (h (n : Int) (by omega) (by omega))]
    exact ih (fun i q0 q1 => h i q0 (by omega))
theorem evT_do {e p p' s k v m cl g at' : Int} {M M' : jM} {T T' N N' : Int → Int} (h : evT e p 1 M T N) (hp : p ≤ p') (hg : g = e + 16 + 1 + 6 * s) (hat : at' = 12 * s + k) (hs : 0 ≤ s ∧ s < 6) (hs1 : s < T 1) (hk : 0 ≤ k ∧ k < 12) (hkT : T (116 + s) = k) (hm : 1 ≤ m ∧ m ≤ 3) (hT' : bT T') (hN' : bN N')
    (hM : ∀ a, e ≤ a → a ≤ e + 52 → (a < g ∨ g + 5 < a) → M' a = M a) (hM0 : M' g 0 = k + 1) (hM1 : M' g 1 = M g 1) (hM2 : M' g 2 = M g 2)
    (h1 : ∀ j, j ≠ k → M' (g + 1) j = M (g + 1) j) (h1k : M' (g + 1) k = v) (h2 : ∀ j, j ≠ k → M' (g + 2) j = M (g + 2) j) (h2k : M' (g + 2) k = m)
    (h3 : ∀ j, (j < k * 3 ∨ k * 3 + 3 ≤ j) → M' (g + 3) j = M (g + 3) j) (h4 : ∀ j, j ≠ k → M' (g + 4) j = M (g + 4) j) (h4k : M' (g + 4) k = cl)
    (h5 : ∀ j, (j < k * 9 ∨ k * 9 + 9 ≤ j) → M' (g + 5) j = M (g + 5) j)
    (ht : ∀ j, j ≠ 116 + s → j ≠ 122 + at' → j ≠ 194 + at' → (j < 266 + 3 * at' ∨ 266 + 3 * at' + 3 ≤ j) → T' j = T j) (t116 : T' (116 + s) = k + 1) (t122 : T' (122 + at') = v) (t194 : T' (194 + at') = m)
    (hn : ∀ j, j ≠ 810 + at' → (j < 9 * at' ∨ 9 * at' + 9 ≤ j) → N' j = N j) (n810 : N' (810 + at') = cl)
    (hel : ∀ x, 0 ≤ x → x < m → M' (g + 3) (k * 3 + x) = T' (266 + 3 * at' + x) ∧ T' (266 + 3 * at' + x) < T 0)
    (hvo : ∀ j, 0 ≤ j → j < T 2 → M' (g + 5) (k * 9 + j) = N' (9 * at' + j)) : evT e p' 1 M' T' N' := by
  have bt := h.1
  have t1 := bt.2.1
  have t2 := bt.2.2.1
  have hat72 : 0 ≤ at' ∧ at' < 72 := by omega
  have hg0 : e + 17 ≤ g ∧ g + 5 ≤ e + 52 := by omega
  have e1 : T' 1 = T 1 := ht 1 (by omega) (by omega) (by omega) (by omega)
  have e0 : T' 0 = T 0 := ht 0 (by omega) (by omega) (by omega) (by omega)
  have e2 : T' 2 = T 2 := ht 2 (by omega) (by omega) (by omega) (by omega)
  have hz : ∀ i, 0 ≤ i → i < 72 → N' (882 + i) = 0 := fun i q0 q1 => by
    rw [hn (882 + i) (by omega) (by omega)]
    exact h.2.2.2.2.2.2.1 i q0 q1
  refine evT_sk h hp (fun a b0 b1 => hM a b0 (by omega) (by omega)) (fun j b => ht j (by omega) (by omega) (by omega) (by omega)) (fun j b => hn j (by omega) (by omega)) hT' hN' ?_ (fun s' q0 q1 => ?_) (fun s' q0 q1 => ?_) hz (Or.inr rfl) (fun q => by omega)
  · intro s' k' q0 q1 k0 k1
    rw [e1] at q1
    by_cases c1 : s' = s
    · subst c1
      rw [t116] at k1
      by_cases c2 : k' = k
      · subst c2
        rw [← hat, t194, e0]
        exact ⟨hm.1, fun i i0 i1 => (hel i i0 i1).2⟩
      · obtain ⟨b1, b2⟩ := h.2.2.1 s' k' q0 q1 k0 (by omega)
        have h3' := bt.2.2.2.2.2.2.2.2.1 (12 * s' + k') (by omega) (by omega)
        rw [ht (194 + (12 * s' + k')) (by omega) (by omega) (by omega) (by omega), e0]
        refine ⟨b1, fun i i0 i1 => ?_⟩
        rw [ht (266 + 3 * (12 * s' + k') + i) (by omega) (by omega) (by omega) (by omega)]
        exact b2 i i0 i1
    · rw [ht (116 + s') (by omega) (by omega) (by omega) (by omega)] at k1
      have h12 := bt.2.2.2.2.2.2.1 s' q0 (by omega)
      obtain ⟨b1, b2⟩ := h.2.2.1 s' k' q0 q1 k0 k1
      have h3' := bt.2.2.2.2.2.2.2.2.1 (12 * s' + k') (by omega) (by omega)
      rw [ht (194 + (12 * s' + k')) (by omega) (by omega) (by omega) (by omega), e0]
      refine ⟨b1, fun i i0 i1 => ?_⟩
      rw [ht (266 + 3 * (12 * s' + k') + i) (by omega) (by omega) (by omega) (by omega)]
      exact b2 i i0 i1
  · have hsk := h.2.2.2.2.1 s' q0 q1
    by_cases c1 : s' = s
    · subst c1
      rw [← hg] at hsk ⊢
      obtain ⟨a1, a2, a3, a4, a5⟩ := hsk
      have m0 : M g 1 = 0 := by
        rw [a2, q_or_0 _ (fun i i0 i1 => h.2.2.2.2.2.2.1 (12 * s' + i) (by omega) (by omega))]
        rfl
      refine ⟨by rw [hM0, t116], ?_, ?_, fun k' k0 k1 => ?_, fun c j c0 c1 j0 j1 => ?_⟩
      · rw [hM1, m0, q_or_0 _ (fun i i0 i1 => hz (12 * s' + i) (by omega) (by omega))]
        rfl
      · rw [hM2, a3, ht (110 + s') (by omega) (by omega) (by omega) (by omega)]
      · rw [t116] at k1
        rw [e2]
        by_cases c2 : k' = k
        · subst c2
          rw [← hat, h1k, t122, h2k, t194, h4k, n810]
          exact ⟨rfl, rfl, fun i i0 i1 => (hel i i0 i1).1, rfl, fun j j0 j1 => hvo j j0 j1⟩
        · obtain ⟨b1, b2, b3, b4, b5⟩ := a4 k' k0 (by omega)
          have h3' := bt.2.2.2.2.2.2.2.2.1 (12 * s' + k') (by omega) (by omega)
          rw [h1 k' c2, h2 k' c2, h4 k' c2, ht (122 + (12 * s' + k')) (by omega) (by omega) (by omega) (by omega), ht (194 + (12 * s' + k')) (by omega) (by omega) (by omega) (by omega), hn (810 + (12 * s' + k')) (by omega) (by omega)]
          refine ⟨b1, b2, fun i i0 i1 => ?_, b4, fun j j0 j1 => ?_⟩
          · rw [h3 (k' * 3 + i) (by omega), ht (266 + 3 * (12 * s' + k') + i) (by omega) (by omega) (by omega) (by omega)]
            exact b3 i i0 i1
          · rw [h5 (k' * 9 + j) (by omega), hn (9 * (12 * s' + k') + j) (by omega) (by omega)]
            exact b5 j j0 j1
      · rw [e2] at j1
        rw [h5 ((12 + c) * 9 + j) (by omega), hn (648 + 9 * (3 * s' + c) + j) (by omega) (by omega)]
        exact a5 c j c0 c1 j0 j1
    · have hgs : M' (e + 16 + 1 + 6 * s') = M (e + 16 + 1 + 6 * s') := hM _ (by omega) (by omega) (by omega)
      exact rSk_c bt ⟨q0, q1⟩ hsk (by rw [hgs, ht (110 + s') (by omega) (by omega) (by omega) (by omega)]; exact hsk.2.2.1) (by rw [hgs]) (by rw [hgs]) (fun a b0 b1 => hM a (by omega) (by omega) (by omega)) (fun j b => ht j (by omega) (by omega) (by omega) (by omega)) (fun j b => hn j (by omega) (by omega))
  · rw [e1] at q0
    rw [ht (116 + s') (by omega) (by omega) (by omega) (by omega)]
    exact h.2.2.2.2.2.1 s' q0 q1
