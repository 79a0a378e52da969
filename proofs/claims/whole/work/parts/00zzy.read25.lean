/-! ===== reading: the elements of an attempt ===== -/
theorem cS_find {e n p m : Int} {tx D : Int → Int} {A M : jM} (h : cS e tx n A p M) (he : e = 3 ∨ e = 56) (hl : p < rn isLt tx n p) (h3 : M (e + 2) 3 = m) (hm : 0 ≤ m ∧ m ≤ 10) (hR : rNm (M (e + 3)) (M (e + 4)) D 14 m) : f_X2_find (e + 2) 2 (M 109 4) (M 109 5) M = some (elX D tx n p m) := by
  obtain ⟨g1, g2, g3, g4, g5⟩ := h.1
  have hr := rn_b (c := isLt) (tx := tx) g2.2
  have n6 := g1.2.1
  have hln := ln_nm he
  rw [g5.1, g5.2.2, (tk_lt g1 g2).2 hl, c_find (D := D) (tx := tx) (base := 14) (N := 10) (m := m) (by decide) hln.1 hln.2.1 hm h3 (by rw [show e + 2 + 1 = e + 3 from by omega, show e + 2 + 2 = e + 4 from by omega]; exact hR) ⟨g2.1, by omega⟩ (by omega) (fun k q0 q1 => ⟨g4 (p + k) (by omega) (by omega), isLt_i.1 (hr.2.2.1 (p + k) (by omega) (by omega))⟩)]
  unfold elX
  by_cases c : rn isLt tx n p - p ≤ 6
  · rw [if_pos c, if_pos (by omega)]
  · rw [if_neg c, if_neg (by omega)]
theorem rS_el {tx : Int → Int} {n p j : Int} {B M : jM} (hO : okT tx n) (hB : rTx tx n B) (h : rS tx n B p M) (hj : j = 0 ∨ j = 1) (hm : 0 ≤ M 171 0 ∧ M 171 0 ≤ 10) (hD : ∀ i k, 0 ≤ i → i < M 171 0 → 0 ≤ k → k < 6 → 0 ≤ M 171 (14 + 6 * i + k) ∧ M 171 (14 + 6 * i + k) ≤ 127) (hK : ∀ i, 0 ≤ i → i < M 171 0 → 0 ≤ M 171 (4 + i) ∧ M 171 (4 + i) ≤ 2) : jT (f_X10_elementTold j M) (fun q => ((elX (M 171) tx n p (M 171 0) ≠ -1 ∧ (j = 0 ∨ M 171 (4 + elX (M 171) tx n p (M 171 0)) = 0)) ∧ q.1 = elX (M 171) tx n p (M 171 0) ∧ rS tx n B (nx tx n p) q.2 ∨ ¬ (elX (M 171) tx n p (M 171 0) ≠ -1 ∧ (j = 0 ∨ M 171 (4 + elX (M 171) tx n p (M 171 0)) = 0)) ∧ q.1 = 0 ∧ q.2 166 7 = p ∧ frR B q.2 ∧ rPt n q.2) ∧ (∀ a, a ≠ 166 → q.2 a = M a) ∧ q.2 166 13 = M 166 13 ∧ q.2 166 14 = M 166 14) := by
  have hp := rAt_b h.1
  refine t_mono (e_eTold hO (rTx_R hB h.2.2) h.1 h.2.1 hj hm hD hK) (fun q hq => ?_)
  obtain ⟨h1, h2, h3, h4⟩ := hq
  have hf : frR B q.2 := frR_t h.2.2 ⟨fun c q0 q1 q2 => h3 c q0, fun j q0 q1 q2 _ _ => h4 j q0 q1 q2⟩
  refine ⟨?_, h3, h4 13 (by decide) (by decide) (by decide), h4 14 (by decide) (by decide) (by decide)⟩
  rcases h1 with hy | hy
  · have hl := ((elX_b (D := M 171) (tx := tx) (n := n) (p := p) hm.1).2 hy.1.1).2.2
    exact Or.inl ⟨hy.1, hy.2.1, by rw [nx_w hO ⟨hp.1, hp.2.1⟩ (by omega)]; exact hy.2.2.2, hy.2.2.1, hf⟩
  · exact Or.inr ⟨hy.1, hy.2.1, hy.2.2, hf, h2⟩
/-- i elements of attempt k of skater s are told -/
def RD (e : Int) (tx : Int → Int) (n : Int) (A B : jM) (s k : Int) (M0 R0 : jM) (i p : Int) (Mc Mr : jM) : Prop := cS e tx n A p Mc ∧ rS tx n B p Mr ∧ Mr 166 13 = 0 ∧ Mc 109 8 = 1
  ∧ (∀ a, e ≤ a → a ≤ e + 52 → a ≠ e + 16 + 1 + 6 * s + 2 → a ≠ e + 16 + 1 + 6 * s + 3 → Mc a = M0 a)
  ∧ (∀ j, j ≠ k → Mc (e + 16 + 1 + 6 * s + 2) j = M0 (e + 16 + 1 + 6 * s + 2) j) ∧ (0 < i → Mc (e + 16 + 1 + 6 * s + 2) k = i)
  ∧ (∀ j, (j < k * 3 ∨ k * 3 + 3 ≤ j) → Mc (e + 16 + 1 + 6 * s + 3) j = M0 (e + 16 + 1 + 6 * s + 3) j)
  ∧ (∀ a, a ≠ 166 → a ≠ 171 → Mr a = R0 a) ∧ (∀ j, (j < 266 + 3 * (12 * s + k) ∨ 266 + 3 * (12 * s + k) + 3 ≤ j) → Mr 171 j = R0 171 j) ∧ bT (Mr 171)
  ∧ ∀ x, 0 ≤ x → x < i → Mc (e + 16 + 1 + 6 * s + 3) (k * 3 + x) = Mr 171 (266 + 3 * (12 * s + k) + x) ∧ 0 ≤ Mr 171 (266 + 3 * (12 * s + k) + x) ∧ Mr 171 (266 + 3 * (12 * s + k) + x) < R0 171 0
def FcE (g k : Int) (self3 : Int → jM → Option (Int × jM)) (l3_1 : Int) (M2 : jM) : Option (Int × jM) :=
    if jw 3 ≤ jw l3_1 then (
      jbW (f_X4_refuse M2) fun v6 M5 =>
      jck (jw v6 = 0 ∨ jw v6 = 1) <| some (v6, M5))
    else (
      jk (fun (s0_8 : Int) =>
        jk (
          jbW (f_X4_refuse M2) fun v13 M12 =>
          jck (jw v13 = 0 ∨ jw v13 = 1) <| some (v13, M12)) fun (k10 : Option (Int × jM)) =>
        if jw s0_8 = jw (-1) then (
          k10)
        else (
          jk (
            jck (0 ≤ jw ((k * 3) + l3_1) ∧ jw ((k * 3) + l3_1) < 36) <|
            jlet (jst M2 (g + 3) (jw ((k * 3) + l3_1)) s0_8) fun M17 =>
            jck (0 ≤ jw k ∧ jw k < 12) <|
            jlet (jst M17 (g + 2) (jw k) (l3_1 + 1)) fun M19 =>
            jbV (f_X4_advance M19) fun M21 =>
            if jw (M21 109 3) = jw 43 then (
              jck (jkd (M21 109 1) = 1) <|
              jck (0 ≤ jw s0_8 ∧ jw s0_8 < 10) <|
              jk (
                jbW (f_X4_refuse M21) fun v27 M26 =>
                jck (jw v27 = 0 ∨ jw v27 = 1) <| some (v27, M26)) fun (k24 : Option (Int × jM)) =>
              if jw (M21 ((M21 109 1) + 6) (jw s0_8)) = 0 then (
                if jw (l3_1 + 1) < jw 3 then (
                  jbV (f_X4_advance M21) fun M30 =>
                  jlet (l3_1 + 1) fun l3_31 =>
                  self3 l3_31 M30)
                else (
                  k24))
              else (
                k24))
            else (
              some (1, M21))) fun (k15 : Option (Int × jM)) =>
          if jw l3_1 ≤ 0 then (
            k15)
          else (
            jck (jkd (M2 109 1) = 1) <|
            jck (0 ≤ jw s0_8 ∧ jw s0_8 < 10) <|
            if jw (M2 ((M2 109 1) + 6) (jw s0_8)) = 0 then (
              k15)
            else (
              k10)))) fun (k9 : Int → Option (Int × jM)) =>
      if jw (M2 109 3) = jw 97 then (
        jck (jkd (M2 109 1) = 1) <|
        jbR (f_X2_find ((M2 109 1) + 2) 2 (M2 109 4) (M2 109 5) M2) fun v36 =>
        k9 v36)
      else (
        k9 (-1)))
def FrE (v6 : Int) (REST : Int → jM → Option jM) (self14 : Int → jM → Option jM) (l4_12 : Int) (M13 : jM) : Option jM :=
    jbW (f_X10_isSign 43 M13) fun v17 M16 =>
    if jw v17 = 0 then (
      REST l4_12 M16)
    else (
      jk (
        jbV (f_X10_fails M16) fun M59 =>
        some M59) fun (k57 : Option (jM)) =>
      if jw l4_12 = jw 3 then (
        k57)
      else (
        jck (0 ≤ jw (((266 + (3 * v6)) + l4_12) - 1) ∧ jw (((266 + (3 * v6)) + l4_12) - 1) < 1089) <|
        jck (0 ≤ jw (4 + (M16 171 (jw (((266 + (3 * v6)) + l4_12) - 1)))) ∧ jw (4 + (M16 171 (jw (((266 + (3 * v6)) + l4_12) - 1)))) < 1089) <|
        if jw (M16 171 (jw (4 + (M16 171 (jw (((266 + (3 * v6)) + l4_12) - 1)))))) = 0 then (
          jlet (jst M16 166 4 ((M16 166 4) + 1)) fun M62 =>
          jbW (f_X10_elementTold 1 M62) fun v65 M64 =>
          jck (0 ≤ jw ((266 + (3 * v6)) + l4_12) ∧ jw ((266 + (3 * v6)) + l4_12) < 1089) <|
          jlet (jst M64 171 (jw ((266 + (3 * v6)) + l4_12)) v65) fun M67 =>
          jlet (l4_12 + 1) fun l4_68 =>
          self14 l4_68 M67)
        else (
          k57)))
def EE (j w : Int) (C : jM → Option jM) (X : jM) : Option jM := jbW (f_X10_elementTold j X) fun v9 M8 => jck (0 ≤ jw w ∧ jw w < 1089) <| jlet (jst M8 171 (jw w) v9) fun M11 => C M11
/-- the reference at a '+' -/
theorem e_plus {tx : Int → Int} {n p : Int} {B M : jM} (hO : okT tx n) (hB : rTx tx n B) (h : rS tx n B p M) : jT (f_X10_isSign 43 M) (fun q => q.1 = b2 (p < n ∧ tx p = 43) ∧ q.2 166 4 = p ∧ q.2 166 5 = p ∧ rS tx n B p q.2 ∧ fr6 M q.2) := by
  refine t_mono (e_isSign hO (rTx_R hB h.2.2) h.1 h.2.1 (by decide)) (fun q hq => ?_)
  obtain ⟨g0, g1, g2, g3⟩ := hq
  exact ⟨g0, g1, g2, ⟨rAt_p h.1 g1, by rw [g3.2 7 (by decide) (by decide)]; exact h.2.1, frR_t h.2.2 (frR_6 g3)⟩, g3⟩
/-- the reference refuses -/
theorem fl_f {e n p : Int} {tx : Int → Int} {A B Mc M : jM} (hc : frC e A Mc) (he : e = 3 ∨ e = 56) (hn : n ≤ 600) (h : rS tx n B p M) (h5 : M 166 5 = p) : fl e n A B (jst Mc 109 7 p) (jst M 166 7 (M 166 5)) := by
  have hp := rAt_b h.1
  refine fl_0 (by omega) hc he (by rw [pst_s]; exact h5) (frR_t h.2.2 ⟨fun a q _ _ => pst_f q, fun j _ _ q _ _ => pst_i q⟩) ?_
  unfold rPt
  rw [pst_i (by decide)]
  exact ⟨h.1.1, h.1.2.1⟩
theorem RD_el {e n s k i p p' E w g : Int} {tx : Int → Int} {A B M0 R0 Mc X M21 r : jM} (he : e = 3 ∨ e = 56) (hg : g = e + 16 + 1 + 6 * s) (hw : w = 266 + 3 * (12 * s + k) + i) (hs : 0 ≤ s ∧ s < 6) (hk : 0 ≤ k ∧ k < 12) (hi : 0 ≤ i ∧ i < 3) (hE : 0 ≤ E ∧ E < R0 171 0 ∧ E ≤ 9) (h : RD e tx n A B s k M0 R0 i p Mc X) (hc : cS e tx n A p' M21) (hr : rS tx n B p' (jst r 171 w E)) (h8 : M21 109 8 = Mc 109 8) (h13 : r 166 13 = X 166 13) (hm9 : ∀ a, a ≠ 109 → M21 a = jst (jst Mc (g + 3) (k * 3 + i) E) (g + 2) k (i + 1) a) (hr2 : ∀ a, a ≠ 166 → r a = X a) : RD e tx n A B s k M0 R0 (i + 1) p' M21 (jst r 171 w E) := by
  unfold RD at h ⊢
  rw [← hg] at h ⊢
  obtain ⟨-, -, q13, q8, ha, ha2, ha2k, ha3, hra, hrT, hbT, hx⟩ := h
  have g109 : g + 2 ≠ 109 ∧ g + 3 ≠ 109 := by omega
  have g3 : g + 3 ≠ g + 2 := by omega
  have g2 : g + 2 ≠ g + 3 := by omega
  have e71 : r 171 = X 171 := hr2 171 (by decide)
  have e109 : e + 52 < 109 := by omega
  clear he hg
  refine ⟨hc, hr, ?_, ?_, fun a b0 b1 b2 b3 => ?_, fun j b => ?_, fun _ => ?_, fun j b => ?_, fun a b0 b1 => ?_, fun j b => ?_, ?_, fun x x0 x1 => ?_⟩
  · rw [pst_c (by decide), h13]; exact q13
  · rw [h8]; exact q8
  · rw [hm9 a (by omega), pst_f b2, pst_f b3]; exact ha a b0 b1 b2 b3
  · rw [hm9 _ g109.1, pst_i b, pst_c g2]; exact ha2 j b
  · rw [hm9 _ g109.1, pst_s]
  · rw [hm9 _ g109.2, pst_c g3, pst_i (by omega)]; exact ha3 j b
  · rw [pst_f b1, hr2 a b0]; exact hra a b0 b1
  · rw [pst_i (by omega), e71]; exact hrT j b
  · refine bT_r hbT (okT_of (i := w) (fun j b => by rw [pst_i b, e71]) ?_)
    rw [pst_s]
    unfold okTi
    omega
  · rw [hm9 _ g109.2, pst_c g3]
    by_cases cx : x = i
    · subst cx
      rw [← hw, pst_s, pst_s]
      exact ⟨rfl, hE.1, hE.2.1⟩
    · rw [pst_i (by omega), pst_i (by omega), e71]
      exact hx x x0 (by omega)
/-- the reference at the head of its loop -/
theorem el_r {v i w : Int} {fr : Nat} {X : jM} {r y : Int × jM} {REST : Int → jM → Option jM} {Q : jM → Prop} (hw : w = 266 + 3 * v + i) (hv : 0 ≤ v ∧ v < 72) (hi : 0 ≤ i ∧ i < 3) (hrr : f_X10_elementTold (if i = 0 then 0 else 1) X = some r) (hyy : f_X10_isSign 43 (jst r.2 171 w r.1) = some y) (hj : jT (if jw y.1 = 0 then (REST (i + 1) y.2) else (jk (jbV (f_X10_fails y.2) fun M59 => some M59) fun (k57 : Option (jM)) => if i + 1 = 3 then (k57) else (jck (0 ≤ jw (4 + (y.2 171 w)) ∧ jw (4 + (y.2 171 w)) < 1089) <| if jw (y.2 171 (jw (4 + (y.2 171 w)))) = 0 then (EE 1 (266 + 3 * v + (i + 1)) (fun M' => jlp2 (FrE v REST) fr (i + 1 + 1) M') (jst y.2 166 4 ((y.2 166 4) + 1))) else (k57)))) Q) : jT (EE (if i = 0 then 0 else 1) (266 + 3 * v + i) (fun M' => jlp2 (FrE v REST) (fr + 1) (i + 1) M') X) Q := by
  unfold EE
  refine t_We (v := r.1) (M := r.2) hrr ?_
  rw [← hw, pw_of (z := w) (by omega) (by omega)]
  refine t_ck (by omega) (t_let ?_)
  show jT (jlp2 (FrE v REST) (fr + 1) (i + 1) (jst r.2 171 w r.1)) Q
  rw [lp2_u]
  unfold FrE
  refine t_We (v := y.1) (M := y.2) hyy ?_
  rw [show 266 + 3 * v + (i + 1) - 1 = w from by omega, pw_of (z := w) (by omega) (by omega), pw_of (z := i + 1) (by omega) (by omega), pw_of (z := 3) (by omega) (by omega)]
  by_cases c : jw y.1 = 0
  · rw [if_pos c] at hj ⊢
    exact hj
  · rw [if_neg c] at hj ⊢
    rw [eK] at hj ⊢
    by_cases c3 : i + 1 = 3
    · rw [if_pos c3] at hj ⊢
      exact hj
    · rw [if_neg c3] at hj ⊢
      refine t_ck (by omega) ?_
      exact hj
/-- what is asked of the reference at the elements -/
def elP (e : Int) (tx : Int → Int) (n : Int) (A B : jM) (s k p0 : Int) (M0 R0 : jM) (i : Int) (fr : Nat) (X : jM) (qc : Int × jM) : Prop := ∀ (REST : Int → jM → Option jM) (Q : jM → Prop),
      (∀ m' p' X', qc.1 = 1 → 1 ≤ m' → m' ≤ 3 → p0 < p' → RD e tx n A B s k M0 R0 m' p' qc.2 X' → jT (REST m' X') Q) →
      (∀ X', qc.1 = 0 → fl e n A B qc.2 X' → Q X' ∧ ∀ m', 0 ≤ m' → m' ≤ 3 → jT (REST m' X') Q) →
      jT (EE (if i = 0 then 0 else 1) (266 + 3 * (12 * s + k) + i) (fun M' => jlp2 (FrE (12 * s + k) REST) fr (i + 1) M') X) Q
set_option maxHeartbeats 4000000 in
theorem el_main {e n s k p0 i p E : Int} {fc fr : Nat} {tx : Int → Int} {A B M0 R0 Mc X : jM} {r : Int × jM} (he : e = 3 ∨ e = 56) (hO : okT tx n) (hB : rTx tx n B) (hs : 0 ≤ s ∧ s < 6) (hk : 0 ≤ k ∧ k < 12) (hi : 0 ≤ i ∧ i < 3) (hp0 : p0 ≤ p) (hpp : 0 ≤ p ∧ p < n) (hD : RD e tx n A B s k M0 R0 i p Mc X) (hE : 0 ≤ E ∧ E < R0 171 0 ∧ E ≤ 9) (hk1 : Mc (e + 6) E = X 171 (4 + E)) (hk2 : 0 ≤ X 171 (4 + E) ∧ X 171 (4 + E) ≤ 2) (hrr : f_X10_elementTold (if i = 0 then 0 else 1) X = some r) (hrE : r.1 = E) (hrS : rS tx n B (nx tx n p) r.2) (hr2 : ∀ a, a ≠ 166 → r.2 a = X a) (hr3 : r.2 166 13 = X 166 13)
    (hIH : i + 1 < 3 → ∀ p' Mc' X', p0 ≤ p' → RD e tx n A B s k M0 R0 (i + 1) p' Mc' X' → jT (jlp2 (FcE (e + 16 + 1 + 6 * s) k) fc (i + 1) Mc') (elP e tx n A B s k p0 M0 R0 (i + 1) fr X')) :
    jT (jck (0 ≤ k * 3 + i ∧ k * 3 + i < 36) <|
            jlet (jst Mc (e + 16 + 1 + 6 * s + 3) (k * 3 + i) E) fun M17 =>
            jck (0 ≤ k ∧ k < 12) <|
            jlet (jst M17 (e + 16 + 1 + 6 * s + 2) k (i + 1)) fun M19 =>
            jbV (f_X4_advance M19) fun M21 =>
            if jw (M21 109 3) = jw 43 then (
              jck (jkd (M21 109 1) = 1) <|
              jck (0 ≤ E ∧ E < 10) <|
              jk (
                jbW (f_X4_refuse M21) fun v27 M26 =>
                jck (jw v27 = 0 ∨ jw v27 = 1) <| some (v27, M26)) fun (k24 : Option (Int × jM)) =>
              if jw (M21 ((M21 109 1) + 6) E) = 0 then (
                if jw (i + 1) < 3 then (
                  jbV (f_X4_advance M21) fun M30 =>
                  jlet (i + 1) fun l3_31 =>
                  jlp2 (FcE (e + 16 + 1 + 6 * s) k) fc l3_31 M30)
                else (
                  k24))
              else (
                k24))
            else (
              some (1, M21))) (elP e tx n A B s k p0 M0 R0 i (fr + 1) X) := by
  have n6 := hO.2.1
  have hb1 : p < nx tx n p ∧ 0 ≤ nx tx n p ∧ nx tx n p ≤ n := by
    have := nx_b (tx := tx) (n := n) (p := p) (by omega)
    omega
  have hb2 : nx tx n p ≤ nx tx n (nx tx n p) := by
    have := nx_b (tx := tx) (n := n) (p := nx tx n p) (by omega)
    omega
  have hg2 : (109 : Int) ≠ e + 16 + 1 + 6 * s + 2 := by omega
  have hg3 : (109 : Int) ≠ e + 16 + 1 + 6 * s + 3 := by omega
  have hg2' : e + 16 + 1 + 6 * s + 2 ≠ 109 := by omega
  have hg3' : e + 16 + 1 + 6 * s + 3 ≠ 109 := by omega
  have hv72 : 0 ≤ 12 * s + k ∧ 12 * s + k < 72 := by omega
  have h62 : e + 6 ≠ e + 16 + 1 + 6 * s + 2 := by omega
  have h63 : e + 6 ≠ e + 16 + 1 + 6 * s + 3 := by omega
  have h69 : e + 6 ≠ 109 := by omega
  have hin2 : e ≤ e + 16 + 1 + 6 * s + 2 ∧ e + 16 + 1 + 6 * s + 2 ≤ e + 52 := by omega
  have hin3 : e ≤ e + 16 + 1 + 6 * s + 3 ∧ e + 16 + 1 + 6 * s + 3 ≤ e + 52 := by omega
  have hne2 : e + 16 + 1 + 6 * s + 2 ≠ e + 2 ∧ e + 16 + 1 + 6 * s + 2 ≠ e + 13 := by omega
  have hne3 : e + 16 + 1 + 6 * s + 3 ≠ e + 2 ∧ e + 16 + 1 + 6 * s + 3 ≠ e + 13 := by omega
  have hw1 : 4 + E ≠ 266 + 3 * (12 * s + k) + i := by omega
  have hnin : ∀ a, e ≤ a → a ≤ e + 52 → a ≠ 109 := fun a b0 b1 => by omega
  have hwi : jw (i + 1) = i + 1 := pw_of (z := i + 1) (by omega) (by omega)
  have hc := hD.1
  have e71 : r.2 171 = X 171 := hr2 171 (by decide)
  have w4E : jw (4 + E) = 4 + E := pw_of (z := 4 + E) (by omega) (by omega)
  have h4E : 0 ≤ 4 + E ∧ 4 + E < 1089 := by omega
  have wKK : jw (X 171 (4 + E)) = X 171 (4 + E) := pw_of (z := X 171 (4 + E)) (by omega) (by omega)
  have hc2 : cS e tx n A p (jst (jst Mc (e + 16 + 1 + 6 * s + 3) (k * 3 + i) E) (e + 16 + 1 + 6 * s + 2) k (i + 1)) := cS_st (cS_st hc he (frC_s hin3 (Or.inl hne3)) (fun j _ _ => pst_c hg3)) he (frC_s hin2 (Or.inl hne2)) (fun j _ _ => pst_c hg2)
  refine t_ck (by omega) ?_
  refine t_let ?_
  refine t_ck hk ?_
  refine t_let ?_
  refine t_V (t_mono (cS_adv hc2 he) (fun M21 h21 => ?_))
  obtain ⟨h21, h219⟩ := h21
  have hYr : rS tx n B (nx tx n p) (jst r.2 171 (266 + 3 * (12 * s + k) + i) r.1) := rS_1 hrS
  have hm9 : ∀ a, a ≠ 109 → M21 a = jst (jst Mc (e + 16 + 1 + 6 * s + 3) (k * 3 + i) E) (e + 16 + 1 + 6 * s + 2) k (i + 1) a := h219.1
  have hRD : RD e tx n A B s k M0 R0 (i + 1) (nx tx n p) M21 (jst r.2 171 (266 + 3 * (12 * s + k) + i) r.1) := by
    rw [hrE] at hYr ⊢
    exact RD_el he rfl rfl hs hk hi hE hD h21 hYr (by rw [h219.2 8 (by decide) (by decide) (by decide), pst_c hg2, pst_c hg3]) hr3 hm9 hr2
  have hk3 : M21 109 3 = tkK tx n (nx tx n p) := h21.1.2.2.2.2.2.1
  have d := tk_sg (tx := tx) (n := n) (p := nx tx n p) (c := 43) (by decide)
  have hkb := tkK_b hO h21.1.2.1
  obtain ⟨y, hyy, y0, y1, y2, y3, y4⟩ := e_plus hO hB hYr
  have yT : y.2 171 = jst r.2 171 (266 + 3 * (12 * s + k) + i) r.1 171 := y4.1 171 (by decide)
  have yE : y.2 171 (266 + 3 * (12 * s + k) + i) = E := by rw [yT, pst_s, hrE]
  have yK : y.2 171 (4 + E) = X 171 (4 + E) := by rw [yT, pst_i hw1, e71]
  have hRDy : RD e tx n A B s k M0 R0 (i + 1) (nx tx n p) M21 y.2 := by
    obtain ⟨z1, z2, z3, z4, z5, z6, z7, z8, z9, z10, z11, z12⟩ := hRD
    refine ⟨z1, y3, by rw [y4.2 13 (by decide) (by decide)]; exact z3, z4, z5, z6, z7, z8, fun a b0 b1 => by rw [y4.1 a b0]; exact z9 a b0 b1, ?_, ?_, ?_⟩
    · rw [yT]; exact z10
    · rw [yT]; exact z11
    · rw [yT]; exact z12
  rw [hk3, pw_of (z := tkK tx n (nx tx n p)) (by omega) (by omega), pw_of (z := 43) (by omega) (by omega)]
  refine t_if (fun cp => ?_) (fun cp => ?_)
  · have hy := d.1.1 cp
    have hyE := d.2 hy
    clear d
    rw [b2_t hy] at y0
    rw [h21.2.1]
    refine t_ck (kd_e he) ?_
    refine t_ck (by omega) ?_
    have m6 : M21 (e + 6) E = X 171 (4 + E) := by
      rw [hm9 (e + 6) h69, pst_c h62, pst_c h63]
      exact hk1
    refine t_kP (fun kk => (X 171 (4 + E) ≠ 0 ∨ i + 1 = 3) → jT kk (elP e tx n A B s k p0 M0 R0 i (fr + 1) X)) ?_ ?_
    · intro hbad
      refine c_refuse ?_
      intro REST Q H1 H2
      dsimp only at H1 H2
      rw [h21.1.2.2.2.2.1] at H1 H2
      have hfl := fl_f (A := A) h21.2.2.2 he n6 y3 y2
      refine el_r (REST := REST) rfl hv72 hi hrr hyy ?_
      rw [y0]
      refine t_neg (by decide) ?_
      refine t_kP (fun kk => jT kk Q) ?_ ?_
      · refine t_Ve (e_fails0 y3.2.1) ?_
        exact t_some (H2 _ rfl hfl).1
      · intro k57 h57
        rw [yE, w4E, yK, wKK]
        refine t_if (fun _ => h57) (fun c3 => ?_)
        refine t_ck h4E ?_
        exact t_neg (hbad.resolve_right c3) h57
    · intro k24 h24
      rw [m6, wKK, hwi]
      refine t_if (fun cz => ?_) (fun cz => h24 (Or.inl cz))
      refine t_if (fun c3 => ?_) (fun c3 => h24 (Or.inr (by omega)))
      refine t_V (t_mono (cS_adv h21 he) (fun M30 h30 => ?_))
      obtain ⟨h30, h309⟩ := h30
      refine t_let ?_
      have hX2 : rS tx n B (nx tx n (nx tx n p)) (jst y.2 166 4 (y.2 166 4 + 1)) := by
        refine ⟨?_, by rw [pst_i (by decide)]; exact y3.2.1, frR_t y3.2.2 (frR_6 (fr6_4 _ _))⟩
        unfold rAt
        rw [pst_s, y1]
        refine ⟨by omega, by omega, ?_⟩
        show bl tx n (nx tx n p + 1) = bl tx n (tkE tx n (nx tx n p))
        rw [hyE]
      refine t_mono (hIH c3 (nx tx n (nx tx n p)) M30 (jst y.2 166 4 (y.2 166 4 + 1)) (by omega) ?_) (fun qc hqc REST Q H1 H2 => ?_)
      · obtain ⟨z1, z2, z3, z4, z5, z6, z7, z8, z9, z10, z11, z12⟩ := hRDy
        have g9 : ∀ a, a ≠ 109 → M30 a = M21 a := h309.1
        refine ⟨h30, hX2, by rw [pst_i (by decide)]; exact z3, by rw [h309.2 8 (by decide) (by decide) (by decide)]; exact z4, fun a b0 b1 b2 b3 => by rw [g9 a (hnin a b0 b1)]; exact z5 a b0 b1 b2 b3, ?_, ?_, ?_, fun a b0 b1 => by rw [pst_f b0]; exact z9 a b0 b1, ?_, ?_, ?_⟩
        · rw [g9 _ hg2']; exact z6
        · rw [g9 _ hg2']; exact z7
        · rw [g9 _ hg3']; exact z8
        · rw [pst_f (by decide)]; exact z10
        · rw [pst_f (by decide)]; exact z11
        · rw [g9 _ hg3', pst_f (by decide)]; exact z12
      · refine el_r (REST := REST) rfl hv72 hi hrr hyy ?_
        rw [y0]
        refine t_neg (by decide) ?_
        refine t_k ?_
        rw [yE, w4E, yK, wKK]
        refine t_neg (by omega) ?_
        refine t_ck h4E ?_
        refine t_pos cz ?_
        have := hqc REST Q H1 H2
        rw [if_neg (show ¬ i + 1 = 0 by omega)] at this
        exact this
  · have hy : ¬ (nx tx n p < n ∧ tx (nx tx n p) = 43) := fun q => cp (d.1.2 q)
    clear d
    rw [b2_f hy] at y0
    refine t_some ?_
    intro REST Q H1 H2
    dsimp only at H1 H2
    refine el_r (REST := REST) rfl hv72 hi hrr hyy ?_
    rw [y0]
    refine t_pos (by decide) ?_
    exact H1 (i + 1) (nx tx n p) y.2 rfl (by omega) (by omega) (by omega) hRDy
set_option maxHeartbeats 4000000 in
theorem el_step {e n s k p0 i p : Int} {fc fr : Nat} {tx : Int → Int} {A B M0 R0 Mc X : jM} (hR : rc e tx n A B) (hs : 0 ≤ s ∧ s < 6) (hk : 0 ≤ k ∧ k < 12) (hH : rH e M0 (R0 171) (R0 172)) (hi : 0 ≤ i ∧ i < 3) (hp0 : p0 ≤ p) (h : RD e tx n A B s k M0 R0 i p Mc X)
    (hIH : i + 1 < 3 → ∀ p' Mc' X', p0 ≤ p' → RD e tx n A B s k M0 R0 (i + 1) p' Mc' X' → jT (jlp2 (FcE (e + 16 + 1 + 6 * s) k) fc (i + 1) Mc') (elP e tx n A B s k p0 M0 R0 (i + 1) fr X')) :
    jT (jlp2 (FcE (e + 16 + 1 + 6 * s) k) (fc + 1) i Mc) (elP e tx n A B s k p0 M0 R0 i (fr + 1) X) := by
  obtain ⟨he, hO, hB, r10, r6⟩ := hR
  have n6 := hO.2.1
  have hD := h
  obtain ⟨hc, hr, h13, h8, ha, ha2, ha2k, ha3, hra, hrT, hbT, hx⟩ := h
  have hp := rAt_b hr.1
  have hpp : 0 ≤ p ∧ p ≤ n := ⟨hp.1, hp.2.1⟩
  clear hp
  have hm := hbT.1
  have e0 : X 171 0 = R0 171 0 := hrT 0 (by omega)
  have hnm : rNm (Mc (e + 3)) (Mc (e + 4)) (X 171) 14 (X 171 0) := by
    rw [ha (e + 3) (by omega) (by omega) (by omega) (by omega), ha (e + 4) (by omega) (by omega) (by omega) (by omega), e0]
    exact rNm_c hH.2.2.2.2.2.1 (fun j q0 q1 => hrT j (by omega))
  have hEb := elX_b (D := X 171) (tx := tx) (n := n) (p := p) hm.1
  have hkd : elX (X 171) tx n p (X 171 0) ≠ -1 → Mc (e + 6) (elX (X 171) tx n p (X 171 0)) = X 171 (4 + elX (X 171) tx n p (X 171 0)) ∧ 0 ≤ X 171 (4 + elX (X 171) tx n p (X 171 0)) ∧ X 171 (4 + elX (X 171) tx n p (X 171 0)) ≤ 2 := fun q => by
    have h1 := hEb.2 q
    have h2 := (hH.2.2.2.2.2.2.2.1 (elX (X 171) tx n p (X 171 0)) h1.1 (by omega)).2
    rw [ha (e + 6) (by omega) (by omega) (by omega) (by omega), h2, ← hrT (4 + elX (X 171) tx n p (X 171 0)) (by omega)]
    exact ⟨rfl, hbT.2.2.2.2.1 _ h1.1 (by omega)⟩
  have hfind : p < rn isLt tx n p → f_X2_find (e + 2) 2 (Mc 109 4) (Mc 109 5) Mc = some (elX (X 171) tx n p (X 171 0)) := fun q => cS_find hc he q (by rw [ha (e + 2) (by omega) (by omega) (by omega) (by omega), hH.2.2.1, e0]) hm hnm
  have hno97 : ¬ p < rn isLt tx n p → elX (X 171) tx n p (X 171 0) = -1 := fun q => by
    unfold elX
    exact if_neg (by omega)
  obtain ⟨r, hrr, hr1, hr2, hr3, hr4⟩ := rS_el (j := if i = 0 then 0 else 1) hO hB hr (by split <;> omega) hm (rNm_i hnm) (fun x q0 q1 => hbT.2.2.2.2.1 x q0 (by omega))
  have hjj : ((if i = 0 then (0 : Int) else 1) = 0 ∨ X 171 (4 + elX (X 171) tx n p (X 171 0)) = 0) ↔ (i = 0 ∨ X 171 (4 + elX (X 171) tx n p (X 171 0)) = 0) := by
    by_cases c : i = 0
    · rw [if_pos c]; exact ⟨fun _ => Or.inl c, fun _ => Or.inl rfl⟩
    · rw [if_neg c]; exact ⟨fun q => q.elim (fun z => by omega) Or.inr, fun q => q.elim (fun z => by omega) Or.inr⟩
  rw [hjj] at hr1
  clear hjj
  generalize hE : elX (X 171) tx n p (X 171 0) = E at *
  rw [lp2_u]
  show jT (if jw 3 ≤ jw i then _ else _) _
  rw [pw_of (z := 3) (by omega) (by omega), pw_of (z := i) (by omega) (by omega)]
  refine t_neg (by omega) ?_
  refine t_kP (fun kk => jT (kk E) (elP e tx n A B s k p0 M0 R0 i (fr + 1) X)) ?_ ?_
  · clear hfind hno97
    refine t_kP (fun kk => ¬ (E ≠ -1 ∧ (i = 0 ∨ X 171 (4 + E) = 0)) → jT kk (elP e tx n A B s k p0 M0 R0 i (fr + 1) X)) ?_ ?_
    · intro hno
      refine c_refuse ?_
      intro REST Q H1 H2
      dsimp only at H1 H2
      rw [hc.1.2.2.2.2.1] at H1 H2
      have hz := hr1.resolve_left (fun z => hno z.1)
      clear hr1 hno hEb hkd
      have hfl := fl_0 (e := e) (A := A) (Mc := Mc) (p := p) (by omega) hc.2.2.2 he hz.2.2.1 hz.2.2.2.1 hz.2.2.2.2
      have hf1 := fl_1 hfl (266 + 3 * (12 * s + k) + i) r.1
      unfold EE
      refine t_We hrr ?_
      rw [pw_of (z := 266 + 3 * (12 * s + k) + i) (by omega) (by omega)]
      refine t_ck (by omega) (t_let ?_)
      show jT (jlp2 (FrE (12 * s + k) REST) (fr + 1) (i + 1) _) Q
      rw [lp2_u]
      unfold FrE
      refine t_W (t_mono (l_isSign hO (rTx_R hB hf1.2.2.2.1) hf1.2.2.2.2 (fl_okF hf1)) (fun q hq => ?_))
      rw [hq.1]
      exact t_pos (by decide) ((H2 _ rfl (fl_fX hf1 hq.2)).2 (i + 1) (by omega) (by omega))
    · intro k10 h10
      rw [pw_of (z := E) (by omega) (by omega), pw_of (z := -1) (by omega) (by omega), pw_of (z := k) (by omega) (by omega), pw_of (z := k * 3 + i) (by omega) (by omega)]
      refine t_if (fun c => h10 (fun q => q.1 c)) (fun c => ?_)
      have hEE := hEb.2 c
      have hKK := hkd c
      clear hEb hkd
      have hpn : p < n := by
        have := (rn_b (c := isLt) (tx := tx) hpp.2).2.1
        omega
      have hE9 : E ≤ 9 := by omega
      refine t_kP (fun kk => (i = 0 ∨ X 171 (4 + E) = 0) → jT kk (elP e tx n A B s k p0 M0 R0 i (fr + 1) X)) ?_ ?_
      · intro hok
        have hz := hr1.resolve_right (fun z => z.1 ⟨c, hok⟩)
        exact el_main he hO hB hs hk hi hp0 ⟨hpp.1, hpn⟩ hD ⟨hEE.1, by rw [← e0]; exact hEE.2.1, hE9⟩ hKK.1 hKK.2 hrr hz.2.1 hz.2.2 hr2 hr3 hIH
      · intro k15 h15
        clear hr1
        refine t_if (fun c1 => h15 (Or.inl (by omega))) (fun c1 => ?_)
        rw [hc.2.1]
        refine t_ck (kd_e he) ?_
        refine t_ck (by omega) ?_
        rw [hKK.1, pw_of (z := X 171 (4 + E)) (by omega) (by omega)]
        exact t_if (fun c2 => h15 (Or.inr c2)) (fun c2 => h10 (fun q => q.2.elim (fun z => c1 (by rw [z]; decide)) c2))
  · clear hr1 hkd hEb
    intro k9 h9
    have hkb := tkK_b hO hc.1.2.1
    have d1 := (tk_lt hO hc.1.2.1).1
    rw [hc.1.2.2.2.2.2.1, pw_of (z := tkK tx n p) (by omega) (by omega), pw_of (z := 97) (by omega) (by omega), hc.2.1]
    refine t_if (fun c => ?_) (fun c => ?_)
    · refine t_ck (kd_e he) ?_
      exact t_Re (hfind (d1.1 c)) h9
    · have := hno97 (fun q => c (d1.2 q))
      rw [← this]
      exact h9
theorem el_pair {e n s k p0 : Int} {tx : Int → Int} {A B M0 R0 : jM} (hR : rc e tx n A B) (hs : 0 ≤ s ∧ s < 6) (hk : 0 ≤ k ∧ k < 12) (hH : rH e M0 (R0 171) (R0 172)) : ∀ (m fc fr : Nat) (i p : Int) (Mc X : jM), (m : Int) = 2 - i → 0 ≤ i → m < fc → m < fr → p0 ≤ p → RD e tx n A B s k M0 R0 i p Mc X →
    jT (jlp2 (FcE (e + 16 + 1 + 6 * s) k) fc i Mc) (elP e tx n A B s k p0 M0 R0 i fr X) := by
  intro m
  induction m with
  | zero =>
    intro fc fr i p Mc X hm hi hfc hfr hp0 h
    obtain ⟨f, rfl⟩ : ∃ f, fc = f + 1 := ⟨fc - 1, by omega⟩
    obtain ⟨g, rfl⟩ : ∃ g, fr = g + 1 := ⟨fr - 1, by omega⟩
    exact el_step hR hs hk hH (by omega) hp0 h (fun q => by omega)
  | succ m ih =>
    intro fc fr i p Mc X hm hi hfc hfr hp0 h
    obtain ⟨f, rfl⟩ : ∃ f, fc = f + 1 := ⟨fc - 1, by omega⟩
    obtain ⟨g, rfl⟩ : ∃ g, fr = g + 1 := ⟨fr - 1, by omega⟩
    exact el_step hR hs hk hH (by omega) hp0 h (fun q p' Mc' X' hp' h' => ih f g (i + 1) p' Mc' X' (by omega) (by omega) (by omega) (by omega) hp' h')
