/-! ===== reading: marks shown ===== -/
theorem sw_n0 : ∀ k : Nat, k < 29 → 1 ≤ jsln (29 + (k : Int)) := by decide +kernel
theorem sw_ne {k : Int} (h : 29 ≤ k ∧ k < 58) : 1 ≤ jsln k := by
  have := sw_n0 (k - 29).toNat (by omega)
  rw [← pn_nat (by omega), show 29 + (k - 29) = k from by omega] at this
  exact this
/-- a word stands there -/
theorem wd_lt {tx : Int → Int} {n p k : Int} (hp : p ≤ n) (hk : 29 ≤ k ∧ k < 58) (h : wd tx n p = sw k) : p < rn isLt tx n p := by
  have h1 := wd_sw h
  have h2 := sw_ne hk
  have h3 := rn_b (c := isLt) (tx := tx) hp
  omega
theorem rS_tw {tx : Int → Int} {n p k : Int} {B M : jM} (hO : okT tx n) (hB : rTx tx n B) (h : rS tx n B p M) (hk : 29 ≤ k ∧ k < 58) : jT (f_X10_takesWord k M) (fun q => (wd tx n p = sw k ∧ q.1 = 1 ∧ rS tx n B (nx tx n p) q.2 ∨ wd tx n p ≠ sw k ∧ q.1 = 0 ∧ rS tx n B p q.2 ∧ q.2 166 5 = p) ∧ fr6 M q.2) := by
  have hp := rAt_b h.1
  refine t_mono (e_takesW hO (rTx_R hB h.2.2) h.1 h.2.1 (by omega)) (fun q hq => ?_)
  obtain ⟨g0, g1, g2, g3⟩ := hq
  have h7 : q.2 166 7 = -1 := by rw [g2.2 7 (by decide) (by decide)]; exact h.2.1
  have hf := frR_t h.2.2 (frR_6 g2)
  refine ⟨?_, g2⟩
  by_cases c : wd tx n p = sw k
  · rw [if_pos c] at g3
    have hl := wd_lt (by omega) hk c
    exact Or.inl ⟨c, by rw [g0, b2_t c], by rw [nx_w hO ⟨hp.1, hp.2.1⟩ hl]; exact g3, h7, hf⟩
  · rw [if_neg c] at g3
    exact Or.inr ⟨c, by rw [g0, b2_f c], ⟨g3, h7, hf⟩, g1⟩
theorem cS_votes {e s : Int} {tx : Int → Int} {n p row off J : Int} {A M : jM} (h : cS e tx n A p M) (he : e = 3 ∨ e = 56) (hs : 0 ≤ s ∧ s < 6) (hJ : M e 0 = J) (hJb : 1 ≤ J ∧ J ≤ 9) (hrow : 0 ≤ row ∧ row < 15) :
    jT (f_X4_votes (e + 16 + 1 + 6 * s) row off M) (fun q => (ltOk tx n p J ∧ q.1 = 1 ∧ cS e tx n A (nx tx n p) q.2 ∧ (∀ k, 0 ≤ k → k < J → q.2 (e + 16 + 1 + 6 * s + 5) (row * 9 + k) = off + (tx (p + k) - 97)) ∧ (∀ j, (j < row * 9 ∨ row * 9 + 9 ≤ j) → q.2 (e + 16 + 1 + 6 * s + 5) j = M (e + 16 + 1 + 6 * s + 5) j) ∨ ¬ ltOk tx n p J ∧ q.1 = 0 ∧ q.2 109 7 = p ∧ frC e A q.2) ∧ (∀ a, a ≠ 109 → a ≠ e + 16 + 1 + 6 * s + 5 → q.2 a = M a) ∧ q.2 109 8 = M 109 8) := by
  obtain ⟨g1, g2, g3, g4, g5⟩ := h.1
  refine t_mono (c_votes (off := off) h.1 h.2.1 (kd_e he) hJ hJb (by omega) hrow) (fun q hq => ?_)
  obtain ⟨hq1, hq2⟩ := hq
  have hf : frC e M q.2 := ⟨fun a b0 b1 => hq2 a b0 (by omega), by rw [hq2 (e + 2) (by omega) (by omega)], by rw [hq2 (e + 13) (by omega) (by omega)]⟩
  have hr := rn_b (c := isLt) (tx := tx) g2.2
  rcases hq1 with hy | hy
  · obtain ⟨y1, y2, y3, y4, y5, y6⟩ := hy
    have hl : p < rn isLt tx n p := by have := y1.1; omega
    refine ⟨Or.inl ⟨y1, y2, ?_, y4, y5⟩, hq2, y6 8 (by decide) (by decide) (by decide)⟩
    rw [nx_w g1 g2 hl]
    exact cS_mv h he hf (y6 1 (by decide) (by decide) (by decide)) (y6 2 (by decide) (by decide) (by decide)) (y6 7 (by decide) (by decide) (by decide)) (bl_b ⟨by omega, hr.2.1⟩ |> fun q => ⟨q.1, q.2.1⟩) y3
  · exact ⟨Or.inr ⟨hy.1, hy.2.1, hy.2.2.1, frC_t h.2.2.2 hf⟩, hq2, hy.2.2.2 8 (by decide)⟩
theorem rS_let {tx : Int → Int} {n p J a b : Int} {B M : jM} (hO : okT tx n) (hB : rTx tx n B) (h : rS tx n B p M) (hJ : M 171 2 = J) (hJb : 1 ≤ J ∧ J ≤ 9) (hab : 0 ≤ a ∧ a + 9 ≤ 971) : jT (f_X10_letters a b M) (fun X => (ltOk tx n p J ∧ rS tx n B (nx tx n p) X ∧ (∀ k, 0 ≤ k → k < J → X 172 (a + k) = tx (p + k) - 97 - b) ∧ (∀ j, (j < a ∨ a + J ≤ j) → X 172 j = M 172 j) ∨ ¬ ltOk tx n p J ∧ X 166 7 = p ∧ frR B X ∧ rPt n X) ∧ (∀ c, c ≠ 166 → c ≠ 172 → X c = M c) ∧ X 166 13 = M 166 13 ∧ X 166 14 = M 166 14) := by
  have hp := rAt_b h.1
  refine t_mono (e_letters (b := b) hO (rTx_R hB h.2.2) h.1 h.2.1 hJ hJb hab) (fun X hX => ?_)
  obtain ⟨h1, h2, h3, h4⟩ := hX
  have hf : frR B X := frR_t h.2.2 ⟨fun c q0 q1 q2 => h3 c q0 q2, fun j q0 q1 q2 _ _ => h4 j q0 q1 q2⟩
  refine ⟨?_, h3, h4 13 (by decide) (by decide) (by decide), h4 14 (by decide) (by decide) (by decide)⟩
  rcases h1 with hy | hy
  · have hl : p < rn isLt tx n p := by have := hy.1.1; omega
    exact Or.inl ⟨hy.1, ⟨by rw [nx_w hO ⟨hp.1, hp.2.1⟩ hl]; exact hy.2.2.1, hy.2.1, hf⟩, hy.2.2.2.1, hy.2.2.2.2⟩
  · exact Or.inr ⟨hy.1, hy.2.1, hf, h2⟩
/-- letters that are votes -/
theorem lt_v {tx : Int → Int} {n p J : Int} (hO : okT tx n) (hp : 0 ≤ p ∧ p ≤ n) (h : ltOk tx n p J) : (∀ k, 0 ≤ k → k < J → 97 ≤ tx (p + k) ∧ tx (p + k) ≤ 107) ∧ (1 ≤ J → p < n) := by
  have hr := rn_b (c := isLt) (tx := tx) hp.2
  have h1 := h.1
  refine ⟨fun k q0 q1 => ?_, fun q => by omega⟩
  have := isLt_i.1 (hr.2.2.1 (p + k) (by omega) (by omega))
  have := h.2 k q0 q1
  omega
/-- one row of marks -/
theorem evT_show {e p p' sh s c : Int} {tx : Int → Int} {M M' : jM} {T N N' : Int → Int} {v : Int → Int} (h : evT e p sh M T N) (hp : p ≤ p') (hs : 0 ≤ s ∧ s < 6) (hc : 0 ≤ c ∧ c < 3) (hM : ∀ a, e ≤ a → a ≤ e + 52 → a ≠ e + 16 + 1 + 6 * s + 5 → M' a = M a) (h1 : ∀ k, 0 ≤ k → k < T 2 → M' (e + 16 + 1 + 6 * s + 5) ((12 + c) * 9 + k) = v k) (h2 : ∀ j, (j < (12 + c) * 9 ∨ (12 + c) * 9 + 9 ≤ j) → M' (e + 16 + 1 + 6 * s + 5) j = M (e + 16 + 1 + 6 * s + 5) j) (n1 : ∀ k, 0 ≤ k → k < T 2 → N' (648 + 9 * (3 * s + c) + k) = v k) (n2 : ∀ j, (j < 648 + 9 * (3 * s + c) ∨ 648 + 9 * (3 * s + c) + T 2 ≤ j) → N' j = N j) (hv : ∀ k, 0 ≤ k → k < T 2 → 0 ≤ v k ∧ v k ≤ 10) : evT e p' 1 M' T N' := by
  have hT := h.1
  have t2 := hT.2.2.1
  have bn' : bN N' := bN_r h.2.1 (fun j => by
    by_cases cj : 648 + 9 * (3 * s + c) ≤ j ∧ j < 648 + 9 * (3 * s + c) + T 2
    · have e1 := n1 (j - (648 + 9 * (3 * s + c))) (by omega) (by omega)
      have e2 := hv (j - (648 + 9 * (3 * s + c))) (by omega) (by omega)
      rw [show 648 + 9 * (3 * s + c) + (j - (648 + 9 * (3 * s + c))) = j from by omega] at e1
      right
      rw [e1]
      unfold okNi
      omega
    · exact Or.inl (n2 j (by omega)))
  refine evT_sk h hp (fun a b0 b1 => hM a b0 (by omega) (by omega)) (fun _ _ => rfl) (fun j b => n2 j (by omega)) hT bn' h.2.2.1 (fun s' q0 q1 => ?_) h.2.2.2.2.2.1 (fun i q0 q1 => by rw [n2 (882 + i) (by omega)]; exact h.2.2.2.2.2.2.1 i q0 q1) (Or.inr rfl) (fun q => by omega)
  have hsk := h.2.2.2.2.1 s' q0 q1
  have hg : M' (e + 16 + 1 + 6 * s') = M (e + 16 + 1 + 6 * s') := hM _ (by omega) (by omega) (by omega)
  by_cases cs : s' = s
  · subst cs
    have h12 := hT.2.2.2.2.2.2.1 s' q0 q1
    obtain ⟨a1, a2, a3, a4, a5⟩ := hsk
    unfold rSk
    rw [hg, hM (e + 16 + 1 + 6 * s' + 1) (by omega) (by omega) (by omega), hM (e + 16 + 1 + 6 * s' + 2) (by omega) (by omega) (by omega), hM (e + 16 + 1 + 6 * s' + 3) (by omega) (by omega) (by omega), hM (e + 16 + 1 + 6 * s' + 4) (by omega) (by omega) (by omega)]
    refine ⟨a1, ?_, a3, fun k k0 k1 => ?_, fun c' j c0 c1 j0 j1 => ?_⟩
    · rw [a2]
      have : ∀ m : Nat, m ≤ 12 → q_or (fun k => N (882 + (12 * s' + k))) m = q_or (fun k => N' (882 + (12 * s' + k))) m := by
        intro m
        induction m with
        | zero => intro _; rfl
        | succ m ih =>
          intro hm
          unfold q_or
          rw [ih (by omega), n2 (882 + (12 * s' + (m : Int))) (by omega)]
      rw [this _ (by omega)]
    · obtain ⟨b1, b2, b3, b4, b5⟩ := a4 k k0 k1
      refine ⟨b1, b2, b3, ?_, fun j j0 j1 => ?_⟩
      · rw [n2 (810 + (12 * s' + k)) (by omega)]
        exact b4
      · rw [h2 (k * 9 + j) (by omega), n2 (9 * (12 * s' + k) + j) (by omega)]
        exact b5 j j0 j1
    · by_cases cc : c' = c
      · subst cc
        rw [h1 j j0 j1, n1 j j0 j1]
      · rw [h2 ((12 + c') * 9 + j) (by omega), n2 (648 + 9 * (3 * s' + c') + j) (by omega)]
        exact a5 c' j c0 c1 j0 j1
  · exact rSk_c hT ⟨q0, q1⟩ hsk (by rw [hg]; exact hsk.2.2.1) (by rw [hg]) (by rw [hg]) (fun a b0 b1 => hM a (by omega) (by omega) (by omega)) (fun _ _ => rfl) (fun j b => n2 j (by omega))
theorem evT_1 {e p sh : Int} {M : jM} {T N : Int → Int} (h : evT e p sh M T N) : evT e p 1 M T N := by
  obtain ⟨h1, h2, h3, h4, h5, h6, h7, h8, h9, h10⟩ := h
  exact ⟨h1, h2, h3, h4, h5, h6, h7, h8, Or.inr rfl, fun q => by omega⟩
/-- within a line of votes -/
def RV (e : Int) (tx : Int → Int) (n : Int) (A B : jM) (s1 p : Int) (Mc Mr : jM) : Prop := cS e tx n A p Mc ∧ rS tx n B p Mr ∧ Mr 166 13 = 0 ∧ Mc 109 8 = 1 ∧ (s1 = Mr 171 1 - 1 ∧ 0 ≤ s1) ∧ evT e p 1 Mc (Mr 171) (Mr 172)
def FcW (s1 : Int) (self : Int → jM → Option (Int × jM)) (l2_6 : Int) (M7 : jM) : Option (Int × jM) :=
  if jw 3 ≤ jw l2_6 then (
    some (1, M7))
  else (
    jck (jkd (M7 109 1) = 1) <|
    jck (0 ≤ jw s1 ∧ jw s1 < 6) <|
    jbW (f_X4_votes (((M7 109 1) + 16) + 1 + 6 * jw s1) (12 + l2_6) 0 M7) fun v13 M12 =>
    if jw v13 = 0 then (
      some (0, M12))
    else (
      jlet (l2_6 + 1) fun l2_14 =>
      self l2_14 M12))
def FrW (s1 : Int) (K : jM → Option jM) (self : Int → jM → Option jM) (l3_69 : Int) (M70 : jM) : Option jM :=
  if jw 3 ≤ jw l3_69 then (
    jlet (jst M70 166 14 1) fun M72 =>
    K M72)
  else (
    jbR (f_J9_max_7cf53 0 s1) fun v74 =>
    jbV (f_X10_letters (648 + (9 * ((3 * v74) + l3_69))) 0 M70) fun M76 =>
    jlet (l3_69 + 1) fun l3_77 =>
    self l3_77 M76)
theorem shoF {e n s1 : Int} {A B Mc : jM} {K : jM → Option jM} {Q : jM → Prop} (hs : -1 ≤ s1 ∧ s1 < 6) (hK : ∀ Mr', fl e n A B Mc Mr' → jT (K Mr') Q) : ∀ (k fr : Nat) (i : Int) (Mr : jM), (k : Int) = 3 - i → 0 ≤ i → k < fr → fl e n A B Mc Mr → jT (jlp2 (FrW s1 K) fr i Mr) Q := by
  intro k
  induction k with
  | zero =>
    intro fr i Mr hk hi hf h
    obtain ⟨f, rfl⟩ : ∃ f, fr = f + 1 := ⟨fr - 1, by omega⟩
    rw [lp2_u]
    unfold FrW
    rw [pw_of (z := 3) (by omega) (by omega), pw_of (z := i) (by omega) (by omega)]
    exact t_pos (by omega) (t_let (hK _ (fl_s h (Or.inr rfl) _)))
  | succ k ih =>
    intro fr i Mr hk hi hf h
    obtain ⟨f, rfl⟩ : ∃ f, fr = f + 1 := ⟨fr - 1, by omega⟩
    rw [lp2_u]
    show jT (if jw 3 ≤ jw i then _ else _) Q
    rw [pw_of (z := 3) (by omega) (by omega), pw_of (z := i) (by omega) (by omega)]
    refine t_neg (by omega) ?_
    refine t_Re (e_max (by omega) (by omega)) ?_
    refine t_Ve (l_letters (fl_okF h)) ?_
    refine t_let ?_
    exact ih f (i + 1) _ (by omega) (by omega) (by omega) h
theorem sho {e n p0 s1 : Int} {tx : Int → Int} {A B : jM} (hR : rc e tx n A B) : ∀ (k fc fr : Nat) (i p : Int) (Mc Mr : jM), (k : Int) = 3 - i → 0 ≤ i → k < fc → k < fr → p0 < p → RV e tx n A B s1 p Mc Mr → jT (jlp2 (FcW s1) fc i Mc) (fun qc => ∀ (K : jM → Option jM) (Q : jM → Prop), (∀ Mr', Out e tx n A B p0 qc.1 qc.2 Mr' → jT (K Mr') Q) → jT (jlp2 (FrW s1 K) fr i Mr) Q) := by
  obtain ⟨he, hO, hB, r10, r6⟩ := hR
  intro k
  induction k with
  | zero =>
    intro fc fr i p Mc Mr hk hi hfc hfr hp h
    obtain ⟨f, rfl⟩ : ∃ f, fc = f + 1 := ⟨fc - 1, by omega⟩
    obtain ⟨g, rfl⟩ : ∃ g, fr = g + 1 := ⟨fr - 1, by omega⟩
    rw [lp2_u]
    unfold FcW
    rw [pw_of (z := 3) (by omega) (by omega), pw_of (z := i) (by omega) (by omega)]
    refine t_pos (by omega) (t_some ?_)
    intro K Q hK
    rw [lp2_u]
    unfold FrW
    rw [pw_of (z := 3) (by omega) (by omega), pw_of (z := i) (by omega) (by omega)]
    refine t_pos (by omega) (t_let (hK _ (Or.inl ⟨rfl, p, hp, h.1, ⟨?_, ?_, ?_⟩, ?_, ?_, ?_⟩)))
    · unfold rAt
      rw [pst_i (by decide)]
      exact h.2.1.1
    · rw [pst_i (by decide)]
      exact h.2.1.2.1
    · exact frR_t h.2.1.2.2 ⟨fun a q _ _ => pst_f q, fun j _ _ _ _ q => pst_i q⟩
    · rw [pst_i (by decide)]
      exact h.2.2.1
    · rw [pst_s]
      exact h.2.2.2.1
    · rw [pst_s, pst_f (by decide), pst_f (by decide)]
      exact h.2.2.2.2.2
  | succ k ih =>
    intro fc fr i p Mc Mr hk hi hfc hfr hp h
    obtain ⟨hc, hr, h13, h8, ⟨hs, hs0⟩, hE⟩ := h
    have hpb := rAt_b hr.1
    have n6 := hO.2.1
    have t1 := hE.1.2.1
    have t2 := hE.1.2.2.1
    obtain ⟨f, rfl⟩ : ∃ f, fc = f + 1 := ⟨fc - 1, by omega⟩
    obtain ⟨g, rfl⟩ : ∃ g, fr = g + 1 := ⟨fr - 1, by omega⟩
    have emx : f_J9_max_7cf53 0 s1 = some s1 := by
      rw [e_max (by omega) (by omega), show max 0 s1 = s1 from by omega]
    rw [lp2_u]
    show jT (if jw 3 ≤ jw i then _ else _) _
    rw [pw_of (z := 3) (by omega) (by omega), pw_of (z := i) (by omega) (by omega), hc.2.1, pw_of (z := s1) (by omega) (by omega)]
    refine t_neg (by omega) ?_
    refine t_ck (kd_e he) ?_
    refine t_ck (by omega) ?_
    refine t_W (t_mono (cS_votes (row := 12 + i) (off := 0) hc he (s := s1) (by omega) hE.2.2.2.1.1 t2 (by omega)) (fun q hq => ?_))
    obtain ⟨hq1, hq2, hq3⟩ := hq
    obtain ⟨r, hrr, hr1, hr3, hr4, hr5⟩ := rS_let (a := 648 + (9 * ((3 * s1) + i))) (b := 0) hO hB hr rfl t2 (by omega)
    have rstep : ∀ (K : jM → Option jM) (Q : jM → Prop), jT (jlp2 (FrW s1 K) g (i + 1) r) Q → jT (jlp2 (FrW s1 K) (g + 1) i Mr) Q := fun K Q hj => by
      rw [lp2_u]
      show jT (if jw 3 ≤ jw i then _ else _) Q
      rw [pw_of (z := 3) (by omega) (by omega), pw_of (z := i) (by omega) (by omega)]
      refine t_neg (by omega) ?_
      refine t_Re emx ?_
      refine t_Ve hrr ?_
      exact t_let hj
    rcases hq1 with hy | hy
    · have hz := hr1.resolve_right (fun z => z.1 hy.1)
      obtain ⟨lv, lp⟩ := lt_v hO ⟨hpb.1, hpb.2.1⟩ hy.1
      have hpp := nx_b (tx := tx) (n := n) (p := p) (by omega)
      rw [hy.2.1]
      refine t_neg (by decide) ?_
      refine t_let ?_
      refine t_mono (ih f g (i + 1) (nx tx n p) q.2 r (by omega) (by omega) (by omega) (by omega) (by omega) ⟨hy.2.2.1, hz.2.1, by rw [hr4]; exact h13, by rw [hq3]; exact h8, ⟨by rw [hr3 171 (by decide) (by decide)]; exact hs, hs0⟩, ?_⟩) (fun qc hqc K Q hK => rstep K Q (hqc K Q hK))
      rw [hr3 171 (by decide) (by decide)]
      refine evT_show (tx := tx) (s := s1) (c := i) (v := fun k => tx (p + k) - 97) hE (by omega) (by omega) (by omega) (fun a b0 b1 b2 => hq2 a (by omega) b2) (fun k k0 k1 => ?_) hy.2.2.2.2 (fun k k0 k1 => ?_) (fun j b => hz.2.2.2 j (by omega)) (fun k k0 k1 => ?_)
      · rw [hy.2.2.2.1 k k0 k1]
        omega
      · rw [show 648 + 9 * (3 * s1 + i) + k = 648 + (9 * ((3 * s1) + i)) + k from rfl, hz.2.2.1 k k0 k1]
        omega
      · have := lv k k0 k1
        omega
    · have hz := hr1.resolve_left (fun z => hy.1 z.1)
      rw [hy.2.1]
      refine t_pos (by decide) (t_some ?_)
      intro K Q hK
      refine rstep K Q (shoF (e := e) (n := n) (A := A) (B := B) (Mc := q.2) (by omega) (fun Mr' hf => hK Mr' (Or.inr ⟨rfl, hf⟩)) k g (i + 1) r (by omega) (by omega) (by omega) ⟨?_, ?_, hy.2.2.2, hz.2.2.1, hz.2.2.2⟩)
      · rw [hy.2.2.1]
        omega
      · rw [hy.2.2.1]
        exact hz.2.1
theorem ln_show {e n p s1 : Int} {tx : Int → Int} {A B Mc Mr X : jM} (hR : rc e tx n A B) (h : rLn e tx n A B p Mc Mr) (hpn : p < n) (hs : s1 = Mr 171 1 - 1) (hX : bgO (0 ≤ s1) tx n B p Mr X) :
    jT (f_X4_showLine Mc) (fun qc => ∀ (K : jM → Option jM) (Q : jM → Prop), (∀ Mr', Out e tx n A B p qc.1 qc.2 Mr' → jT (K Mr') Q) → jT (jlp2 (FrW s1 K) jfuel 0 X) Q) := by
  have hR' := hR
  obtain ⟨he, hO, hB, r10, r6⟩ := hR
  obtain ⟨hc, hr, h13, h8, hE⟩ := h
  obtain ⟨hX1, hX2, hX3, hX4⟩ := hX
  have hp := rAt_b hr.1
  have n6 := hO.2.1
  have t1 := hE.1.2.1
  have hb := nx_b (tx := tx) (n := n) (p := p) (by omega)
  unfold f_X4_showLine
  rw [hc.2.1]
  refine t_ck (kd_e he) ?_
  rw [hE.2.2.2.1.2.2.2.1, ← hs]
  refine t_let ?_
  rw [pw_of (z := s1) (by omega) (by omega)]
  refine t_if (fun c => ?_) (fun c => ?_)
  · have hX1 := hX1.resolve_right (fun z => z.1 c)
    refine t_let ?_
    have hc2 : cS e tx n A p (jst Mc 109 8 1) := cS_st hc he (frC_9 he (fun a q => pst_f q)) (fun j _ q => pst_i q)
    refine t_V (t_mono (cS_adv hc2 he) (fun M4 h4 => ?_))
    have hsho := sho (p0 := p) (s1 := s1) hR' 3 jfuel jfuel 0 (nx tx n p) M4 X (by decide) (by decide) (by rw [jfuel_eq]; omega) (by rw [jfuel_eq]; omega) (by omega) ⟨h4.1, hX1.2, by rw [hX3]; exact h13, by rw [h4.2.2 8 (by decide) (by decide) (by decide), pst_s], ⟨by rw [hX2 171 (by decide)]; exact hs, c⟩, by
      rw [hX2 171 (by decide), hX2 172 (by decide)]
      exact evT_fr (evT_1 hE) (by omega) (fun a b0 b1 => by rw [h4.2.1 a (by omega), pst_f (by omega)])⟩
    unfold FcW at hsho
    rw [pw_of (z := s1) (by omega) (by omega)] at hsho
    exact hsho
  · have hX1 := hX1.resolve_left (fun z => c z.1)
    refine c_refuse ?_
    intro K Q hK
    dsimp only at hK
    rw [hc.1.2.2.2.2.1] at hK
    have hfl := fl_0 (e := e) (A := A) (Mc := Mc) (p := p) (by omega) hc.2.2.2 he hX1.2.1 hX1.2.2.1 hX1.2.2.2
    exact shoF (by omega) (fun Mr' hf => hK Mr' (Or.inr ⟨rfl, hf⟩)) 3 jfuel 0 X (by decide) (by decide) (by rw [jfuel_eq]; omega) hfl
