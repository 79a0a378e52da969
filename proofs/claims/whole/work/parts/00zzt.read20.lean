/-! ===== reading: settings ===== -/
theorem lp2_u {A1 A2 R : Type} {F : (A1 → A2 → Option R) → A1 → A2 → Option R} {f : Nat} {x : A1} {y : A2} : jlp2 F (f + 1) x y = F (jlp2 F f) x y := rfl
theorem jfu : jfuel = 999999 + 1 := rfl
theorem RL_adv {e n p : Int} {tx : Int → Int} {A B Mc Mr M4 X : jM} (hR : rc e tx n A B) (h : rLn e tx n A B p Mc Mr) (h4 : cS e tx n A (nx tx n p) M4 ∧ fr9 Mc M4) (hX : rS tx n B (nx tx n p) X) (hX2 : ∀ a, a ≠ 166 → X a = Mr a) (hX3 : X 166 13 = Mr 166 13) (hX4 : X 166 14 = Mr 166 14) : rLn e tx n A B (nx tx n p) M4 X := by
  have hp := rAt_b h.2.1.1
  have hb := nx_b (tx := tx) (n := n) (p := p) ⟨hp.1, hp.2.1⟩
  refine ⟨h4.1, hX, by rw [hX3]; exact h.2.2.1, by rw [h4.2.2 8 (by decide) (by decide) (by decide), hX4]; exact h.2.2.2.1, ?_⟩
  rw [hX2 171 (by decide), hX2 172 (by decide), hX4]
  have he := hR.1
  exact evT_fr h.2.2.2.2 (by omega) (fun a b0 b1 => h4.2.1 a (by omega))
/-- one setting on both sides -/
theorem set_1 {e n p i lo hi : Int} {tx : Int → Int} {A B Mc Mr : jM} (hR : rc e tx n A B) (h : rLn e tx n A B p Mc Mr) (hi7 : 0 ≤ i ∧ i < 7) (hlo : 0 ≤ lo ∧ lo ≤ 10000) (hhi : 0 ≤ hi ∧ hi ≤ 10000) (hok : ∀ v, lo ≤ v → v ≤ hi → okNi (964 + i) v) :
    jT (f_X4_number lo hi Mc) (fun qc => jT (f_X10_number lo hi Mr) (fun qr => (qc.1 = 1 ∧ qc.2 109 1 = e ∧ p < nx tx n p ∧ rLn e tx n A B (nx tx n p) (jst qc.2 (e + 1) i (qc.2 109 6)) (jst qr.2 172 (964 + i) qr.1)) ∨ (qc.1 = 0 ∧ fl e n A B qc.2 (jst qr.2 172 (964 + i) qr.1)))) := by
  obtain ⟨he, hO, hB, r10, r6⟩ := hR
  obtain ⟨hc, hr, h13, h8, hE⟩ := h
  have hp := rAt_b hr.1
  have n6 := hO.2.1
  refine t_mono (cS_num (lo := lo) (hi := hi) hc he hlo hhi) (fun q hq => ?_)
  obtain ⟨hq1, hq2, hq3⟩ := hq
  refine t_mono (rS_num (lo := lo) (hi := hi) hO hB hr hlo hhi) (fun r hr' => ?_)
  obtain ⟨hr1, hr2, hr3, hr4, hr5⟩ := hr'
  rcases hq1 with hy | hy
  · have hz := hr1.resolve_right (fun z => z.1 hy.1)
    have hpn : p < n := by
      have := rn_b (c := isDg) (tx := tx) hp.2.1
      have := hy.1.1
      omega
    have hpp := nx_b (tx := tx) (n := n) (p := p) (by omega)
    refine Or.inl ⟨hy.2.1, hy.2.2.2.2.1, by omega, ?_, ?_, ?_, ?_, ?_⟩
    · exact cS_st hy.2.2.2 he (frC_s (by omega) (Or.inl (by omega))) (fun j _ _ => pst_c (by omega))
    · refine ⟨?_, ?_, frR_t hz.2.2.2.2 (frR_2 _ _ _)⟩
      · unfold rAt
        rw [pst_c (by decide)]
        exact hz.2.2.1
      · rw [pst_c (by decide)]
        exact hz.2.2.2.1
    · rw [pst_c (by decide), hr4]
      exact h13
    · rw [pst_c (by omega), pst_c (by decide), hq3, hr5]
      exact h8
    · rw [pst_c (show (166 : Int) ≠ 172 by decide), pst_f (show (171 : Int) ≠ 172 by decide), hr5, hr3 171 (by decide)]
      have hb := hz.1.2.2
      rw [← hz.2.1] at hb
      refine evT_set (i := i) (v := r.1) hE (by omega) hi7 (fun a b0 b1 b2 => ?_) (fun j b => ?_) ?_ (fun j b => ?_) (pst_s _ _ _ _) (hok _ hb.1 hb.2)
      · rw [pst_f b2]
        exact hq2 a (by omega)
      · rw [pst_i b, hq2 (e + 1) (by omega)]
      · rw [pst_s, hy.2.2.1, hz.2.1]
      · rw [pst_i b, hr3 172 (by decide)]
  · have hz := hr1.resolve_left (fun z => hy.1 z.1)
    refine Or.inr ⟨hy.2.1, fl_2 ⟨?_, ?_, hy.2.2.2, hz.2.2.1, hz.2.2.2⟩ _ _⟩
    · rw [hy.2.2.1]
      omega
    · rw [hy.2.2.1]
      exact hz.2.1
theorem ln_set {e n p i w lo hi : Int} {tx : Int → Int} {A B Mc Mr X : jM} (hR : rc e tx n A B) (h : rLn e tx n A B p Mc Mr) (hi3 : 0 ≤ i ∧ i < 4) (hw : w = 964 + i) (hl1 : jstt 0 i = lo) (hl2 : jstt 1 i = hi) (hlo : 0 ≤ lo ∧ lo ≤ 10000) (hhi : 0 ≤ hi ∧ hi ≤ 10000) (hok : ∀ v, lo ≤ v → v ≤ hi → okNi (964 + i) v) (hX : rS tx n B (nx tx n p) X) (hX2 : ∀ a, a ≠ 166 → X a = Mr a) (hX3 : X 166 13 = Mr 166 13) (hX4 : X 166 14 = Mr 166 14) :
    jT (f_X4_settingLine i Mc) (fun qc => ∀ (K : jM → Option jM) (Q : jM → Prop), (∀ Mr', Out e tx n A B p qc.1 qc.2 Mr' → jT (K Mr') Q) → jT (jbW (f_X10_number lo hi X) fun v M => jck (0 ≤ jw w ∧ jw w < 971) <| jlet (jst M 172 (jw w) v) fun M' => K M') Q) := by
  have he := hR.1
  have hp := rAt_b h.2.1.1
  have hb := nx_b (tx := tx) (n := n) (p := p) ⟨hp.1, hp.2.1⟩
  unfold f_X4_settingLine
  refine t_k ?_
  rw [pw_of (z := i) (by omega) (by omega), pw_of (z := 4) (by omega) (by omega), pw_of (z := w) (by omega) (by omega), hw]
  refine t_neg (by omega) ?_
  refine t_V (t_mono (cS_adv h.1 he) (fun M4 h4 => ?_))
  have h2 := RL_adv hR h h4 hX hX2 hX3 hX4
  rw [jfu, lp2_u, pw_of (z := i + 1) (by omega) (by omega), pw_of (z := i) (by omega) (by omega), pw_of (z := 7) (by omega) (by omega)]
  refine t_neg (by omega) ?_
  refine t_neg (by omega) ?_
  refine t_ck (by omega) ?_
  refine t_ck (by omega) ?_
  rw [hl1, hl2]
  refine t_W (t_mono (set_1 hR h2 (i := i) (by omega) hlo hhi hok) (fun q hq => ?_))
  obtain ⟨r, hr, hq⟩ := hq
  rcases hq with ⟨k1, k2, k3, k4⟩ | ⟨k1, k2⟩
  · rw [k1, k2]
    refine t_neg (by decide) ?_
    refine t_ck (kd_e he) ?_
    refine t_ck (by omega) ?_
    refine t_let ?_
    refine t_let ?_
    rw [show (999999 : Nat) = 999998 + 1 from rfl, lp2_u, pw_of (z := i + 1) (by omega) (by omega)]
    refine t_pos (by omega) ?_
    refine t_some ?_
    intro K Q hK
    dsimp only at hK
    refine t_We (v := r.1) (M := r.2) hr ?_
    refine t_ck (by omega) ?_
    exact t_let (hK _ (Or.inl ⟨rfl, nx tx n (nx tx n p), by omega, k4⟩))
  · rw [k1]
    refine t_pos (by decide) ?_
    refine t_some ?_
    intro K Q hK
    dsimp only at hK
    refine t_We (v := r.1) (M := r.2) hr ?_
    refine t_ck (by omega) ?_
    exact t_let (hK _ (Or.inr ⟨rfl, k2⟩))
theorem jstt_v : (jstt 0 0 = 0 ∧ jstt 1 0 = 3) ∧ (jstt 0 1 = 0 ∧ jstt 1 1 = 600) ∧ (jstt 0 2 = 0 ∧ jstt 1 2 = 50) ∧ (jstt 0 3 = 1 ∧ jstt 1 3 = 3) ∧ (jstt 0 4 = 0 ∧ jstt 1 4 = 300) ∧ (jstt 0 5 = 0 ∧ jstt 1 5 = 300) ∧ (jstt 0 6 = 0 ∧ jstt 1 6 = 300) := by decide +kernel
def FrF (K : jM → Option jM) (self : Int → jM → Option jM) (l3 : Int) (M : jM) : Option jM :=
  if jw 3 ≤ jw l3 then (
    K M)
  else (
    jbW (f_X10_number 0 300 M) fun v116 M115 =>
    jck (0 ≤ jw (968 + l3) ∧ jw (968 + l3) < 971) <|
    jlet (jst M115 172 (jw (968 + l3)) v116) fun M118 =>
    jlet (l3 + 1) fun l3_119 =>
    self l3_119 M118)
def FcF (self : Int → jM → Option (Int × jM)) (l3 : Int) (M6 : jM) : Option (Int × jM) :=
  if jw (4 + 3) ≤ jw l3 then (
    some (1, M6))
  else (
    if jw 7 ≤ jw l3 then (
      some (1, M6))
    else (
      jck (0 ≤ jw l3 ∧ jw l3 < 7) <|
      jck (0 ≤ jw l3 ∧ jw l3 < 7) <|
      jbW (f_X4_number (jstt 0 (jw l3)) (jstt 1 (jw l3)) M6) fun v12 M11 =>
      if jw v12 = 0 then (
        some (0, M11))
      else (
        jck (jkd (M11 109 1) = 1) <|
        jck (0 ≤ jw l3 ∧ jw l3 < 7) <|
        jlet (jst M11 ((M11 109 1) + 1) (jw l3) (M11 109 6)) fun M15 =>
        jlet (l3 + 1) fun l3_16 =>
        self l3_16 M15)))
theorem facF {e n p0 : Int} {tx : Int → Int} {A B Mc : jM} {K : jM → Option jM} {Q : jM → Prop} (hK : ∀ Mr', fl e n A B Mc Mr' → jT (K Mr') Q) : ∀ (k fr : Nat) (i : Int) (Mr : jM), (k : Int) = 3 - i → 0 ≤ i → k < fr → fl e n A B Mc Mr → jT (jlp2 (FrF K) fr i Mr) Q := by
  intro k
  induction k with
  | zero =>
    intro fr i Mr hk hi hf h
    obtain ⟨f, rfl⟩ : ∃ f, fr = f + 1 := ⟨fr - 1, by omega⟩
    rw [lp2_u]
    unfold FrF
    rw [pw_of (z := 3) (by omega) (by omega), pw_of (z := i) (by omega) (by omega)]
    exact t_pos (by omega) (hK Mr h)
  | succ k ih =>
    intro fr i Mr hk hi hf h
    obtain ⟨f, rfl⟩ : ∃ f, fr = f + 1 := ⟨fr - 1, by omega⟩
    rw [lp2_u]
    show jT (if jw 3 ≤ jw i then _ else _) Q
    rw [pw_of (z := 3) (by omega) (by omega), pw_of (z := i) (by omega) (by omega), pw_of (z := 968 + i) (by omega) (by omega)]
    refine t_neg (by omega) ?_
    refine t_We (l_num h) ?_
    refine t_ck (by omega) ?_
    refine t_let (t_let ?_)
    exact ih f (i + 1) _ (by omega) (by omega) (by omega) (fl_2 h _ _)
theorem fac {e n p0 : Int} {tx : Int → Int} {A B : jM} (hR : rc e tx n A B) : ∀ (k fc fr : Nat) (i p : Int) (Mc Mr : jM), (k : Int) = 3 - i → 0 ≤ i → k < fc → k < fr → p0 < p → rLn e tx n A B p Mc Mr → jT (jlp2 FcF fc (4 + i) Mc) (fun qc => ∀ (K : jM → Option jM) (Q : jM → Prop), (∀ Mr', Out e tx n A B p0 qc.1 qc.2 Mr' → jT (K Mr') Q) → jT (jlp2 (FrF K) fr i Mr) Q) := by
  have he := hR.1
  intro k
  induction k with
  | zero =>
    intro fc fr i p Mc Mr hk hi hfc hfr hp h
    obtain ⟨f, rfl⟩ : ∃ f, fc = f + 1 := ⟨fc - 1, by omega⟩
    obtain ⟨g, rfl⟩ : ∃ g, fr = g + 1 := ⟨fr - 1, by omega⟩
    rw [lp2_u]
    unfold FcF
    rw [pw_of (z := 4 + 3) (by omega) (by omega), pw_of (z := 4 + i) (by omega) (by omega)]
    refine t_pos (by omega) (t_some ?_)
    intro K Q hK
    rw [lp2_u]
    unfold FrF
    rw [pw_of (z := 3) (by omega) (by omega), pw_of (z := i) (by omega) (by omega)]
    exact t_pos (by omega) (hK Mr (Or.inl ⟨rfl, p, hp, h⟩))
  | succ k ih =>
    intro fc fr i p Mc Mr hk hi hfc hfr hp h
    obtain ⟨f, rfl⟩ : ∃ f, fc = f + 1 := ⟨fc - 1, by omega⟩
    obtain ⟨g, rfl⟩ : ∃ g, fr = g + 1 := ⟨fr - 1, by omega⟩
    have hst : jstt 0 (4 + i) = 0 ∧ jstt 1 (4 + i) = 300 := by
      obtain ⟨-, -, -, -, j4, j5, j6⟩ := jstt_v
      rcases (by omega : i = 0 ∨ i = 1 ∨ i = 2) with q | q | q <;> subst q
      · exact j4
      · exact j5
      · exact j6
    rw [lp2_u]
    show jT (if jw (4 + 3) ≤ jw (4 + i) then _ else _) _
    rw [pw_of (z := 4 + 3) (by omega) (by omega), pw_of (z := 4 + i) (by omega) (by omega), pw_of (z := 7) (by omega) (by omega)]
    refine t_neg (by omega) ?_
    refine t_neg (by omega) ?_
    refine t_ck (by omega) ?_
    refine t_ck (by omega) ?_
    rw [hst.1, hst.2]
    refine t_W (t_mono (set_1 hR h (i := 4 + i) (lo := 0) (hi := 300) (by omega) (by omega) (by omega) (fun v q0 q1 => by unfold okNi; omega)) (fun q hq => ?_))
    obtain ⟨r, hr, hq⟩ := hq
    rw [show (964 : Int) + (4 + i) = 968 + i from by omega] at hq
    have rstep : ∀ (K : jM → Option jM) (Q : jM → Prop), jT (jlp2 (FrF K) g (i + 1) (jst r.2 172 (968 + i) r.1)) Q → jT (jlp2 (FrF K) (g + 1) i Mr) Q := fun K Q hj => by
      rw [lp2_u]
      show jT (if jw 3 ≤ jw i then _ else _) Q
      rw [pw_of (z := 3) (by omega) (by omega), pw_of (z := i) (by omega) (by omega), pw_of (z := 968 + i) (by omega) (by omega)]
      refine t_neg (by omega) ?_
      refine t_We (v := r.1) (M := r.2) hr ?_
      refine t_ck (by omega) ?_
      exact t_let (t_let hj)
    rcases hq with ⟨k1, k2, k3, k4⟩ | ⟨k1, k2⟩
    · rw [k1, k2]
      refine t_neg (by decide) ?_
      refine t_ck (kd_e he) ?_
      refine t_ck (by omega) ?_
      refine t_let ?_
      refine t_let ?_
      rw [show 4 + i + 1 = 4 + (i + 1) from by omega]
      refine t_mono (ih f g (i + 1) (nx tx n p) _ _ (by omega) (by omega) (by omega) (by omega) (by omega) k4) (fun qc hqc K Q hK => rstep K Q (hqc K Q hK))
    · rw [k1]
      refine t_pos (by decide) (t_some ?_)
      intro K Q hK
      exact rstep K Q (facF (tx := tx) (p0 := p0) (fun Mr' hf => hK Mr' (Or.inr ⟨rfl, hf⟩)) k g (i + 1) _ (by omega) (by omega) (by omega) k2)
theorem ln_factor {e n p : Int} {tx : Int → Int} {A B Mc Mr X : jM} (hR : rc e tx n A B) (h : rLn e tx n A B p Mc Mr) (hpn : p < n) (hX : rS tx n B (nx tx n p) X) (hX2 : ∀ a, a ≠ 166 → X a = Mr a) (hX3 : X 166 13 = Mr 166 13) (hX4 : X 166 14 = Mr 166 14) :
    jT (f_X4_settingLine 4 Mc) (fun qc => ∀ (K : jM → Option jM) (Q : jM → Prop), (∀ Mr', Out e tx n A B p qc.1 qc.2 Mr' → jT (K Mr') Q) → jT (jlp2 (FrF K) jfuel 0 X) Q) := by
  have hp := rAt_b h.2.1.1
  have hb := nx_b (tx := tx) (n := n) (p := p) ⟨hp.1, hp.2.1⟩
  unfold f_X4_settingLine
  refine t_k ?_
  refine t_pos (by decide) ?_
  refine t_V (t_mono (cS_adv h.1 hR.1) (fun M4 h4 => ?_))
  have h2 := RL_adv hR h h4 hX hX2 hX3 hX4
  exact fac hR 3 jfuel jfuel 0 (nx tx n p) M4 X (by decide) (by decide) (by rw [jfuel_eq]; omega) (by rw [jfuel_eq]; omega) (by omega) h2
