/-! ===== reading: a line's first word, its end ===== -/
theorem rS_bg {tx : Int → Int} {n p k f : Int} {ok : Prop} {B M Mr : jM} (hO : okT tx n) (hB : rTx tx n B) (h : rS tx n B p M) (hf6 : fr6 Mr M) (hk : 29 ≤ k ∧ k < 58) (hf : f = 0 ∧ ¬ ok ∨ f = 1 ∧ ok) : jT (f_X10_begins k f M) (fun q => wd tx n p = sw k ∧ q.1 = 1 ∧ bgO ok tx n B p Mr q.2 ∨ wd tx n p ≠ sw k ∧ q.1 = 0 ∧ rS tx n B p q.2 ∧ fr6 Mr q.2 ∧ q.2 166 5 = p) := by
  have hp := rAt_b h.1
  unfold f_X10_begins
  refine t_W (t_mono (e_isW (k := k) hO (rTx_R hB h.2.2) h.1 h.2.1 (by omega)) (fun q hq => ?_))
  obtain ⟨q1, q2, q3, q4⟩ := hq
  have q7 : q.2 166 7 = -1 := by rw [q4.2 7 (by decide) (by decide)]; exact h.2.1
  have hfR : frR B q.2 := frR_t h.2.2 (frR_6 q4)
  have q6 := fr6_t hf6 q4
  by_cases c : wd tx n p = sw k
  · rw [q1, b2_t c]
    refine t_neg (by decide) ?_
    have hlt := wd_lt (tx := tx) hp.2.1 hk c
    have hrn := rn_b (c := isLt) (tx := tx) hp.2.1
    have hj : rn isLt tx n p - p = jsln k := (wd_sw c).resolve_right (by omega)
    rcases hf with ⟨f0, hno⟩ | ⟨f1, hok⟩
    · rw [f0]
      refine t_pos (by decide) ?_
      refine t_Ve (e_fails0 q7) (t_some ?_)
      dsimp only
      refine Or.inl ⟨c, rfl, Or.inr ⟨hno, ?_, ?_, ?_⟩, fun a b => ?_, ?_, ?_⟩
      · rw [pst_s]
        exact q3
      · exact frR_t hfR ⟨fun a b _ _ => pst_f b, fun j _ _ b _ _ => pst_i b⟩
      · unfold rPt
        rw [pst_i (by decide), q2]
        omega
      · rw [pst_f b]
        exact q6.1 a b
      · rw [pst_i (by decide)]
        exact q6.2 13 (by decide) (by decide)
      · rw [pst_i (by decide)]
        exact q6.2 14 (by decide) (by decide)
    · rw [f1, q2]
      refine t_neg (by decide) (t_let (t_some ?_))
      dsimp only
      refine Or.inl ⟨c, rfl, Or.inl ⟨hok, ⟨?_, ?_, ?_⟩⟩, fun a b => ?_, ?_, ?_⟩
      · unfold rAt
        rw [pst_s, show p + jsln k = rn isLt tx n p from by omega, nx_w hO ⟨hp.1, hp.2.1⟩ hlt]
        exact ⟨by omega, hrn.2.1, rfl⟩
      · rw [pst_i (by decide)]
        exact q7
      · exact frR_t hfR ⟨fun a b _ _ => pst_f b, fun j b _ _ _ _ => pst_i b⟩
      · rw [pst_f b]
        exact q6.1 a b
      · rw [pst_i (by decide)]
        exact q6.2 13 (by decide) (by decide)
      · rw [pst_i (by decide)]
        exact q6.2 14 (by decide) (by decide)
  · rw [q1, b2_f c]
    refine t_pos (by decide) (t_some (Or.inr ⟨c, rfl, ⟨?_, q7, hfR⟩, q6, q3⟩))
    exact rAt_p h.1 q2
/-- the component's end of a line -/
def SC (v : Int) (M : jM) : Option (Int × jM) :=
  if jw v = 0 then some (0, M) else (jbW (f_X4_sign 59 M) fun v21 M20 => if jw v21 = 0 then some (0, M20) else some (1, M20))
theorem sg_pair {e n p v : Int} {tx : Int → Int} {A B Mc Mr : jM} (hR : rc e tx n A B) (h : OutD e tx n A B p v Mc Mr) : jT (f_X10_asksSign 59 Mr) (fun Mr' => jT (SC v Mc) (fun q => Out e tx n A B p q.1 q.2 Mr')) := by
  have hR' := hR
  obtain ⟨he, hO, hB, r10, r6⟩ := hR
  have n6 := hO.2.1
  rcases h with h | ⟨v0, p', h7, hpn, hlt, hfr, hr⟩
  · rcases h with ⟨v1, p', hpp, h⟩ | ⟨v0, h⟩
    · have hp := rAt_b h.2.1.1
      have hb := nx_b (tx := tx) (n := n) (p := p') ⟨hp.1, hp.2.1⟩
      refine t_mono (rS_asks (c := 59) hO hB h.2.1 (by decide)) (fun X hX => ?_)
      obtain ⟨x1, x2, x3, x4⟩ := hX
      unfold SC
      rw [v1]
      refine t_neg (by decide) ?_
      refine t_W (t_mono (cS_sign (c := 59) h.1 he (by decide)) (fun q hq => ?_))
      rcases hq with ⟨y1, y2, y3, y4⟩ | ⟨y1, y2, y3, y4⟩
      · rw [y2]
        refine t_neg (by decide) (t_some ?_)
        have hz := x1.resolve_right (fun z => z.1 y1)
        exact Or.inl ⟨rfl, nx tx n p', by omega, RL_adv hR' h ⟨y3, y4⟩ hz.2 x2 x3 x4⟩
      · rw [y2]
        refine t_pos (by decide) (t_some ?_)
        have hz := x1.resolve_left (fun z => y1 z.1)
        exact Or.inr ⟨rfl, fl_c (tx := tx) n6 ⟨hp.1, hp.2.1⟩ y3 y4 hz.2.1 hz.2.2.1 hz.2.2.2⟩
    · refine t_mono (fl_sg (p := p) (tx := tx) (c := 59) hO hB h) (fun X hX => ?_)
      unfold SC
      rw [v0]
      exact t_pos (by decide) (t_some (Or.inr ⟨rfl, hX⟩))
  · have hp := rAt_b hr.1
    refine t_mono (rS_asks (c := 59) hO hB hr (by decide)) (fun X hX => ?_)
    obtain ⟨x1, x2, x3, x4⟩ := hX
    unfold SC
    rw [v0]
    refine t_pos (by decide) (t_some (Or.inr ⟨rfl, ?_⟩))
    have hz := x1.resolve_left (fun z => by
      rw [isLt_i] at hlt
      omega)
    exact fl_c (tx := tx) n6 ⟨hp.1, hp.2.1⟩ h7 hfr hz.2.1 hz.2.2.1 hz.2.2.2
/-- the component's line by its first word -/
def LC (v9 : Int) (k12 : Int → jM → Option (Int × jM)) (M5 : jM) : Option (Int × jM) :=
          if jw v9 < (-1) ∨ 6 < jw v9 then (
            jbW (f_X4_settingLine (v9 - 7) M5) fun v24 M23 =>
            k12 v24 M23)
          else if jw v9 = (-1) then (
            jbW (f_X4_refuse M5) fun v27 M26 =>
            k12 v27 M26)
          else if jw v9 = 0 then (
            jbW (f_X4_elementLine M5) fun v30 M29 =>
            k12 v30 M29)
          else if jw v9 = 1 then (
            jbW (f_X4_judgesLine M5) fun v33 M32 =>
            k12 v33 M32)
          else if jw v9 = 2 then (
            jbW (f_X4_deductLine M5) fun v36 M35 =>
            k12 v36 M35)
          else if jw v9 = 3 then (
            jbW (f_X4_skaterLine M5) fun v39 M38 =>
            k12 v39 M38)
          else if jw v9 = 4 then (
            jbW (f_X4_doLine M5) fun v42 M41 =>
            k12 v42 M41)
          else if jw v9 = 5 then (
            jbW (f_X4_showLine M5) fun v45 M44 =>
            k12 v45 M44)
          else (
            jbW (f_X4_lastsLine M5) fun v48 M47 =>
            k12 v48 M47)
theorem LC_n {M : jM} {k : Int → jM → Option (Int × jM)} : LC (-1) k M = k 0 (jst M 109 7 (M 109 4)) := by
  unfold LC
  rw [if_neg (by decide), if_pos (by decide)]
  rfl
theorem LC_0 {M : jM} {q : Int × jM} {k : Int → jM → Option (Int × jM)} (h : f_X4_elementLine M = some q) : LC 0 k M = k q.1 q.2 := by
  unfold LC
  rw [if_neg (by decide), if_neg (by decide), if_pos (by decide), h]
  rfl
theorem LC_1 {M : jM} {q : Int × jM} {k : Int → jM → Option (Int × jM)} (h : f_X4_judgesLine M = some q) : LC 1 k M = k q.1 q.2 := by
  unfold LC
  rw [if_neg (by decide), if_neg (by decide), if_neg (by decide), if_pos (by decide), h]
  rfl
theorem LC_2 {M : jM} {q : Int × jM} {k : Int → jM → Option (Int × jM)} (h : f_X4_deductLine M = some q) : LC 2 k M = k q.1 q.2 := by
  unfold LC
  rw [if_neg (by decide), if_neg (by decide), if_neg (by decide), if_neg (by decide), if_pos (by decide), h]
  rfl
theorem LC_3 {M : jM} {q : Int × jM} {k : Int → jM → Option (Int × jM)} (h : f_X4_skaterLine M = some q) : LC 3 k M = k q.1 q.2 := by
  unfold LC
  rw [if_neg (by decide), if_neg (by decide), if_neg (by decide), if_neg (by decide), if_neg (by decide), if_pos (by decide), h]
  rfl
theorem LC_4 {M : jM} {q : Int × jM} {k : Int → jM → Option (Int × jM)} (h : f_X4_doLine M = some q) : LC 4 k M = k q.1 q.2 := by
  unfold LC
  rw [if_neg (by decide), if_neg (by decide), if_neg (by decide), if_neg (by decide), if_neg (by decide), if_neg (by decide), if_pos (by decide), h]
  rfl
theorem LC_5 {M : jM} {q : Int × jM} {k : Int → jM → Option (Int × jM)} (h : f_X4_showLine M = some q) : LC 5 k M = k q.1 q.2 := by
  unfold LC
  rw [if_neg (by decide), if_neg (by decide), if_neg (by decide), if_neg (by decide), if_neg (by decide), if_neg (by decide), if_neg (by decide), if_pos (by decide), h]
  rfl
theorem LC_6 {M : jM} {q : Int × jM} {k : Int → jM → Option (Int × jM)} (h : f_X4_lastsLine M = some q) : LC 6 k M = k q.1 q.2 := by
  unfold LC
  rw [if_neg (by decide), if_neg (by decide), if_neg (by decide), if_neg (by decide), if_neg (by decide), if_neg (by decide), if_neg (by decide), if_neg (by decide), h]
  rfl
theorem LC_s {M : jM} {q : Int × jM} {w i : Int} {k : Int → jM → Option (Int × jM)} (hi : 0 ≤ i ∧ i ≤ 4) (hw : w = i + 7) (h : f_X4_settingLine i M = some q) : LC w k M = k q.1 q.2 := by
  unfold LC
  rw [hw, pw_of (z := i + 7) (by omega) (by omega), if_pos (by omega), show i + 7 - 7 = i from by omega, h]
  rfl
