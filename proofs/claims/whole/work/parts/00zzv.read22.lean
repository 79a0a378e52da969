/-! ===== reading: a skater, an element ===== -/
theorem cS_new {e : Int} {tx D : Int → Int} {n p t m N base : Int} {A M : jM} (h : cS e tx n A p M) (he : e = 3 ∨ e = 56) (hN : 6 ≤ N ∧ N ≤ 10) (ht : t = e + 2 ∨ t = e + 13) (hl2 : jln (t + 2) = N) (hl1 : jln (t + 1) = 6 * N) (h0 : M t 0 = N) (h3 : M t 3 = m) (hm : 0 ≤ m ∧ m < N) (hR : rNm (M (t + 1)) (M (t + 2)) D base m) :
    jT (f_X4_newName t M) (fun q => (nwOk D tx n p base m ∧ q.1 = 1 ∧ cS e tx n A (nx tx n p) q.2 ∧ q.2 t 3 = m + 1 ∧ (∀ D' : Int → Int, (∀ i k, 0 ≤ i → i < m → 0 ≤ k → k < 6 → D' (base + 6 * i + k) = D (base + 6 * i + k)) → (∀ k, 0 ≤ k → k < 6 → D' (base + 6 * m + k) = if k < rn isLt tx n p - p then tx (p + k) else 0) → rNm (q.2 (t + 1)) (q.2 (t + 2)) D' base (m + 1)) ∧ (∀ a, a ≠ t → a ≠ t + 1 → a ≠ t + 2 → a ≠ 109 → q.2 a = M a) ∧ q.2 109 8 = M 109 8) ∨ (¬ nwOk D tx n p base m ∧ q = (0, jst M 109 7 p))) := by
  obtain ⟨g1, g2, g3, g4, g5⟩ := h.1
  have hr := rn_b (c := isLt) (tx := tx) g2.2
  refine t_mono (c_newName h.1 hN (by omega) hl2 hl1 h0 h3 hm hR) (fun q hq => ?_)
  rcases hq with hy | hy
  · obtain ⟨y1, y2, y3, y4, y5, y6, y7, y8⟩ := hy
    have hl : p < rn isLt tx n p := by have := y1.1; omega
    refine Or.inl ⟨y1, y2, ?_, y4, y6, y7, y8 8 (by decide) (by decide) (by decide)⟩
    rw [nx_w g1 g2 hl]
    refine cS_mv h he ⟨fun a b0 b1 => y7 a (by omega) (by omega) (by omega) b0, ?_, ?_⟩ (y8 1 (by decide) (by decide) (by decide)) (y8 2 (by decide) (by decide) (by decide)) (y8 7 (by decide) (by decide) (by decide)) (bl_b ⟨by omega, hr.2.1⟩ |> fun q => ⟨q.1, q.2.1⟩) y3
    · rcases ht with ht | ht
      · rw [← ht]
        exact y5 0 (by decide)
      · rw [y7 (e + 2) (by omega) (by omega) (by omega) (by omega)]
    · rcases ht with ht | ht
      · rw [y7 (e + 13) (by omega) (by omega) (by omega) (by omega)]
      · rw [← ht]
        exact y5 0 (by decide)
  · exact Or.inr hy
theorem rS_new {tx : Int → Int} {n p base m : Int} {B M : jM} (hO : okT tx n) (hB : rTx tx n B) (h : rS tx n B p M) (hb : 0 ≤ base ∧ base ≤ 74) (hm : 0 ≤ m ∧ m < 10) (hD : ∀ i k, 0 ≤ i → i < m → 0 ≤ k → k < 6 → 0 ≤ M 171 (base + 6 * i + k) ∧ M 171 (base + 6 * i + k) ≤ 127) :
    jT (f_X10_freshName base m M) (fun X => (nwOk (M 171) tx n p base m ∧ rS tx n B (nx tx n p) X ∧ (∀ k, 0 ≤ k → k < 6 → X 171 (base + 6 * m + k) = if k < rn isLt tx n p - p then tx (p + k) else 0) ∧ (∀ j, (j < base + 6 * m ∨ base + 6 * m + 6 ≤ j) → X 171 j = M 171 j) ∨ ¬ nwOk (M 171) tx n p base m ∧ X 166 7 = p ∧ X 171 = M 171 ∧ frR B X ∧ rPt n X) ∧ (∀ a, a ≠ 166 → a ≠ 171 → X a = M a) ∧ X 166 13 = M 166 13 ∧ X 166 14 = M 166 14) := by
  have hp := rAt_b h.1
  refine t_mono (e_fresh hO (rTx_R hB h.2.2) h.1 h.2.1 hb hm hD) (fun X hX => ?_)
  obtain ⟨h1, h2, h3, h4⟩ := hX
  have hf : frR B X := frR_t h.2.2 ⟨fun c q0 q1 q2 => h3 c q0 q1, fun j q0 q1 q2 _ _ => h4 j q0 q1 q2⟩
  refine ⟨?_, h3, h4 13 (by decide) (by decide) (by decide), h4 14 (by decide) (by decide) (by decide)⟩
  rcases h1 with hy | hy
  · have hl : p < rn isLt tx n p := by have := hy.1.1; omega
    exact Or.inl ⟨hy.1, ⟨by rw [nx_w hO ⟨hp.1, hp.2.1⟩ hl]; exact hy.2.2.1, hy.2.1, hf⟩, hy.2.2.2.1, hy.2.2.2.2⟩
  · exact Or.inr ⟨hy.1, hy.2.1, hy.2.2, hf, h2⟩
theorem evT_skater {e p p' sh : Int} {M M' : jM} {T T' N : Int → Int} (h : evT e p sh M T N) (hp : p ≤ p') (hlt : T 1 < 6) (hM : ∀ a, e ≤ a → a ≤ e + 52 → a ≠ e + 13 → a ≠ e + 14 → a ≠ e + 15 → M' a = M a) (h3 : M' (e + 13) 3 = T 1 + 1) (hnm : rNm (M' (e + 14)) (M' (e + 15)) T' 74 (T 1 + 1)) (ht : ∀ j, j ≠ 1 → (j < 74 ∨ 110 ≤ j) → T' j = T j) (h1 : T' 1 = T 1 + 1) : evT e p' sh M' T' N := by
  obtain ⟨bt, bn, bl, ⟨a1, a2, a3, a4, a5, a6, a7, a8, a9⟩, hS, h0, hg, hc, hs, hm⟩ := h
  have t0 := bt.1
  have t1 := bt.2.1
  have t3 := bt.2.2.2.1
  refine ⟨bT_r bt (fun j => ?_), bn, ?_, ⟨?_, ?_, ?_, ?_, ?_, ?_, ?_, ?_, fun r q0 q1 => ?_⟩, fun s q0 q1 => ?_, fun s q0 q1 => ?_, hg, ?_, hs, fun q s q0 q1 => ?_⟩
  · by_cases c : j = 1
    · subst c
      right
      rw [h1]
      unfold okTi
      omega
    · by_cases c2 : j < 74 ∨ 110 ≤ j
      · exact Or.inl (ht j c c2)
      · right
        unfold okTi
        omega
  · intro s k q0 q1 k0 k1
    rw [h1] at q1
    rw [ht (116 + s) (by omega) (by omega)] at k1
    by_cases c : s = T 1
    · have := h0 s (by omega) (by omega)
      omega
    · have h12 := bt.2.2.2.2.2.2.1 s q0 (by omega)
      obtain ⟨b1, b2⟩ := bl s k q0 (by omega) k0 k1
      have hh := bt.2.2.2.2.2.2.2.2.1 (12 * s + k) (by omega) (by omega)
      rw [ht (194 + (12 * s + k)) (by omega) (by omega), ht 0 (by omega) (by omega)]
      refine ⟨b1, fun i i0 i1 => ?_⟩
      rw [ht (266 + 3 * (12 * s + k) + i) (by omega) (by omega)]
      exact b2 i i0 i1
  · rw [hM e (by omega) (by omega) (by omega) (by omega) (by omega), ht 2 (by decide) (by omega)]; exact a1
  · rw [hM (e + 1) (by omega) (by omega) (by omega) (by omega) (by omega)]; exact a2
  · rw [hM (e + 2) (by omega) (by omega) (by omega) (by omega) (by omega), ht 0 (by decide) (by omega)]; exact a3
  · rw [h3, h1]
  · rw [hM (e + 7) (by omega) (by omega) (by omega) (by omega) (by omega), ht 3 (by decide) (by omega)]; exact a5
  · rw [hM (e + 3) (by omega) (by omega) (by omega) (by omega) (by omega), hM (e + 4) (by omega) (by omega) (by omega) (by omega) (by omega), ht 0 (by decide) (by omega)]
    exact rNm_c a6 (fun j q0 q1 => ht j (by omega) (by omega))
  · rw [h1]
    exact hnm
  · intro j q0 q1
    rw [ht 0 (by decide) (by omega)] at q1
    rw [hM (e + 5) (by omega) (by omega) (by omega) (by omega) (by omega), hM (e + 6) (by omega) (by omega) (by omega) (by omega) (by omega), ht (4 + j) (by omega) (by omega)]; exact a8 j q0 q1
  · rw [ht 3 (by decide) (by omega)] at q1
    exact rRl_c (a9 r q0 q1) q0 (fun a b0 b1 => hM a (by omega) (by omega) (by omega) (by omega) (by omega)) (fun j b0 => ht j (by omega) (by omega))
  · have hg : M' (e + 16 + 1 + 6 * s) = M (e + 16 + 1 + 6 * s) := hM _ (by omega) (by omega) (by omega) (by omega) (by omega)
    exact rSk_c bt ⟨q0, q1⟩ (hS s q0 q1) (by rw [hg, ht (110 + s) (by omega) (by omega)]; exact (hS s q0 q1).2.2.1) (by rw [hg]) (by rw [hg]) (fun a b0 b1 => hM a (by omega) (by omega) (by omega) (by omega) (by omega)) (fun j b => ht j (by omega) (by omega)) (fun _ _ => rfl)
  · rw [h1] at q0
    rw [ht (116 + s) (by omega) (by omega)]
    exact h0 s (by omega) q1
  · rw [hM (e + 7) (by omega) (by omega) (by omega) (by omega) (by omega), ht 3 (by decide) (by omega), ht (482 + T 3) (by omega) (by omega)]
    exact ⟨by omega, by omega, by omega, rlB_c hc.2.2.2 t3.1 (hM _ (by omega) (by omega) (by omega) (by omega) (by omega)) (hM _ (by omega) (by omega) (by omega) (by omega) (by omega)) (ht 3 (by decide) (by omega)) (fun j b => ht j (by omega) (by omega))⟩
  · rw [hM (e + 16 + 1 + 6 * s + 5) (by omega) (by omega) (by omega) (by omega) (by omega), ht (116 + s) (by omega) (by omega)]
    exact hm q s q0 q1
theorem ln_n0 : (jln (3 + 2 + 2) = 10 ∧ jln (3 + 2 + 1) = 60 ∧ jln (3 + 13 + 2) = 6 ∧ jln (3 + 13 + 1) = 36) ∧ (jln (56 + 2 + 2) = 10 ∧ jln (56 + 2 + 1) = 60 ∧ jln (56 + 13 + 2) = 6 ∧ jln (56 + 13 + 1) = 36) := by decide +kernel
theorem ln_nm {e : Int} (he : e = 3 ∨ e = 56) : jln (e + 2 + 2) = 10 ∧ jln (e + 2 + 1) = 6 * 10 ∧ jln (e + 13 + 2) = 6 ∧ jln (e + 13 + 1) = 6 * 6 := by
  rcases he with he | he <;> subst he
  · exact ln_n0.1
  · exact ln_n0.2
theorem ln_skater {e n p : Int} {tx : Int → Int} {A B Mc Mr X : jM} (hR : rc e tx n A B) (h : rLn e tx n A B p Mc Mr) (hpn : p < n) (hX : bgO (Mr 171 1 < 6) tx n B p Mr X) :
    jT (f_X4_skaterLine Mc) (fun qc => ∀ (K : jM → Option jM) (Q : jM → Prop), (∀ Mr', Out e tx n A B p qc.1 qc.2 Mr' → jT (K Mr') Q) → jT (jck (0 ≤ jw 1 ∧ jw 1 < 1089) <| jbV (f_X10_freshName 74 (X 171 (jw 1)) X) fun M88 => jck (0 ≤ jw 1 ∧ jw 1 < 1089) <| jck (0 ≤ jw 1 ∧ jw 1 < 1089) <| jlet (jst M88 171 (jw 1) ((M88 171 (jw 1)) + 1)) fun M91 => K M91) Q) := by
  have hR' := hR
  obtain ⟨he, hO, hB, r10, r6⟩ := hR
  have h' := h
  obtain ⟨hc, hr, h13, h8, hE⟩ := h
  obtain ⟨hX1, hX2, hX3, hX4⟩ := hX
  have hp := rAt_b hr.1
  have n6 := hO.2.1
  have t1 := hE.1.2.1
  have hb := nx_b (tx := tx) (n := n) (p := p) (by omega)
  have hb2 := nx_b (tx := tx) (n := n) (p := nx tx n p) (by omega)
  have hH := hE.2.2.2.1
  have hfull : f_X2_isFull (e + 13) Mc = some (if Mr 171 1 < 6 then 0 else 1) := by
    unfold f_X2_isFull
    rw [hH.2.2.2.1, hc.2.2.2.2.2, r6, pw_of (z := Mr 171 1) (by omega) (by omega), pw_of (z := 6) (by omega) (by omega)]
    split <;> rfl
  unfold f_X4_skaterLine
  rw [hc.2.1, pw_of (z := 1) (by omega) (by omega), hX2 171 (by decide)]
  refine t_ck (kd_e he) ?_
  refine t_Re hfull ?_
  by_cases c : Mr 171 1 < 6
  · have hX1 := hX1.resolve_right (fun z => z.1 c)
    rw [if_pos c]
    refine t_pos (by decide) ?_
    refine t_V (t_mono (cS_adv hc he) (fun M4 h4 => ?_))
    have h2 := RL_adv hR' h' h4 hX1.2 hX2 hX3 hX4
    have e71 : X 171 = Mr 171 := hX2 171 (by decide)
    obtain ⟨h4, h49⟩ := h4
    rw [h4.2.1]
    refine t_ck (kd_e he) ?_
    have hH2 := h2.2.2.2.2.2.2.2.1
    rw [e71] at hH2
    have e13 : M4 (e + 13) = Mc (e + 13) := h49.1 _ (by omega)
    have hl := ln_nm he
    refine t_W (t_mono (cS_new (D := Mr 171) (N := 6) (m := Mr 171 1) (base := 74) h4 he (by decide) (Or.inr rfl) hl.2.2.1 hl.2.2.2 (by rw [e13, hc.2.2.2.2.2, r6]) hH2.2.2.2.1 (by omega) (by rw [show e + 13 + 1 = e + 14 from by omega, show e + 13 + 2 = e + 15 from by omega]; exact hH2.2.2.2.2.2.2.1)) (fun q hq => ?_))
    obtain ⟨r, hrr, hr1, hr3, hr4, hr5⟩ := rS_new (base := 74) (m := Mr 171 1) hO hB hX1.2 (by decide) (by omega) (by rw [e71]; exact rNm_i hH2.2.2.2.2.2.2.1)
    rw [e71] at hr1
    have rstep : ∀ (K : jM → Option jM) (Q : jM → Prop), jT (K (jst r 171 1 (r 171 1 + 1))) Q → jT (jck (0 ≤ (1 : Int) ∧ (1 : Int) < 1089) <| jbV (f_X10_freshName 74 (Mr 171 1) X) fun M88 => jck (0 ≤ (1 : Int) ∧ (1 : Int) < 1089) <| jck (0 ≤ (1 : Int) ∧ (1 : Int) < 1089) <| jlet (jst M88 171 1 ((M88 171 1) + 1)) fun M91 => K M91) Q := fun K Q hj => by
      refine t_ck (by decide) ?_
      refine t_Ve hrr ?_
      refine t_ck (by decide) (t_ck (by decide) ?_)
      exact t_let hj
    rcases hq with hy | hy
    · obtain ⟨y1, y2, y3, y4, y5, y6, y7⟩ := hy
      have hz := hr1.resolve_right (fun z => z.1 y1)
      rw [y2]
      refine t_ck (Or.inr (by decide)) (t_some ?_)
      intro K Q hK
      dsimp only at hK
      have r1 : r 171 1 = Mr 171 1 := hz.2.2.2 1 (by omega)
      refine rstep K Q (hK _ (Or.inl ⟨rfl, nx tx n (nx tx n p), by omega, y3, ⟨?_, ?_, frR_t hz.2.1.2.2 (frR_1 _ _ _)⟩, ?_, ?_, ?_⟩))
      · unfold rAt
        rw [pst_c (by decide)]
        exact hz.2.1.1
      · rw [pst_c (by decide)]
        exact hz.2.1.2.1
      · rw [pst_c (by decide), hr4]
        exact h2.2.2.1
      · rw [pst_c (by decide), hr5, y7]
        exact h2.2.2.2.1
      · rw [pst_c (show (166 : Int) ≠ 171 by decide), pst_f (show (172 : Int) ≠ 171 by decide), hr5, hr3 172 (by decide) (by decide)]
        have T0 : ∀ j, j ≠ 1 → jst r 171 1 (r 171 1 + 1) 171 j = r 171 j := fun j b => pst_i b
        have T1 : jst r 171 1 (r 171 1 + 1) 171 1 = Mr 171 1 + 1 := by rw [pst_s, r1]
        generalize jst r 171 1 (r 171 1 + 1) 171 = T' at T0 T1 ⊢
        have hE2 := h2.2.2.2.2
        rw [e71] at hE2
        refine evT_skater hE2 (by omega) c (fun a b0 b1 b2 b3 b4 => y6 a b2 (by omega) (by omega) (by omega)) y4 ?_ (fun j b0 b1 => by rw [T0 j b0]; exact hz.2.2.2 j (by omega)) T1
        have := y5 T' (fun i k i0 i1 k0 k1 => by rw [T0 _ (by omega)]; exact hz.2.2.2 _ (by omega)) (fun k k0 k1 => by rw [T0 _ (by omega)]; exact hz.2.2.1 k k0 k1)
        rw [show e + 13 + 1 = e + 14 from by omega, show e + 13 + 2 = e + 15 from by omega] at this
        exact this
    · obtain ⟨y1, y2⟩ := hy
      have hz := hr1.resolve_left (fun z => y1 z.1)
      rw [y2]
      refine t_ck (Or.inl (show jw 0 = 0 by decide)) (t_some ?_)
      intro K Q hK
      dsimp only at hK
      exact rstep K Q (hK _ (Or.inr ⟨rfl, fl_1 (fl_0 (by omega) h4.2.2.2 he hz.2.1 hz.2.2.2.1 hz.2.2.2.2) _ _⟩))
  · have hX1 := hX1.resolve_left (fun z => c z.1)
    rw [if_neg c]
    refine t_neg (by decide) ?_
    refine c_refuse ?_
    intro K Q hK
    dsimp only at hK
    rw [hc.1.2.2.2.2.1] at hK
    have hfl := fl_0 (e := e) (A := A) (Mc := Mc) (p := p) (by omega) hc.2.2.2 he hX1.2.1 hX1.2.2.1 hX1.2.2.2
    refine t_ck (by decide) ?_
    refine t_Ve (l_fresh (fl_okF hfl)) ?_
    refine t_ck (by decide) (t_ck (by decide) ?_)
    exact t_let (hK _ (Or.inr ⟨rfl, fl_1 hfl _ _⟩))
