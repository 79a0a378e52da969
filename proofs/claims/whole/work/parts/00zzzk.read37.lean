/-! ===== reading: a line, both sides ===== -/
def LQ (e : Int) (tx : Int → Int) (n : Int) (A B : jM) (p : Int) (Mc Mr2 : jM) : Prop := ∃ qc : Int × jM, (∀ k12, LC (ixW (wd tx n p) W0 0) k12 Mc = k12 qc.1 qc.2) ∧ jT (SC qc.1 qc.2) (fun q => Out e tx n A B p q.1 q.2 Mr2)
theorem lq_end {e n p : Int} {tx : Int → Int} {A B Mc Mr' : jM} {qc : Int × jM} (hR : rc e tx n A B) (hC : ∀ k12, LC (ixW (wd tx n p) W0 0) k12 Mc = k12 qc.1 qc.2) (h : OutD e tx n A B p qc.1 qc.2 Mr') : jT (jbV (f_X10_asksSign 59 Mr') fun M16 => some M16) (LQ e tx n A B p Mc) :=
  t_V (t_mono (sg_pair hR h) (fun X hX => t_some ⟨qc, hC, hX⟩))
theorem ix_0 {w : List Int} {k idx : Int} {ks : List Int} (h : w = sw k) : ixW w (k :: ks) idx = idx := if_pos h
theorem ix_s {w : List Int} {k idx : Int} {ks : List Int} (h : w ≠ sw k) : ixW w (k :: ks) idx = ixW w ks (idx + 1) := if_neg h
theorem sw_d : ∀ i : Nat, i < 12 → ∀ j : Nat, j < 12 → i ≠ j → sw (W0.getD i 0) ≠ sw (W0.getD j 0) := by decide +kernel
theorem ix_W {w : List Int} (i : Nat) (hi : i < 12) (h : w = sw (W0.getD i 0)) : ixW w W0 0 = (i : Int) := by
  have hd : ∀ j : Nat, j < 12 → i ≠ j → w ≠ sw (W0.getD j 0) := fun j hj c q => sw_d i hi j hj c (h.symm.trans q)
  have go : ∀ (m j : Nat) (ks : List Int), (∀ x : Nat, ks.getD x 0 = W0.getD (j + x) 0) → ks.length = 12 - j → j + m = i → ixW w ks (j : Int) = (i : Int) := by
    intro m
    induction m with
    | zero =>
      intro j ks hk hl hj
      have hj' : j = i := by omega
      subst hj'
      cases ks with
      | nil => rw [List.length_nil] at hl; omega
      | cons k ks =>
        have := hk 0
        rw [Nat.add_zero] at this
        rw [ix_0 (by rw [h, ← this]; rfl)]
    | succ m ih =>
      intro j ks hk hl hj
      cases ks with
      | nil => rw [List.length_nil] at hl; omega
      | cons k ks =>
        have h0 := hk 0
        rw [Nat.add_zero] at h0
        rw [ix_s (by have := hd j (by omega) (by omega); rw [← h0] at this; exact this)]
        have := ih (j + 1) ks (fun x => by have := hk (x + 1); rw [show j + 1 + x = j + (x + 1) from by omega, ← this]; rfl) (by rw [List.length_cons] at hl; omega) (by omega)
        rw [show ((j + 1 : Nat) : Int) = (j : Int) + 1 from by omega] at this
        exact this
  exact go i 0 W0 (fun x => by rw [Nat.zero_add]) rfl (by omega)
theorem ix_N {w : List Int} (h : ∀ k ∈ W0, w ≠ sw k) : ixW w W0 0 = -1 := by
  have go : ∀ (ks : List Int) (idx : Int), (∀ k ∈ ks, w ≠ sw k) → ixW w ks idx = -1 := by
    intro ks
    induction ks with
    | nil => intro idx _; rfl
    | cons k ks ih =>
      intro idx hk
      rw [ix_s (hk k (List.mem_cons_self ..))]
      exact ih _ (fun x hx => hk x (List.mem_cons_of_mem _ hx))
  exact go W0 0 h
theorem bgO_set {tx : Int → Int} {n p : Int} {B M Mr X : jM} (h6 : fr6 Mr M) (hf : fr6 M X) : (∀ a, a ≠ 166 → X a = Mr a) ∧ X 166 13 = Mr 166 13 ∧ X 166 14 = Mr 166 14 := by
  have := fr6_t h6 hf
  exact ⟨this.1, this.2 13 (by decide) (by decide), this.2 14 (by decide) (by decide)⟩
theorem line_pair {e n p : Int} {tx : Int → Int} {A B Mc Mr : jM} (hR : rc e tx n A B) (h : rLn e tx n A B p Mc Mr) (hpn : p < n) : jT (f_X10_line Mr) (LQ e tx n A B p Mc) := by
  have hR' := hR
  obtain ⟨he, hO, hB, r10, r6⟩ := hR
  have h' := h
  obtain ⟨hc, hr, h13, h8, hE⟩ := h
  have hp := rAt_b hr.1
  have n6 := hO.2.1
  have t0 := hE.1.1
  have t1 := hE.1.2.1
  have t3 := hE.1.2.2.2.1
  have hsh := hE.2.2.2.2.2.2.2.2.1
  have hrA := hr.1
  unfold rAt at hrA
  unfold f_X10_line
  refine t_V (t_mono (e_blanks hO (rTx_R hB hr.2.2) rfl ⟨hrA.1, hrA.2.1⟩) (fun M2 hM2 => ?_))
  obtain ⟨b1, b2, b6⟩ := hM2
  have hS2 : rS tx n B p M2 := ⟨rAt_p hr.1 (by rw [b1]; exact hrA.2.2), by rw [b6.2 7 (by decide) (by decide)]; exact hr.2.1, frR_t hr.2.2 (frR_6 b6)⟩
  refine t_ck (by decide) (t_let ?_)
  have hs1 : M2 171 (jw 1) - 1 = Mr 171 1 - 1 := by rw [b6.1 171 (by decide)]; rfl
  rw [hs1]
  obtain ⟨s1, hs⟩ : ∃ s1, s1 = Mr 171 1 - 1 := ⟨_, rfl⟩
  rw [← hs]
  refine t_kP (fun kk => ∀ f : Int, (f = 0 ∧ ¬ 0 ≤ s1 ∨ f = 1 ∧ 0 ≤ s1) → jT (kk f) (LQ e tx n A B p Mc)) (fun f0 hf0 => ?_) (fun k6 h6 => ?_)
  · refine t_ck (by decide) ?_
    refine t_kP (fun kk => ∀ f : Int, (f = 0 ∧ ¬ Mr 171 0 < 10 ∨ f = 1 ∧ Mr 171 0 < 10) → jT (kk f) (LQ e tx n A B p Mc)) (fun f hf => ?_) (fun k9 h9 => ?_)
    · -- element
      refine t_W (t_mono (rS_bg (k := 29) (ok := Mr 171 0 < 10) hO hB hS2 b6 (by decide) hf) (fun q hq => ?_))
      refine t_k ?_
      rcases hq with ⟨w29, q1, hX⟩ | ⟨w29, q1, hS3, f3, -⟩
      · rw [q1]
        refine t_neg (by decide) ?_
        obtain ⟨qc, hqc, hP⟩ := ln_element hR' h' hpn hX
        exact hP _ _ (fun Mr' ho => lq_end hR' (fun k12 => by rw [ix_W 0 (by decide) w29]; exact LC_0 hqc) (Or.inl ho))
      · rw [q1]
        refine t_pos (by decide) ?_
        obtain ⟨M11, hM11⟩ : ∃ X, X = q.2 := ⟨_, rfl⟩
        rw [← hM11] at hS3 f3 ⊢
        refine t_kP (fun kk => ∀ f : Int, (f = 0 ∧ ¬ Mr 166 14 = 0 ∨ f = 1 ∧ Mr 166 14 = 0) → jT (kk f) (LQ e tx n A B p Mc)) (fun f hf => ?_) (fun k18 h18 => ?_)
        · -- judges
          refine t_W (t_mono (rS_bg (k := 33) (ok := Mr 166 14 = 0) hO hB hS3 f3 (by decide) hf) (fun q hq => ?_))
          rcases hq with ⟨w33, q1, hX⟩ | ⟨w33, q1, hS4, f4, -⟩
          · rw [q1]
            refine t_neg (by decide) ?_
            obtain ⟨qc, hqc, hP⟩ := ln_judges hR' h' hpn hX
            exact hP _ _ (fun Mr' ho => lq_end hR' (fun k12 => by rw [ix_W 1 (by decide) w33]; exact LC_1 hqc) (Or.inl ho))
          · rw [q1]
            refine t_pos (by decide) ?_
            -- drop
            refine t_W (t_mono (rS_tw (k := 34) hO hB hS4 (by decide)) (fun y hy => ?_))
            obtain ⟨hy, y6⟩ := hy
            rcases hy with ⟨w34, y2, y3⟩ | ⟨w34, y2, hS5, -⟩
            · rw [y2]
              refine t_neg (by decide) ?_
              obtain ⟨z1, z2, z3⟩ := bgO_set (tx := tx) (n := n) (p := p) (B := B) f4 y6
              obtain ⟨qc, hqc, hP⟩ := ln_set (i := 0) (w := 964) (lo := 0) (hi := 3) hR' h' (by decide) (by decide) jstt_v.1.1 jstt_v.1.2 (by decide) (by decide) (fun v v0 v1 => by unfold okNi; omega) y3 z1 z2 z3
              exact hP _ _ (fun Mr' ho => lq_end hR' (fun k12 => by rw [ix_W 7 (by decide) w34]; exact LC_s (i := 0) (by decide) (by decide) hqc) (Or.inl ho))
            · rw [y2]
              refine t_pos (by decide) ?_
              have f5 := fr6_t f4 y6
              clear y2 y6 q1 hf
              -- factor
              refine t_W (t_mono (rS_tw (k := 35) hO hB hS5 (by decide)) (fun y hy => ?_))
              obtain ⟨hy, y6⟩ := hy
              rcases hy with ⟨w35, y2, y3⟩ | ⟨w35, y2, hS6, -⟩
              · rw [y2]
                refine t_neg (by decide) ?_
                obtain ⟨z1, z2, z3⟩ := bgO_set (tx := tx) (n := n) (p := p) (B := B) f5 y6
                obtain ⟨qc, hqc, hP⟩ := ln_factor hR' h' hpn y3 z1 z2 z3
                exact hP _ _ (fun Mr' ho => lq_end hR' (fun k12 => by rw [ix_W 11 (by decide) w35]; exact LC_s (i := 4) (by decide) (by decide) hqc) (Or.inl ho))
              · rw [y2]
                refine t_pos (by decide) ?_
                have f6 := fr6_t f5 y6
                clear y2 y6
                -- half
                refine t_W (t_mono (rS_tw (k := 36) hO hB hS6 (by decide)) (fun y hy => ?_))
                obtain ⟨hy, y6⟩ := hy
                rcases hy with ⟨w36, y2, y3⟩ | ⟨w36, y2, hS7, -⟩
                · rw [y2]
                  refine t_neg (by decide) ?_
                  obtain ⟨z1, z2, z3⟩ := bgO_set (tx := tx) (n := n) (p := p) (B := B) f6 y6
                  obtain ⟨qc, hqc, hP⟩ := ln_set (i := 1) (w := 965) (lo := 0) (hi := 600) hR' h' (by decide) (by decide) jstt_v.2.1.1 jstt_v.2.1.2 (by decide) (by decide) (fun v v0 v1 => by unfold okNi; omega) y3 z1 z2 z3
                  exact hP _ _ (fun Mr' ho => lq_end hR' (fun k12 => by rw [ix_W 8 (by decide) w36]; exact LC_s (i := 1) (by decide) (by decide) hqc) (Or.inl ho))
                · rw [y2]
                  refine t_pos (by decide) ?_
                  have f7 := fr6_t f6 y6
                  clear y2 y6
                  -- late
                  refine t_W (t_mono (rS_tw (k := 37) hO hB hS7 (by decide)) (fun y hy => ?_))
                  obtain ⟨hy, y6⟩ := hy
                  rcases hy with ⟨w37, y2, y3⟩ | ⟨w37, y2, hS8, -⟩
                  · rw [y2]
                    refine t_neg (by decide) ?_
                    obtain ⟨z1, z2, z3⟩ := bgO_set (tx := tx) (n := n) (p := p) (B := B) f7 y6
                    obtain ⟨qc, hqc, hP⟩ := ln_set (i := 2) (w := 966) (lo := 0) (hi := 50) hR' h' (by decide) (by decide) jstt_v.2.2.1.1 jstt_v.2.2.1.2 (by decide) (by decide) (fun v v0 v1 => by unfold okNi; omega) y3 z1 z2 z3
                    exact hP _ _ (fun Mr' ho => lq_end hR' (fun k12 => by rw [ix_W 9 (by decide) w37]; exact LC_s (i := 2) (by decide) (by decide) hqc) (Or.inl ho))
                  · rw [y2]
                    refine t_pos (by decide) ?_
                    have f8 := fr6_t f7 y6
                    clear y2 y6
                    -- repeat
                    refine t_W (t_mono (rS_tw (k := 38) hO hB hS8 (by decide)) (fun y hy => ?_))
                    obtain ⟨hy, y6⟩ := hy
                    rcases hy with ⟨w38, y2, y3⟩ | ⟨w38, y2, hS9, -⟩
                    · rw [y2]
                      refine t_neg (by decide) ?_
                      obtain ⟨z1, z2, z3⟩ := bgO_set (tx := tx) (n := n) (p := p) (B := B) f8 y6
                      obtain ⟨qc, hqc, hP⟩ := ln_set (i := 3) (w := 967) (lo := 1) (hi := 3) hR' h' (by decide) (by decide) jstt_v.2.2.2.1.1 jstt_v.2.2.2.1.2 (by decide) (by decide) (fun v v0 v1 => by unfold okNi; omega) y3 z1 z2 z3
                      exact hP _ _ (fun Mr' ho => lq_end hR' (fun k12 => by rw [ix_W 10 (by decide) w38]; exact LC_s (i := 3) (by decide) (by decide) hqc) (Or.inl ho))
                    · rw [y2]
                      refine t_pos (by decide) ?_
                      have f9 := fr6_t f8 y6
                      clear y2 y6
                      obtain ⟨M35, hM35⟩ : ∃ X, X = y.2 := ⟨_, rfl⟩
                      rw [← hM35] at hS9 f9 ⊢
                      refine t_ck (by decide) ?_
                      refine t_kP (fun kk => ∀ f : Int, (f = 0 ∧ ¬ Mr 171 3 < 6 ∨ f = 1 ∧ Mr 171 3 < 6) → jT (kk f) (LQ e tx n A B p Mc)) (fun f hf => ?_) (fun k39 h39 => ?_)
                      · -- deduct
                        refine t_W (t_mono (rS_bg (k := 39) (ok := Mr 171 3 < 6) hO hB hS9 f9 (by decide) hf) (fun q hq => ?_))
                        rcases hq with ⟨w39, q1, hX⟩ | ⟨w39, q1, hSa, fa, -⟩
                        · rw [q1]
                          refine t_neg (by decide) ?_
                          obtain ⟨qc, hqc, hP⟩ := ln_rule hR' h' hpn hX
                          exact hP _ _ (fun Mr' ho => lq_end hR' (fun k12 => by rw [ix_W 2 (by decide) w39]; exact LC_2 hqc) (Or.inl ho))
                        · rw [q1]
                          refine t_pos (by decide) ?_
                          obtain ⟨M41, hM41⟩ : ∃ X, X = q.2 := ⟨_, rfl⟩
                          rw [← hM41] at hSa fa ⊢
                          refine t_ck (by decide) ?_
                          refine t_kP (fun kk => ∀ f : Int, (f = 0 ∧ ¬ Mr 171 1 < 6 ∨ f = 1 ∧ Mr 171 1 < 6) → jT (kk f) (LQ e tx n A B p Mc)) (fun f hf => ?_) (fun k45 h45 => ?_)
                          · -- skater
                            refine t_W (t_mono (rS_bg (k := 51) (ok := Mr 171 1 < 6) hO hB hSa fa (by decide) hf) (fun q hq => ?_))
                            rcases hq with ⟨w51, q1, hX⟩ | ⟨w51, q1, hSb, fb, -⟩
                            · rw [q1]
                              refine t_neg (by decide) ?_
                              obtain ⟨qc, hqc, hP⟩ := ln_skater hR' h' hpn hX
                              exact hP _ _ (fun Mr' ho => lq_end hR' (fun k12 => by rw [ix_W 3 (by decide) w51]; exact LC_3 hqc) (Or.inl ho))
                            · rw [q1]
                              refine t_pos (by decide) ?_
                              obtain ⟨M47, hM47⟩ : ∃ X, X = q.2 := ⟨_, rfl⟩
                              rw [← hM47] at hSb fb ⊢
                              refine t_kP (fun kk => ∀ f : Int, (f = 0 ∧ ¬ (0 ≤ s1 ∧ Mr 171 (116 + s1) < 12) ∨ f = 1 ∧ (0 ≤ s1 ∧ Mr 171 (116 + s1) < 12)) → jT (kk f) (LQ e tx n A B p Mc)) (fun f hf => ?_) (fun k50 h50 => ?_)
                              · -- do
                                refine t_W (t_mono (rS_bg (k := 52) (ok := 0 ≤ s1 ∧ Mr 171 (116 + s1) < 12) hO hB hSb fb (by decide) hf) (fun q hq => ?_))
                                rcases hq with ⟨w52, q1, hX⟩ | ⟨w52, q1, hSc, fc, -⟩
                                · rw [q1]
                                  refine t_neg (by decide) ?_
                                  obtain ⟨qc, hqc, hP⟩ := ln_do hR' h' hpn hs hX
                                  exact hP _ _ (fun Mr' ho => lq_end hR' (fun k12 => by rw [ix_W 4 (by decide) w52]; exact LC_4 hqc) ho)
                                · rw [q1]
                                  refine t_pos (by decide) ?_
                                  clear q1 hf
                                  -- show
                                  refine t_W (t_mono (rS_bg (k := 56) (ok := 0 ≤ s1) hO hB hSc fc (by decide) hf0) (fun q hq => ?_))
                                  rcases hq with ⟨w56, q1, hX⟩ | ⟨w56, q1, hSd, fd, -⟩
                                  · rw [q1]
                                    refine t_neg (by decide) ?_
                                    obtain ⟨qc, hqc, hP⟩ := ln_show hR' h' hpn hs hX
                                    exact hP _ _ (fun Mr' ho => lq_end hR' (fun k12 => by rw [ix_W 5 (by decide) w56]; exact LC_5 hqc) (Or.inl ho))
                                  · rw [q1]
                                    refine t_pos (by decide) ?_
                                    clear q1
                                    -- lasts
                                    refine t_W (t_mono (rS_bg (k := 57) (ok := 0 ≤ s1) hO hB hSd fd (by decide) hf0) (fun q hq => ?_))
                                    rcases hq with ⟨w57, q1, hX⟩ | ⟨w57, q1, hSe, fe, q5⟩
                                    · rw [q1]
                                      refine t_neg (by decide) ?_
                                      obtain ⟨qc, hqc, hP⟩ := ln_lasts hR' h' hpn hs hX
                                      exact hP _ _ (fun Mr' ho => lq_end hR' (fun k12 => by rw [ix_W 6 (by decide) w57]; exact LC_6 hqc) (Or.inl ho))
                                    · rw [q1]
                                      refine t_pos (by decide) ?_
                                      refine t_Ve (e_fails0 hSe.2.1) ?_
                                      have hno : ∀ k ∈ W0, wd tx n p ≠ sw k := by
                                        unfold W0
                                        intro k hk
                                        simp only [List.mem_cons, List.not_mem_nil, or_false] at hk
                                        rcases hk with rfl | rfl | rfl | rfl | rfl | rfl | rfl | rfl | rfl | rfl | rfl | rfl <;> assumption
                                      refine lq_end (qc := (0, jst Mc 109 7 (Mc 109 4))) hR' (fun k12 => by rw [ix_N hno]; exact LC_n) (Or.inl (Or.inr ⟨rfl, ?_⟩))
                                      show fl e n A B (jst Mc 109 7 (Mc 109 4)) _
                                      rw [hc.1.2.2.2.2.1]
                                      exact fl_f (tx := tx) hc.2.2.2 he n6 hSe q5
                              · have h82 := h50 0
                                refine t_k ?_
                                rcases hf0 with ⟨f00, hn0⟩ | ⟨f01, hy0⟩
                                · rw [f00]
                                  exact t_pos (by decide) (h50 0 (Or.inl ⟨rfl, fun z => hn0 z.1⟩))
                                · rw [f01]
                                  refine t_neg (by decide) ?_
                                  refine t_Re (e_max (a := 0) (b := s1) (by omega) (by omega)) ?_
                                  rw [show max 0 s1 = s1 from by omega, pw_of (z := 116 + s1) (by omega) (by omega)]
                                  refine t_ck (by omega) ?_
                                  have e47 : M47 171 = Mr 171 := fb.1 171 (by decide)
                                  have h12 := hE.1.2.2.2.2.2.2.1 s1 (by omega) (by omega)
                                  rw [e47, pw_of (z := Mr 171 (116 + s1)) (by omega) (by omega), pw_of (z := 12) (by omega) (by omega)]
                                  refine t_if (fun c => h50 0 (Or.inl ⟨rfl, fun z => by omega⟩)) (fun c => h50 1 (Or.inr ⟨rfl, hy0, by omega⟩))
                          · have e41 : M41 171 (jw 1) = Mr 171 1 := by rw [fa.1 171 (by decide)]; rfl
                            rw [e41, pw_of (z := Mr 171 1) (by omega) (by omega), pw_of (z := 6) (by omega) (by omega)]
                            exact t_if (fun c => h45 0 (Or.inl ⟨rfl, by omega⟩)) (fun c => h45 1 (Or.inr ⟨rfl, by omega⟩))
                      · have e35 : M35 171 (jw 3) = Mr 171 3 := by rw [f9.1 171 (by decide)]; rfl
                        rw [e35, pw_of (z := Mr 171 3) (by omega) (by omega), pw_of (z := 6) (by omega) (by omega)]
                        exact t_if (fun c => h39 0 (Or.inl ⟨rfl, by omega⟩)) (fun c => h39 1 (Or.inr ⟨rfl, by omega⟩))
        · have e11 : M11 166 14 = Mr 166 14 := f3.2 14 (by decide) (by decide)
          rw [e11, pw_of (z := Mr 166 14) (by omega) (by omega)]
          exact t_if (fun c => h18 1 (Or.inr ⟨rfl, c⟩)) (fun c => h18 0 (Or.inl ⟨rfl, c⟩))
    · have e2 : M2 171 (jw 0) = Mr 171 0 := by rw [b6.1 171 (by decide)]; rfl
      rw [e2, pw_of (z := Mr 171 0) (by omega) (by omega), pw_of (z := 10) (by omega) (by omega)]
      exact t_if (fun c => h9 0 (Or.inl ⟨rfl, by omega⟩)) (fun c => h9 1 (Or.inr ⟨rfl, by omega⟩))
  · rw [pw_of (z := s1) (by omega) (by omega)]
    exact t_if (fun c => h6 0 (Or.inl ⟨rfl, by omega⟩)) (fun c => h6 1 (Or.inr ⟨rfl, by omega⟩))
