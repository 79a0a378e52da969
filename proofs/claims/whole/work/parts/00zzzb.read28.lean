/-! ===== reading: an attempt's line ===== -/
def OutD (e : Int) (tx : Int → Int) (n : Int) (A B : jM) (p v : Int) (Mc Mr : jM) : Prop := Out e tx n A B p v Mc Mr ∨ v = 0 ∧ lt8 e tx n A B Mc Mr
theorem do_calls {e n s k m p p0 pL p2 v g at' : Int} {tx w : Int → Int} {A B M0 R0 M16 X q1 q2 r1 r2 : jM} (hR : rc e tx n A B) (hg : g = e + 16 + 1 + 6 * s) (hat : at' = 12 * s + k) (hs : 0 ≤ s ∧ s < 6) (hk : 0 ≤ k ∧ k < 12) (hs1 : s < R0 171 1) (hkT : R0 171 (116 + s) = k) (hm : 1 ≤ m ∧ m ≤ 3) (hE : evT e p0 1 M0 (R0 171) (R0 172)) (hp : p0 ≤ p2) (hpL : pL < p2) (hD : RD e tx n A B s k M0 R0 m p M16 X) (hv : 0 ≤ v ∧ v ≤ 600) (hw : ∀ j, 0 ≤ j → j < R0 171 2 → -5 ≤ w j ∧ w j ≤ 5)
    (hq1 : ∀ a, a ≠ 109 → q1 a = M16 a) (hc2 : cS e tx n A p2 q2) (h28 : q2 109 8 = 1) (hq2 : ∀ a, a ≠ 109 → a ≠ g + 5 → q2 a = jst q1 (g + 1) k v a) (hq2k : ∀ j, 0 ≤ j → j < R0 171 2 → q2 (g + 5) (k * 9 + j) = w j) (hq2o : ∀ j, (j < k * 9 ∨ k * 9 + 9 ≤ j) → q2 (g + 5) j = jst q1 (g + 1) k v (g + 5) j)
    (hr2 : rS tx n B p2 r2) (h213 : r2 166 13 = 0) (hr1 : ∀ a, a ≠ 166 → r1 a = jst X 171 (194 + at') m a) (hr2a : ∀ a, a ≠ 166 → a ≠ 172 → r2 a = jst r1 171 (122 + at') v a) (hr2k : ∀ j, 0 ≤ j → j < R0 171 2 → r2 172 (9 * at' + j) = w j) (hr2o : ∀ j, (j < 9 * at' ∨ 9 * at' + R0 171 2 ≤ j) → r2 172 j = X 172 j) :
    jT (jbW (f_X4_calls g k q2) fun v30 M29 => if jw v30 = 0 then (some (0, M29)) else (jlet (jst M29 g 0 ((M29 g 0) + 1)) fun M31 => some (1, M31))) (fun qc => ∀ (Q : jM → Prop), (∀ Y, OutD e tx n A B pL qc.1 qc.2 Y → Q Y) → jT (jck (0 ≤ jw (810 + at') ∧ jw (810 + at') < 971) <| jlet (jst r2 172 (jw (810 + at')) 0) fun M30 => jbW (f_X10_callTold M30) fun v33 M32 => jlp2 (FrC s at') jfuel v33 M32) Q) := by
  have he := hR.1
  have hO := hR.2.1
  have hB := hR.2.2.1
  have hat72 : 0 ≤ at' ∧ at' < 72 := by omega
  have gg : e ≤ g ∧ g + 5 ≤ e + 52 := by omega
  have e52 : e + 52 < 109 := by omega
  have gne : g ≠ e + 2 ∧ g ≠ e + 13 ∧ g + 4 ≠ e + 2 ∧ g + 4 ≠ e + 13 := by omega
  have hJ := hE.1.2.2.1
  have hrS3 : rS tx n B p2 (jst r2 172 (810 + at') 0) := by
    refine ⟨?_, by rw [pst_c (by decide)]; exact hr2.2.1, frR_t hr2.2.2 (frR_2 _ _ _)⟩
    unfold rAt
    rw [pst_c (by decide)]
    exact hr2.1
  obtain ⟨z, hzz, z0, z1, z2, z3⟩ := e_callTold hO (rTx_R hB hrS3.2.2) hrS3.1 hrS3.2.1
  have hcl := cl_pair (s := s) (p0 := p2) (g := g) (k := k) (M1 := q2) (R1 := jst r2 172 (810 + at') 0) hR hat72 hk 3 jfuel jfuel 0 p2 0 q2 z.2 (by decide) (by decide) (by rw [jfuel_eq]; omega) (by rw [jfuel_eq]; omega) (by decide) (by decide) (Int.le_refl _) ⟨hc2, ⟨rAt_p hrS3.1 z1, by rw [z3.2 7 (by decide) (by decide)]; exact hrS3.2.1, frR_t hrS3.2.2 (frR_6 z3)⟩, by rw [z3.2 13 (by decide) (by decide), pst_c (by decide)]; exact h213, h28, fun _ _ => rfl, fun a b0 _ => z3.1 a b0, fun j b => by rw [z3.1 172 (by decide)], by rw [z3.1 172 (by decide), pst_s]; rfl⟩ z1 z2
  have hfc : f_X4_calls g k q2 = jlp3 (FcC g k) jfuel ((0 : Nat) : Int) 0 q2 := rfl
  rw [hfc]
  have rstep : ∀ (Q : jM → Prop), jT (jlp2 (FrC s at') jfuel (ixW (wd tx n p2) W5 0) z.2) Q → jT (jck (0 ≤ jw (810 + at') ∧ jw (810 + at') < 971) <| jlet (jst r2 172 (jw (810 + at')) 0) fun M30 => jbW (f_X10_callTold M30) fun v33 M32 => jlp2 (FrC s at') jfuel v33 M32) Q := fun Q hj => by
    rw [pw_of (z := 810 + at') (by omega) (by omega)]
    refine t_ck (by omega) (t_let ?_)
    refine t_We (v := z.1) (M := z.2) hzz ?_
    rw [z0]
    exact hj
  obtain ⟨qc, hqc, hP⟩ := hcl
  rw [hqc]
  by_cases c0 : jw qc.1 = 0
  · refine t_W (t_some (t_pos c0 (t_some ?_)))
    intro Q hQ
    dsimp only at hQ
    refine rstep Q (hP Q (fun c' p' Mx X' a1 _ _ _ _ _ => absurd c0 (by rw [a1]; decide)) (fun X' a1 a2 => hQ _ (Or.inl (Or.inr ⟨rfl, a2⟩))) (fun X' a1 a2 => ?_))
    have hsp := a2
    obtain ⟨p', b1, b2, b3, b4, b5⟩ := a2
    unfold FrD
    rw [pw_of (z := 116 + s) (by omega) (by omega)]
    refine t_ck (by omega) (t_ck (by omega) (t_let (t_let (t_some (hQ _ (Or.inr ⟨rfl, p', b1, b2, b3, b4, ?_, ?_, ?_⟩))))))
    · unfold rAt
      rw [pst_i (by decide), pst_c (by decide)]
      exact b5.1
    · rw [pst_i (by decide), pst_c (by decide)]
      exact b5.2.1
    · exact frR_t (frR_t b5.2.2 (frR_1 _ _ _)) ⟨fun a q _ _ => pst_f q, fun j _ _ _ _ q => pst_i q⟩
  · refine t_W (t_some (t_neg c0 (t_let (t_some ?_))))
    intro Q hQ
    dsimp only at hQ
    refine rstep Q (hP Q (fun c' p' Mx X' a1 a2 a3 a4 a5 a6 => ?_) (fun X' a1 _ => absurd (by rw [a1]; decide) c0) (fun X' a1 _ => absurd (by rw [a1]; decide) c0))
    obtain ⟨k1, k2, k3, k4, k5, k6, k7, k8⟩ := a5
    unfold FrD
    rw [pw_of (z := 116 + s) (by omega) (by omega)]
    refine t_ck (by omega) (t_ck (by omega) (t_let (t_let (t_some (hQ _ (Or.inl (Or.inl ⟨rfl, p', by omega, ?_, ⟨?_, ?_, ?_⟩, ?_, ?_, ?_⟩)))))))
    · rw [a6]
      exact cS_st (cS_st k1 he (frC_s (by omega) (Or.inl ⟨gne.2.2.1, gne.2.2.2⟩)) (fun j _ _ => pst_c (by omega))) he (frC_s (by omega) (Or.inl ⟨gne.1, gne.2.1⟩)) (fun j _ _ => pst_c (by omega))
    · unfold rAt
      rw [pst_i (by decide), pst_c (by decide)]
      exact k2.1
    · rw [pst_i (by decide), pst_c (by decide)]
      exact k2.2.1
    · exact frR_t (frR_t k2.2.2 (frR_1 _ _ _)) ⟨fun a q _ _ => pst_f q, fun j _ _ _ _ q => pst_i q⟩
    · rw [pst_i (by decide), pst_c (by decide)]
      exact k3
    · rw [a6, pst_c (by omega), pst_c (by omega), pst_s]
      exact k4
    · rw [pst_s, pst_f (show (171 : Int) ≠ 166 by decide), pst_f (show (172 : Int) ≠ 166 by decide), pst_f (show (172 : Int) ≠ 171 by decide), a6]
      have x71 : X' 171 = jst r1 171 (122 + at') v 171 := by rw [k6 171 (by decide) (by decide), pst_f (by decide), hr2a 171 (by decide) (by decide)]
      have r71 : r1 171 = jst X 171 (194 + at') m 171 := hr1 171 (by decide)
      have mx : ∀ a, a ≠ 109 → a ≠ g + 5 → Mx a = jst q1 (g + 1) k v a := fun a b0 b1 => by rw [k5 a b0]; exact hq2 a b0 b1
      have hn : ∀ j, j ≠ 810 + at' → X' 172 j = r2 172 j := fun j b => by rw [k7 j b, pst_i b]
      have ng : g ≠ g + 4 ∧ g ≠ g + 1 ∧ g ≠ g + 5 ∧ g ≠ 109 ∧ g + 1 ≠ g ∧ g + 1 ≠ g + 4 ∧ g + 1 ≠ g + 5 ∧ g + 1 ≠ 109 ∧ g + 4 ≠ g ∧ g + 4 ≠ g + 1 ∧ g + 4 ≠ g + 5 ∧ g + 4 ≠ 109 ∧ g + 5 ≠ g ∧ g + 5 ≠ g + 4 ∧ g + 5 ≠ g + 1 ∧ g + 5 ≠ 109 := by omega
      obtain ⟨n1, n2, n3, n4, n5, n6, n7, n8, n9, n10, n11, n12, n13, n14, n15, n16⟩ := ng
      have nt : 116 + s ≠ 122 + at' ∧ 116 + s ≠ 194 + at' ∧ 122 + at' ≠ 116 + s ∧ 194 + at' ≠ 116 + s ∧ 194 + at' ≠ 122 + at' := by omega
      obtain ⟨u1, u2, u3, u4, u5⟩ := nt
      have h8n : ∀ j, 0 ≤ j → j < R0 171 2 → 9 * at' + j ≠ 810 + at' := fun j j0 j1 => by omega
      refine do_fin (v := v) (cl := c') (w := w) he hg hat hs hk hs1 hkT hm hE (by omega) hD hv ⟨a2, a3⟩ hw (fun a b0 b1 b2 b3 b4 => ?_) ?_ (fun j b => ?_) (fun j b => ?_) ?_ (fun j b => ?_) ?_ (fun j b => ?_) (fun j j0 j1 => ?_) (fun j b0 b1 b2 => ?_) ?_ ?_ ?_ (fun j b0 b1 => ?_) k8 (fun j j0 j1 => ?_)
      · rw [pst_f b1, pst_f b3, mx a b0 b4, pst_f b2]
        exact hq1 a b0
      · rw [pst_s, pst_c n1, mx g n4 n3, pst_c n2, hq1 g n4]
      · rw [pst_i b, pst_c n1, mx g n4 n3, pst_c n2, hq1 g n4]
      · rw [pst_c n5, pst_c n6, mx (g + 1) n8 n7, pst_i b, hq1 _ n8]
      · rw [pst_c n5, pst_c n6, mx (g + 1) n8 n7, pst_s]
      · rw [pst_c n9, pst_i b, mx (g + 4) n12 n11, pst_c n10, hq1 _ n12]
      · rw [pst_c n9, pst_s]
      · rw [pst_c n13, pst_c n14, k5 _ n16, hq2o j b, pst_c n15, hq1 _ n16]
      · rw [pst_c n13, pst_c n14, k5 _ n16]
        exact hq2k j j0 j1
      · rw [pst_i b0, x71, pst_i b1, r71, pst_i b2]
      · rw [pst_s, x71, pst_i u1, r71, pst_i u2]
      · rw [pst_i u3, x71, pst_s]
      · rw [pst_i u4, x71, pst_i u5, r71, pst_s]
      · rw [hn j b0]
        exact hr2o j b1
      · rw [hn _ (h8n j j0 j1)]
        exact hr2k j j0 j1
theorem do_rest {e n s k m p p0 pL g at' : Int} {tx : Int → Int} {A B M0 R0 M16 X : jM} (hR : rc e tx n A B) (hg : g = e + 16 + 1 + 6 * s) (hat : at' = 12 * s + k) (hs : 0 ≤ s ∧ s < 6) (hk : 0 ≤ k ∧ k < 12) (hs1 : s < R0 171 1) (hkT : R0 171 (116 + s) = k) (hm : 1 ≤ m ∧ m ≤ 3) (hE : evT e p0 1 M0 (R0 171) (R0 172)) (hp : p0 ≤ p) (hpL : pL < p) (hD : RD e tx n A B s k M0 R0 m p M16 X) :
    jT (FcRest g k M16) (fun qc => ∀ (Q : jM → Prop), (∀ Y, OutD e tx n A B pL qc.1 qc.2 Y → Q Y) → jT (FrRest s k at' m X) Q) := by
  have he := hR.1
  have hO := hR.2.1
  have hB := hR.2.2.1
  have n6 := hO.2.1
  have hJ := hE.1.2.2.1
  have hat72 : 0 ≤ at' ∧ at' < 72 := by omega
  have gg : e ≤ g ∧ g + 5 ≤ e + 52 := by omega
  have e52 : e + 52 < 109 := by omega
  have hDc := hD.1
  have hDr := hD.2.1
  have hpp : 0 ≤ p ∧ p ≤ n := hDc.1.2.1
  have hT := hD.2.2.2.2.2.2.2.2.2.1
  have hM := hD.2.2.2.2.1
  have hH := hE.2.2.2.1
  have d13 := hD.2.2.1
  have d8 := hD.2.2.2.1
  have d2 := hD.2.2.2.2.2.2.2.2.1
  -- the least time
  obtain ⟨lo, hlo, hloc, hlor⟩ : ∃ lo, (0 ≤ lo ∧ lo ≤ 600) ∧ (∀ (P : Int × jM → Prop) (k19 : Int → Option (Int × jM)), jT (k19 lo) P → jT (if jw k ≤ 0 then (k19 0) else (jck (0 ≤ jw (k - 1) ∧ jw (k - 1) < 12) <| k19 (M16 (g + 1) (jw (k - 1))))) P) ∧ (∀ (P : jM → Prop) (k21 : Int → Option jM), jT (k21 lo) P → jT (if jw k = 0 then (k21 0) else (jck (0 ≤ jw ((122 + at') - 1) ∧ jw ((122 + at') - 1) < 1089) <| k21 (jst X 171 (194 + at') m 171 (jw ((122 + at') - 1))))) P) := by
    by_cases c : k = 0
    · refine ⟨0, by omega, fun P k19 hj => ?_, fun P k21 hj => ?_⟩
      · rw [pw_of (z := k) (by omega) (by omega)]
        exact t_pos (by omega) hj
      · rw [pw_of (z := k) (by omega) (by omega)]
        exact t_pos c hj
    · have hsk := (hE.2.2.2.2.1 s hs.1 hs.2).2.2.2.1 (k - 1) (by omega) (by omega)
      have hb := hE.1.2.2.2.2.2.2.2.1 (12 * s + (k - 1)) (by omega) (by omega)
      refine ⟨R0 171 (122 + (12 * s + (k - 1))), hb, fun P k19 hj => ?_, fun P k21 hj => ?_⟩
      · rw [pw_of (z := k) (by omega) (by omega), pw_of (z := k - 1) (by omega) (by omega), hM (g + 1) (by omega) (by omega) (by omega) (by omega), hg, hsk.1]
        exact t_neg (by omega) (t_ck (by omega) hj)
      · rw [pw_of (z := k) (by omega) (by omega), pw_of (z := 122 + at' - 1) (by omega) (by omega), pst_i (by omega), hT (122 + at' - 1) (by omega), show 122 + at' - 1 = 122 + (12 * s + (k - 1)) from by omega]
        exact t_neg c (t_ck (by omega) hj)
  have hX1 : rS tx n B p (jst X 171 (194 + at') m) := rS_1 hDr
  have rs0 : ∀ Q : jM → Prop, jT (FrR2 s at' lo (jst X 171 (194 + at') m)) Q → jT (FrRest s k at' m X) Q := fun Q hj => by
    unfold FrRest
    rw [pw_of (z := 194 + at') (by omega) (by omega)]
    refine t_ck (by omega) (t_let ?_)
    exact t_kP (fun kk => jT (kk lo) Q) hj (fun k21 hk21 => hlor Q k21 hk21)
  unfold FcRest
  refine t_kP (fun kk => jT (kk lo) (fun qc => ∀ (Q : jM → Prop), (∀ Y, OutD e tx n A B pL qc.1 qc.2 Y → Q Y) → jT (FrRest s k at' m X) Q)) ?_ (fun k19 hk19 => hloc _ k19 hk19)
  refine t_W (t_mono (cS_num (lo := lo) (hi := 600) hDc he (by omega) (by decide)) (fun q1 hq1 => ?_))
  obtain ⟨hq1, hq12, hq13⟩ := hq1
  obtain ⟨r1, hrr1, hr11, hr12, hr13, hr14, hr15⟩ := rS_num (lo := lo) (hi := 600) hO hB hX1 (by omega) (by decide)
  have rs1 : ∀ Q : jM → Prop, jT (jck (0 ≤ jw (122 + at') ∧ jw (122 + at') < 1089) <| jlet (jst r1.2 171 (jw (122 + at')) r1.1) fun M26 => jbV (f_X10_letters (0 + (9 * at')) 5 M26) fun M28 => jck (0 ≤ jw (810 + at') ∧ jw (810 + at') < 971) <| jlet (jst M28 172 (jw (810 + at')) 0) fun M30 => jbW (f_X10_callTold M30) fun v33 M32 => jlp2 (FrC s at') jfuel v33 M32) Q → jT (FrRest s k at' m X) Q := fun Q hj => by
    refine rs0 Q ?_
    unfold FrR2
    exact t_We (v := r1.1) (M := r1.2) hrr1 hj
  rcases hq1 with hy | hy
  · have hz := hr11.resolve_right (fun z => z.1 hy.1)
    clear hr11
    rw [hy.2.1]
    refine t_neg (by decide) ?_
    rw [pw_of (z := k) (by omega) (by omega)]
    refine t_ck hk (t_let ?_)
    have hvv : q1.2 109 6 = r1.1 := by rw [hy.2.2.1, hz.2.1]
    rw [hvv]
    have hvb : 0 ≤ r1.1 ∧ r1.1 ≤ 600 := by
      have := hz.1.2.2
      rw [← hz.2.1] at this
      omega
    have hpn : p < n := by
      have h1 := hy.1.1
      have h2 := (rn_b (c := isDg) (tx := tx) hpp.2).2.1
      omega
    have hb1 : p < nx tx n p ∧ 0 ≤ nx tx n p ∧ nx tx n p ≤ n := by
      have := nx_b (tx := tx) (n := n) (p := p) hpp
      omega
    have hb2 := (nx_b (tx := tx) (n := n) (p := nx tx n p) (by omega)).2.2.1
    have hc3 : cS e tx n A (nx tx n p) (jst q1.2 (g + 1) k r1.1) := cS_st hy.2.2.2 he (frC_s (by omega) (Or.inl (by omega))) (fun j _ _ => pst_c (by omega))
    have hJc : jst q1.2 (g + 1) k r1.1 e 0 = R0 171 2 := by
      rw [pst_c (by omega), hq12 e (by omega), hM e (by omega) (by omega) (by omega) (by omega)]
      exact hH.1
    have hcv := cS_votes (s := s) (row := k) (off := -5) hc3 he hs hJc hJ (by omega)
    rw [← hg] at hcv
    refine t_W (t_mono hcv (fun q2 hq2 => ?_))
    obtain ⟨hq21, hq22, hq23⟩ := hq2
    have hr3 : rS tx n B (nx tx n p) (jst r1.2 171 (122 + at') r1.1) := rS_1 hz.2.2
    have hJr : jst r1.2 171 (122 + at') r1.1 171 2 = R0 171 2 := by
      rw [pst_i (by omega), hr13 171 (by decide), pst_i (by omega)]
      exact hT 2 (by omega)
    obtain ⟨r2, hrr2, hr21, hr22, hr23, hr24⟩ := rS_let (a := 0 + (9 * at')) (b := 5) hO hB hr3 hJr hJ (by omega)
    have rs2 : ∀ Q : jM → Prop, jT (jck (0 ≤ jw (810 + at') ∧ jw (810 + at') < 971) <| jlet (jst r2 172 (jw (810 + at')) 0) fun M30 => jbW (f_X10_callTold M30) fun v33 M32 => jlp2 (FrC s at') jfuel v33 M32) Q → jT (FrRest s k at' m X) Q := fun Q hj => by
      refine rs1 Q ?_
      rw [pw_of (z := 122 + at') (by omega) (by omega)]
      refine t_ck (by omega) (t_let ?_)
      exact t_Ve hrr2 hj
    rcases hq21 with hu | hu
    · have hx := hr21.resolve_right (fun z => z.1 hu.1)
      clear hr21
      rw [hu.2.1]
      refine t_neg (by decide) ?_
      obtain ⟨lv, -⟩ := lt_v hO ⟨hb1.2.1, hb1.2.2⟩ hu.1
      refine t_mono (do_calls (w := fun j => tx (nx tx n p + j) - 102) (q1 := q1.2) (q2 := q2.2) (r1 := r1.2) (r2 := r2) (p2 := nx tx n (nx tx n p)) hR hg hat hs hk hs1 hkT hm hE (by omega) (by omega) hD hvb (fun j j0 j1 => ?_) hq12 hu.2.2.1 ?_ hq22 (fun j j0 j1 => ?_) hu.2.2.2.2 hx.2.1 ?_ hr13 hr22 (fun j j0 j1 => ?_) (fun j b => ?_)) (fun qc hqc Q hQ => rs2 Q (hqc Q hQ))
      · have := lv j j0 j1
        omega
      · rw [hq23, pst_c (by omega), hq13]
        exact d8
      · rw [hu.2.2.2.1 j j0 j1]
        omega
      · rw [hr23, pst_c (by decide), hr14, pst_c (by decide)]
        exact d13
      · have := hx.2.2.1 j j0 j1
        rw [show 0 + 9 * at' = 9 * at' from by omega] at this
        rw [this]
        omega
      · rw [hx.2.2.2 j (by omega), pst_c (by decide), hr13 172 (by decide), pst_c (by decide)]
    · have hx := hr21.resolve_left (fun z => hu.1 z.1)
      clear hr21
      rw [hu.2.1]
      refine t_pos (by decide) (t_some ?_)
      intro Q hQ
      dsimp only at hQ
      refine rs2 Q (l_cl (e := e) (n := n) (A := A) (B := B) (Mc := q2.2) ⟨?_, ?_, hu.2.2.2, hx.2.2.1, hx.2.2.2⟩ hs hat72 (fun Y hY => hQ Y (Or.inl (Or.inr ⟨rfl, hY⟩))))
      · rw [hu.2.2.1]
        omega
      · rw [hu.2.2.1]
        exact hx.2.1
  · have hz := hr11.resolve_left (fun z => hy.1 z.1)
    clear hr11
    rw [hy.2.1]
    refine t_pos (by decide) (t_some ?_)
    intro Q hQ
    dsimp only at hQ
    have hfl : fl e n A B q1.2 r1.2 := by
      refine ⟨?_, ?_, hy.2.2.2, hz.2.2.1, hz.2.2.2⟩
      · rw [hy.2.2.1]
        omega
      · rw [hy.2.2.1]
        exact hz.2.1
    refine rs1 Q ?_
    rw [pw_of (z := 122 + at') (by omega) (by omega)]
    refine t_ck (by omega) (t_let ?_)
    have h2 := fl_1 hfl (122 + at') r1.1
    refine t_Ve (l_letters (fl_okF h2)) ?_
    exact l_cl h2 hs hat72 (fun Y hY => hQ Y (Or.inl (Or.inr ⟨rfl, hY⟩)))
theorem ln_do {e n p s1 : Int} {tx : Int → Int} {A B Mc Mr X : jM} (hR : rc e tx n A B) (h : rLn e tx n A B p Mc Mr) (hpn : p < n) (hs : s1 = Mr 171 1 - 1) (hX : bgO (0 ≤ s1 ∧ Mr 171 (116 + s1) < 12) tx n B p Mr X) :
    jT (f_X4_doLine Mc) (fun qc => ∀ (K : jM → Option jM) (Q : jM → Prop), (∀ Mr', OutD e tx n A B p qc.1 qc.2 Mr' → jT (K Mr') Q) → jT (jbR (f_X10_hasFailed X) fun v79 => if jw v79 = 0 then (jbV (f_X10_doLine X) fun M81 => K M81) else (K X)) Q) := by
  have hR' := hR
  obtain ⟨he, hO, hB, r10, r6⟩ := hR
  obtain ⟨hc, hr, h13, h8, hE⟩ := h
  obtain ⟨hX1, hX2, hX3, hX4⟩ := hX
  have n6 := hO.2.1
  have t1 := hE.1.2.1
  have hpp : 0 ≤ p ∧ p ≤ n := hc.1.2.1
  have hb : p < nx tx n p ∧ nx tx n p ≤ n := by
    have := nx_b (tx := tx) (n := n) (p := p) hpp
    omega
  have e71 : X 171 = Mr 171 := hX2 171 (by decide)
  have e72 : X 172 = Mr 172 := hX2 172 (by decide)
  have hbad : ¬ (0 ≤ s1 ∧ Mr 171 (116 + s1) < 12) → jT (jbW (f_X4_refuse Mc) fun v6 M5 => jck (jw v6 = 0 ∨ jw v6 = 1) <| some (v6, M5)) (fun qc => ∀ (K : jM → Option jM) (Q : jM → Prop), (∀ Mr', OutD e tx n A B p qc.1 qc.2 Mr' → jT (K Mr') Q) → jT (jbR (f_X10_hasFailed X) fun v79 => if jw v79 = 0 then (jbV (f_X10_doLine X) fun M81 => K M81) else (K X)) Q) := fun hno => by
    have hX1 := hX1.resolve_left (fun z => hno z.1)
    refine c_refuse ?_
    intro K Q hK
    dsimp only at hK
    rw [hc.1.2.2.2.2.1] at hK
    have hfl := fl_0 (e := e) (A := A) (Mc := Mc) (p := p) (by omega) hc.2.2.2 he hX1.2.1 hX1.2.2.1 hX1.2.2.2
    refine t_Re (l_failed (fl_okF hfl)) ?_
    refine t_neg (by decide) ?_
    exact hK _ (Or.inl (Or.inr ⟨rfl, hfl⟩))
  unfold f_X4_doLine
  rw [hc.2.1]
  refine t_ck (kd_e he) ?_
  rw [hE.2.2.2.1.2.2.2.1, ← hs]
  refine t_let ?_
  refine t_kP (fun kk => ¬ (0 ≤ s1 ∧ Mr 171 (116 + s1) < 12) → jT kk (fun qc => ∀ (K : jM → Option jM) (Q : jM → Prop), (∀ Mr', OutD e tx n A B p qc.1 qc.2 Mr' → jT (K Mr') Q) → jT (jbR (f_X10_hasFailed X) fun v79 => if jw v79 = 0 then (jbV (f_X10_doLine X) fun M81 => K M81) else (K X)) Q)) hbad ?_
  intro k3 h3
  clear hbad
  rw [pw_of (z := s1) (by omega) (by omega)]
  refine t_if (fun c => h3 (fun q => by omega)) (fun c => ?_)
  refine t_ck (by omega) ?_
  have hsk := hE.2.2.2.2.1 s1 (by omega) (by omega)
  have h12 := hE.1.2.2.2.2.2.2.1 s1 (by omega) (by omega)
  rw [hsk.1, pw_of (z := Mr 171 (116 + s1)) (by omega) (by omega), pw_of (z := 12) (by omega) (by omega)]
  refine t_if (fun c2 => ?_) (fun c2 => h3 (fun q => c2 q.2))
  have hX1 := hX1.resolve_right (fun z => z.1 ⟨by omega, c2⟩)
  clear h3
  refine t_let ?_
  rw [pst_i (show (1 : Int) ≠ 8 by decide), hc.2.1]
  refine t_ck (kd_e he) ?_
  refine t_ck (by omega) ?_
  rw [pst_c (show e + 16 + 1 + 6 * s1 ≠ 109 by omega), hsk.1]
  refine t_let ?_
  have hc2 : cS e tx n A p (jst Mc 109 8 1) := cS_st hc he (frC_9 he (fun a q => pst_f q)) (fun j _ q => pst_i q)
  refine t_V (t_mono (cS_adv hc2 he) (fun M14 h14 => ?_))
  obtain ⟨h14, h149⟩ := h14
  have hE2 : evT e (nx tx n p) 1 M14 (X 171) (X 172) := by
    rw [e71, e72]
    exact evT_fr (evT_1 hE) (by omega) (fun a b0 b1 => by rw [h149.1 a (by omega), pst_f (by omega)])
  have hRD : RD e tx n A B s1 (Mr 171 (116 + s1)) M14 X 0 (nx tx n p) M14 X := ⟨h14, hX1.2, by rw [hX3]; exact h13, by rw [h149.2 8 (by decide) (by decide) (by decide), pst_s], fun _ _ _ _ _ => rfl, fun _ _ => rfl, fun q => by omega, fun _ _ => rfl, fun _ _ _ => rfl, fun _ _ => rfl, hE2.1, fun x x0 x1 => by omega⟩
  have hel := el_pair (p0 := nx tx n p) hR' (s := s1) (k := Mr 171 (116 + s1)) (by omega) (by omega) hE2.2.2.2.1 2 jfuel jfuel 0 (nx tx n p) M14 X (by decide) (by decide) (by rw [jfuel_eq]; omega) (by rw [jfuel_eq]; omega) (Int.le_refl _) hRD
  have hfe : f_X4_elements (e + 16 + 1 + 6 * s1) (Mr 171 (116 + s1)) M14 = jlp2 (FcE (e + 16 + 1 + 6 * s1) (Mr 171 (116 + s1))) jfuel 0 M14 := rfl
  rw [hfe]
  obtain ⟨qc, hqc, hP⟩ := hel
  rw [hqc]
  have rs0 : ∀ (K : jM → Option jM) (Q : jM → Prop), jT (EE 0 (266 + 3 * (12 * s1 + Mr 171 (116 + s1))) (fun M' => jlp2 (FrE (12 * s1 + Mr 171 (116 + s1)) (FrRest s1 (Mr 171 (116 + s1)) (12 * s1 + Mr 171 (116 + s1)))) jfuel 1 M') X) (fun Y => jT (K Y) Q) → jT (jbR (f_X10_hasFailed X) fun v79 => if jw v79 = 0 then (jbV (f_X10_doLine X) fun M81 => K M81) else (K X)) Q := fun K Q hj => by
    refine t_Re (e_failed (by rw [hX1.2.2.1]; omega)) ?_
    rw [if_pos hX1.2.2.1]
    refine t_pos (by decide) ?_
    refine t_V ?_
    unfold f_X10_doLine
    refine t_ck (by decide) ?_
    rw [show X 171 (jw 1) - 1 = s1 from by rw [e71, hs]; rfl]
    refine t_let ?_
    refine t_ck (by rw [pw_of (z := 116 + s1) (by omega) (by omega)]; omega) ?_
    rw [show X 171 (jw (116 + s1)) = Mr 171 (116 + s1) from by rw [pw_of (z := 116 + s1) (by omega) (by omega), e71]]
    refine t_let ?_
    refine t_Re (show f_X10_tryAt s1 (Mr 171 (116 + s1)) = some (12 * s1 + Mr 171 (116 + s1)) from rfl) ?_
    exact hj
  have hs6 : 0 ≤ s1 ∧ s1 < 6 := by omega
  have hk12 : 0 ≤ Mr 171 (116 + s1) ∧ Mr 171 (116 + s1) < 12 := by omega
  have hs1T : s1 < X 171 1 := by rw [e71]; omega
  by_cases c0 : jw qc.1 = 0
  · refine t_W (t_some (t_pos c0 (t_some ?_)))
    intro K Q hK
    dsimp only at hK
    refine rs0 K Q ?_
    have := hP (FrRest s1 (Mr 171 (116 + s1)) (12 * s1 + Mr 171 (116 + s1))) (fun Y => jT (K Y) Q) (fun m' p' X' a1 _ _ _ _ => absurd c0 (by rw [a1]; decide)) (fun X' a1 a2 => ⟨hK _ (Or.inl (Or.inr ⟨rfl, a2⟩)), fun m' _ _ => l_rest a2 hs6 hk12 rfl (fun Y hY => hK Y (Or.inl (Or.inr ⟨rfl, hY⟩)))⟩)
    rw [if_pos rfl, Int.add_zero, show (0 : Int) + 1 = 1 from rfl] at this
    exact this
  · refine t_W (t_some (t_neg c0 ?_))
    -- both go on from every place that the elements may end at
    have key : ∀ m' p' X', 1 ≤ m' → m' ≤ 3 → nx tx n p < p' → RD e tx n A B s1 (Mr 171 (116 + s1)) M14 X m' p' qc.2 X' → jT (FcRest (e + 16 + 1 + 6 * s1) (Mr 171 (116 + s1)) qc.2) (fun qd => ∀ (Q : jM → Prop), (∀ Y, OutD e tx n A B p qd.1 qd.2 Y → Q Y) → jT (FrRest s1 (Mr 171 (116 + s1)) (12 * s1 + Mr 171 (116 + s1)) m' X') Q) := fun m' p' X' b1 b2 b3 b4 => do_rest hR' rfl rfl hs6 hk12 hs1T (by rw [e71]) ⟨b1, b2⟩ hE2 (by omega) (by omega) b4
    obtain ⟨-, -, m1, p1, X1, b1, b2, b3, b4⟩ := hP (fun _ X' => some X') (fun _ => ∃ m' p' X', 1 ≤ m' ∧ m' ≤ 3 ∧ nx tx n p < p' ∧ RD e tx n A B s1 (Mr 171 (116 + s1)) M14 X m' p' qc.2 X') (fun m' p' X' _ a2 a3 a4 a5 => t_some ⟨m', p', X', a2, a3, a4, a5⟩) (fun X' a1 _ => absurd (by rw [a1]; decide) c0)
    obtain ⟨qd, hqd, -⟩ := key m1 p1 X1 b1 b2 b3 b4
    refine ⟨qd, hqd, fun K Q hK => rs0 K Q ?_⟩
    have := hP (FrRest s1 (Mr 171 (116 + s1)) (12 * s1 + Mr 171 (116 + s1))) (fun Y => jT (K Y) Q) (fun m' p' X' _ a2 a3 a4 a5 => by
      obtain ⟨qd', hqd', hr'⟩ := key m' p' X' a2 a3 a4 a5
      have he' : qd' = qd := Option.some.inj (hqd'.symm.trans hqd)
      subst he'
      exact hr' _ hK) (fun X' a1 _ => absurd (by rw [a1]; decide) c0)
    rw [if_pos rfl, Int.add_zero, show (0 : Int) + 1 = 1 from rfl] at this
    exact this
