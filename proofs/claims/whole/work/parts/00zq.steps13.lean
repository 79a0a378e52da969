/-! ===== call, scratch, undo ===== -/
theorem stB {o1 : Option (Int × jM)} {g : jM → Option (Int × jM)} {code val : Int} {R : jM → Prop} (hc : 0 ≤ code ∧ code ≤ 4) (hv : val = 0 ∨ val = 1)
    (h1 : jT o1 (fun p => p.1 = code ∧ (code = 0 → p.2 180 0 = val) ∧ R p.2))
    (h2 : ∀ M3, R M3 → jT (g M3) (fun q => q.2 166 0 = code ∧ (code = 0 → q.1 = val) ∧ q.2 180 = M3 180 ∧ Inv q.2)) :
    jT (jbW o1 fun v1 M3 => jbW (g M3) fun v4 M6 => jbR (f_X10_thrown M6) fun v7 => jck (jw v7 = jw v1) <| if jw v1 = 0 then (jlet (if jw v4 = 0 then 0 else 1) fun b12 => jck (jw (jcmp (M6 180 (jw 0)) b12) = 0) <| some M6) else some M6) Inv := by
  refine t_W (t_mono h1 (fun p hp => ?_))
  obtain ⟨a1, a2, a3⟩ := hp
  refine t_W (t_mono (h2 p.2 a3) (fun q hq => ?_))
  obtain ⟨b1, b2, b3, hInv⟩ := hq
  refine t_Re rfl ?_
  rw [a1, b1]
  refine t_ck rfl ?_
  rw [pw_of (z := code) (by omega) (by omega)]
  refine t_if (fun c => ?_) (fun c => t_some hInv)
  refine t_let ?_
  refine t_ck ?_ (t_some hInv)
  rw [b3, pw_of (z := 0) (by omega) (by omega), a2 c, b2 c]
  rcases hv with hv | hv <;> rw [hv] <;> decide
theorem stQb {M : jM} (hI : Inv M) {o1 : Option (Int × jM)} {g : jM → Option (Int × jM)} {code : Int} (hc : 1 ≤ code ∧ code ≤ 4)
    (h1 : jT o1 (fun p => p.1 = code ∧ (code = 0 → p.2 180 0 = 0) ∧ fr8 M p.2))
    (h2 : ∀ M3, fr8 M M3 → jT (g M3) (fun q => q.2 166 0 = code ∧ (code = 0 → q.1 = 0) ∧ frX M3 q.2 ∧ bP (q.2 166))) :
    jT (jbW o1 fun v1 M3 => jbW (g M3) fun v4 M6 => jbR (f_X10_thrown M6) fun v7 => jck (jw v7 = jw v1) <| if jw v1 = 0 then (jlet (if jw v4 = 0 then 0 else 1) fun b12 => jck (jw (jcmp (M6 180 (jw 0)) b12) = 0) <| some M6) else some M6) Inv := by
  refine t_W (t_mono h1 (fun p hp => ?_))
  obtain ⟨a1, a2, a3⟩ := hp
  refine t_W (t_mono (h2 p.2 a3) (fun q hq => ?_))
  obtain ⟨b1, b2, b3, b4⟩ := hq
  have hInv := Inv_fr hI (frQ_8X a3 b3) b4
  refine t_Re rfl ?_
  rw [a1, b1]
  refine t_ck rfl ?_
  rw [pw_of (z := code) (by omega) (by omega)]
  exact t_neg (by omega) (t_some hInv)
theorem call8 : ∀ w, w < 8 → ∀ c, c < 3 → (0 ≤ jor ((w : Nat) : Int) (jsl 1 ((c : Nat) : Int)) ∧ jor ((w : Nat) : Int) (jsl 1 ((c : Nat) : Int)) ≤ 7) ∧ (0 ≤ jnd ((w : Nat) : Int) (jxr (jsl 1 ((c : Nat) : Int)) (-1)) ∧ jnd ((w : Nat) : Int) (jxr (jsl 1 ((c : Nat) : Int)) (-1)) ≤ 7) ∧ (jw (jnd ((w : Nat) : Int) (jsl 1 ((c : Nat) : Int))) = 0 ↔ q_in ((w : Nat) : Int) ((c : Nat) : Int) = 0) := by decide +kernel
/-- call -/
theorem z_17 {M : jM} (hI : Inv M) {a1 a2 a3 a4 : Int} (j1 : jin a1) (j2 : jin a2) (j3 : jin a3) : jT (s_17 a1 a2 a3 a4 M) Inv := by
  obtain ⟨hC, hT, hN, hP, hR, hQ, hcP⟩ := inv_ctx hI
  have t0 := hT.1
  have t1 := hT.2.1
  have t2 := hT.2.2.1
  have t3 := hT.2.2.2.1
  have hb3 := jin_b j3
  have he := hC.1
  unfold s_17
  refine t_let ?_
  generalize hbb : (if jw a4 = 0 then (0 : Int) else 1) = bb
  have hb01 : bb = 0 ∨ bb = 1 := by rw [← hbb]; split <;> simp
  by_cases c1 : (0 ≤ a1 ∧ a1 < M 169 1) ∧ q_is (P0 M) (M 169) (M 170) a1 a2 ≠ 0
  · have hkk := q_is_k c1.2
    have tt := hT.2.2.2.2.2.2.1 a1 c1.1.1 (by omega)
    by_cases c2 : 0 ≤ a3 ∧ a3 ≤ 2
    · have hvv := ((hC.2.2.2.2.2.2.2.2.2.2.2.2.2 a1 c1.1.1 c1.1.2).2.2.2.1 a2 hkk.1 hkk.2).2.2.2.1
      have hv := hN.2.2.1 (12 * a1 + a2) (by omega) (by omega)
      have h8 := call8 (M 170 (810 + (12 * a1 + a2))).toNat (by omega) a3.toNat (by omega)
      rw [← pn_nat hv.1, ← pn_nat c2.1] at h8
      obtain ⟨o1, o2, o3⟩ := h8
      generalize hnew : (if bb = 0 then jnd (M 170 (810 + (12 * a1 + a2))) (jxr (jsl 1 a3) (-1)) else jor (M 170 (810 + (12 * a1 + a2))) (jsl 1 a3)) = nv
      have hnv : 0 ≤ nv ∧ nv ≤ 7 := by rw [← hnew]; split <;> omega
      refine stB (code := 0) (val := q_in (M 170 (810 + (12 * a1 + a2))) a3) (R := fun M3 => aR M M3 (M 1 3 + 16 + 1 + 6 * a1 + 4) a2 nv 1 a1 a2 (M 170 (810 + (12 * a1 + a2)))) (by omega) (q_in_b _ _) ?_ (fun M3 hR3 => ?_)
      · unfold w_call f_X9_call
        obtain ⟨Mk, ek, k1, k2⟩ := c_keep (srt := 1) (sk := a1) (wh := a2) (bf := M 170 (810 + (12 * a1 + a2))) hI.2.2.2.2.2.1
        rw [c_wAt0 hC rfl hQ.2.2.1 c1, eR, if_pos rfl, eK, pw_of (z := a3) (by omega) (by omega), if_neg (by omega), pw_of (z := 3) (by omega) (by omega), if_pos (by omega), eC (kd_e he), pw_of (z := a1) (by omega) (by omega), eC (by omega), pw_of (z := a2) (by omega) (by omega), eC (by omega), eL, eL, hvv, ek, eV, eK]
        have tail : ∀ z, z = nv → jT (jbT3 (jck (0 ≤ a2 ∧ a2 < 12) <| jlet (jst Mk ((((M 1 3) + 16) + 1 + 6 * a1) + 4) a2 z) fun M14 =>
        if jw (jnd (M 170 (810 + (12 * a1 + a2))) (jsl 1 a3)) = 0 then (
          some ((0 : Int), (0 : Int), M14))
        else (
          some (0, 1, M14))) fun c v M1 => if c = 0 then (if jw v = 0 then some ((0 : Int), jst M1 180 0 0) else some (0, jst M1 180 0 1)) else if c = 2 then some (1, M1) else if c = 1 then some (2, M1) else none) (fun p => p.1 = 0 ∧ ((0 : Int) = 0 → p.2 180 0 = q_in (M 170 (810 + (12 * a1 + a2))) a3) ∧ aR M p.2 (M 1 3 + 16 + 1 + 6 * a1 + 4) a2 nv 1 a1 a2 (M 170 (810 + (12 * a1 + a2)))) := fun z hz => by
          subst hz
          rw [eC (by omega), eL]
          rcases q_in_b (M 170 (810 + (12 * a1 + a2))) a3 with q | q
          · rw [if_pos (o3.mpr q), eT3, if_pos rfl, if_pos (by decide), q]
            exact w3ok (v := 0) (val := 0) rfl rfl (by omega) (by omega) k1 k2
          · rw [if_neg (fun x => by have := o3.mp x; omega), eT3, if_pos rfl, if_neg (by decide), q]
            exact w3ok (v := 1) (val := 1) rfl rfl (by omega) (by omega) k1 k2
        rw [pw_of (z := bb) (by omega) (by omega)]
        by_cases d : bb = 0
        · rw [if_pos d]
          exact tail _ (by rw [← hnew, if_pos d])
        · rw [if_neg d]
          exact tail _ (by rw [← hnew, if_neg d])
      · obtain ⟨r6, r9, r0, b9, b0, b6⟩ := ref_C hI (by omega) hR3
        unfold f_X10_call
        refine t_let ?_
        refine t_We (e_noTry0 (by rw [b9]; exact hT) (by rw [b0]; exact hN) b6 (by rw [b9]; exact c1.1) (by rw [r6, b9, b0]; exact c1.2)) (t_pos (by decide) ?_)
        refine t_Re (e_in hb3 (by omega) (by omega)) ?_
        refine t_k ?_
        rw [b2_t c2]
        refine t_neg (by decide) ?_
        refine t_We (e_thr0 _ _) (t_pos (by decide) ?_)
        refine t_Re rfl ?_
        refine t_let ?_
        have hE' := rE_call (v := nv) hT hC.2.2.2.2 (sk := a1) (wh := a2) (by omega) (by omega)
        rw [r0, pw_of (z := 810 + (12 * a1 + a2)) (by omega) (by omega), pw_of (z := bb) (by omega) (by omega)]
        refine t_kP (fun kk => jT (kk nv) (fun q => q.2 166 0 = 0 ∧ ((0 : Int) = 0 → q.1 = q_in (M 170 (810 + (12 * a1 + a2))) a3) ∧ q.2 180 = M3 180 ∧ Inv q.2)) ?_ (fun kk hkk2 => ?_)
        · refine t_W (t_mono (act_fin hI (by omega) (by omega) hR3 (frX_0A M3) (mA_0 M3) (by rw [r6]; exact hcP.1) (idx := 810 + (12 * a1 + a2)) (w := nv) (by omega) (bN_upd hN (by omega) (by omega) (by omega) (by omega) (by omega) (by omega) (by omega) (by omega) (by omega) (by omega)) hE' ⟨by omega, by omega, by omega, by omega, by omega, fun _ => ⟨by omega, by omega, hv.1, hv.2⟩, by omega, by omega, by omega⟩ (und_self (fun j => by unfold und; rw [if_neg (by decide), if_pos rfl]))) (fun p hp => ?_))
          obtain ⟨x1, x2, x3, x4, -⟩ := hp
          rw [x1]
          refine t_Re (e_isIn (by omega) (by omega)) ?_
          refine t_ck ?_ (t_some ⟨x2, fun _ => rfl, x3, x4⟩)
          rcases q_in_b (M 170 (810 + (12 * a1 + a2))) a3 with q | q <;> rw [q] <;> decide
        · refine t_if (fun d => ?_) (fun d => ?_)
          · rw [if_pos d] at hnew
            rw [hnew]
            exact t_ck (by omega) hkk2
          · rw [if_neg d] at hnew
            rw [hnew]
            exact t_ck (by omega) hkk2
    · refine stQb hI (code := 2) (by omega) ?_ (fun M3 h8 => ?_)
      · unfold w_call f_X9_call
        rw [c_wAt0 hC rfl hQ.2.2.1 c1, eR, if_pos rfl, eK, pw_of hb3.1 hb3.2, pw_of (z := 3) (by omega) (by omega)]
        by_cases c5 : a3 < 0
        · rw [if_pos c5, eT3, if_neg (by decide), if_neg (by decide), if_pos rfl]
          exact wQ1 (by decide) (fr8_r M)
        · rw [if_neg c5, if_neg (by omega), eT3, if_neg (by decide), if_neg (by decide), if_pos rfl]
          exact wQ1 (by decide) (fr8_r M)
      · obtain ⟨r6, r9, r0⟩ := ref_A h8
        obtain ⟨b9, b0, b6⟩ := ref_B hP h8
        unfold f_X10_call
        refine t_let ?_
        refine t_We (e_noTry0 (by rw [b9]; exact hT) (by rw [b0]; exact hN) b6 (by rw [b9]; exact c1.1) (by rw [r6, b9, b0]; exact c1.2)) (t_pos (by decide) ?_)
        refine t_Re (e_in hb3 (by omega) (by omega)) ?_
        refine t_k ?_
        rw [b2_f c2]
        refine t_pos (by decide) ?_
        refine t_We (e_thr1 _ _) (t_neg (by decide) ?_)
        exact rQt (by decide) (frX_0A M3) (by rw [r6]; exact hcP.1)
  · refine stQb hI (code := 1) (by omega) ?_ (fun M3 h8 => ?_)
    · unfold w_call f_X9_call
      rw [c_wAt1 hC rfl hQ.2.2.1 j1 j2 c1, eR, if_neg (by decide), eT3, if_neg (by decide), if_pos rfl]
      exact wQ1 (by decide) (fr8_r M)
    · obtain ⟨r6, r9, r0⟩ := ref_A h8
      obtain ⟨b9, b0, b6⟩ := ref_B hP h8
      unfold f_X10_call
      refine t_let ?_
      refine t_We (e_noTry1 (by rw [b9]; exact hT) (by rw [b0]; exact hN) b6 (jin_b j1) (jin_b j2) (by rw [r6, b9, b0]; exact c1)) (t_neg (by decide) ?_)
      exact rQt (by decide) (frX_0A M3) (by rw [r6]; exact hcP.1)
theorem popc {f : Int → Int} {n : Int} (hn : 0 ≤ n ∧ n ≤ 12) (hf : ∀ i, 0 ≤ i → i < n → f i = 0 ∨ f i = 1) : sS (q_in ((q_or f n.toNat : Nat) : Int)) 12 = sZ f n := by
  have h1 : sS (q_in ((q_or f n.toNat : Nat) : Int)) 12 = sS (q_in ((q_or f n.toNat : Nat) : Int)) n.toNat := by
    have e : 12 = n.toNat + (12 - n.toNat) := by omega
    rw [e]
    exact sS_zero _ (fun i hi => q_in_hi (q_or_lt f n.toNat) hi)
  rw [h1]
  refine sS_congr (fun i h0 h1 => ?_)
  rw [q_or_in (by omega)]
  rcases hf i h0 (by omega) with q | q
  · rw [q]; exact b2_f (by decide)
  · rw [q]; exact b2_t (by decide)
/-- scratch -/
theorem z_20 {M : jM} (hI : Inv M) {a1 a2 : Int} (j1 : jin a1) (j2 : jin a2) : jT (s_20 a1 a2 M) Inv := by
  obtain ⟨hC, hT, hN, hP, hR, hQ, hcP⟩ := inv_ctx hI
  have t0 := hT.1
  have t1 := hT.2.1
  have t2 := hT.2.2.1
  have t3 := hT.2.2.2.1
  have he := hC.1
  unfold s_20
  by_cases c1 : (0 ≤ a1 ∧ a1 < M 169 1) ∧ q_is (P0 M) (M 169) (M 170) a1 a2 ≠ 0
  · have hkk := q_is_k c1.2
    have hs6 : 0 ≤ a1 ∧ a1 < 6 := by omega
    have tt := hT.2.2.2.2.2.2.1 a1 c1.1.1 (by omega)
    have hsk := hC.2.2.2.2.2.2.2.2.2.2.2.2.2 a1 c1.1.1 c1.1.2
    have hgone : M 170 (882 + (12 * a1 + a2)) = 0 := by
      have := c1.2
      unfold q_is at this
      rcases b2_c (c := 0 ≤ a2 ∧ a2 < M 169 (116 + a1) ∧ M 170 (882 + (12 * a1 + a2)) = 0 ∧ M 169 (122 + (12 * a1 + a2)) ≤ P0 M 16) with ⟨q, _⟩ | ⟨_, q⟩
      · exact absurd q this
      · exact q.2.2.1
    have hgb : ∀ i, 0 ≤ i → i < 72 → M 170 (882 + i) = 0 ∨ M 170 (882 + i) = 1 := fun i q0 q1 => by have := hN.2.2.2.1 i q0 q1; omega
    generalize hn0 : q_or (fun k => M 170 (882 + (12 * a1 + k))) (M 169 (116 + a1)).toNat = n0
    have hold : M (M 1 3 + 16 + 1 + 6 * a1) 1 = (n0 : Int) := by rw [← hn0]; exact hsk.2.1
    have hlt : n0 < 2 ^ (M 169 (116 + a1)).toNat := by rw [← hn0]; exact q_or_lt _ _
    have h12 : 2 ^ (M 169 (116 + a1)).toNat ≤ 2 ^ 12 := Nat.pow_le_pow_right (by decide) (by omega)
    have hpw : 2 ^ a2.toNat < 2 ^ (M 169 (116 + a1)).toNat := Nat.pow_lt_pow_right (by decide) (by omega)
    have hnewlt : n0 ||| 2 ^ a2.toNat < 2 ^ (M 169 (116 + a1)).toNat := Nat.or_lt_two_pow hlt hpw
    have hnew : jor (n0 : Int) (jsl 1 a2) = ((n0 ||| 2 ^ a2.toNat : Nat) : Int) := or_sl (by omega) (by omega)
    -- the new row
    have hq0 : ∀ k, 0 ≤ k → k < M 169 (116 + a1) → q_in (n0 : Int) k = M 170 (882 + (12 * a1 + k)) := fun k q0 q1 => by
      rw [← hn0, q_or_in ⟨q0, q1⟩]
      rcases hgb (12 * a1 + k) (by omega) (by omega) with q | q
      · rw [q]; exact b2_f (by decide)
      · rw [q]; exact b2_t (by decide)
    have hq1 : ∀ k, 0 ≤ k → k < M 169 (116 + a1) → pS (M 170) (882 + (12 * a1 + a2)) 1 (882 + (12 * a1 + k)) = q_in ((n0 ||| 2 ^ a2.toNat : Nat) : Int) k := fun k q0 q1 => by
      by_cases ck : k = a2
      · subst ck
        rw [pS_s, q_in_or q0]
      · rw [pS_n (by omega), ← hq0 k q0 q1]
        unfold q_in
        rw [Int.toNat_natCast, Int.toNat_natCast, or_bit, decide_eq_false (show ¬ k.toNat = a2.toNat by omega), Bool.or_false]
    have hN' : bN (pS (M 170) (882 + (12 * a1 + a2)) 1) := bN_upd hN (by omega) (by omega) (by omega) (by omega) (by omega) (by omega) (by omega) (by omega) (by omega) (by omega)
    have hval : M 169 (116 + a1) - sS (q_in ((n0 ||| 2 ^ a2.toNat : Nat) : Int)) 12 = q_tries (P0 M) (M 169) (pS (M 170) (882 + (12 * a1 + a2)) 1) a1 0 := by
      have e1 : n0 ||| 2 ^ a2.toNat = q_or (fun k => pS (M 170) (882 + (12 * a1 + a2)) 1 (882 + (12 * a1 + k))) (M 169 (116 + a1)).toNat := by
        have : q_or (fun k => pS (M 170) (882 + (12 * a1 + a2)) 1 (882 + (12 * a1 + k))) (M 169 (116 + a1)).toNat = q_or (fun k => q_in ((n0 ||| 2 ^ a2.toNat : Nat) : Int) k) (M 169 (116 + a1)).toNat := q_or_congr (fun i i0 i1 => by rw [hq1 i i0 (by omega)])
        rw [this, q_or_of hnewlt]
      rw [e1, popc tt (fun i i0 i1 => by have := hN'.2.2.2.1 (12 * a1 + i) (by omega) (by omega); omega)]
      unfold q_tries
      have e2 : sZ (fun k => if q_is (P0 M) (M 169) (pS (M 170) (882 + (12 * a1 + a2)) 1) a1 k = 0 then 0 else if (0 : Int) = 0 then 1 else q_late (P0 M) (M 169) (pS (M 170) (882 + (12 * a1 + a2)) 1) a1 k) (M 169 (116 + a1)) = sZ (fun k => 1 + (- pS (M 170) (882 + (12 * a1 + a2)) 1 (882 + (12 * a1 + k)))) (M 169 (116 + a1)) := sZ_congr (fun k k0 k1 => by
        have htm := hT.2.2.2.2.2.2.2.1 (12 * a1 + k) (by omega) (by omega)
        have hz := hN'.2.2.2.1 (12 * a1 + k) (by omega) (by omega)
        unfold q_is
        rw [hQ.2.2.1]
        by_cases cz : pS (M 170) (882 + (12 * a1 + a2)) 1 (882 + (12 * a1 + k)) = 0
        · rw [b2_t ⟨k0, k1, cz, by omega⟩, if_neg (by decide), if_pos rfl, cz]; rfl
        · rw [b2_f (fun q => cz q.2.2.1), if_pos rfl]; omega)
      rw [e2, sZ_add]
      have e3 : sZ (fun _ => (1 : Int)) (M 169 (116 + a1)) = M 169 (116 + a1) := by
        have := sZ_b (f := fun _ => (1 : Int)) (lo := 1) (hi := 1) tt.1 (fun _ _ _ => by omega)
        omega
      have e4 : ∀ (f : Int → Int) (n : Nat), sS (fun k => - f k) n = - sS f n := fun f n => by
        induction n with
        | zero => rfl
        | succ n ih => show sS (fun k => - f k) n + - f n = -(sS f n + f n); rw [ih]; omega
      have e5 : sZ (fun k => - pS (M 170) (882 + (12 * a1 + a2)) 1 (882 + (12 * a1 + k))) (M 169 (116 + a1)) = - sZ (fun k => pS (M 170) (882 + (12 * a1 + a2)) 1 (882 + (12 * a1 + k))) (M 169 (116 + a1)) := e4 _ _
      rw [e3, e5]
      omega
    have hvb := q_tries_b (P := P0 M) (N := pS (M 170) (882 + (12 * a1 + a2)) 1) hT (c := 0) hs6
    refine stA (code := 0) (val := q_tries (P0 M) (M 169) (pS (M 170) (882 + (12 * a1 + a2)) 1) a1 0) (R := fun M3 => aR M M3 (M 1 3 + 16 + 1 + 6 * a1) 1 ((n0 ||| 2 ^ a2.toNat : Nat) : Int) 4 a1 0 (n0 : Int)) (by omega) (fun _ => by omega) ?_ (fun M3 hR3 => ?_)
    · unfold w_scratch f_X9_scratch f_X6_left
      obtain ⟨Mk, ek, k1, k2⟩ := c_keep (srt := 4) (sk := a1) (wh := 0) (bf := (n0 : Int)) hI.2.2.2.2.2.1
      have hk1 : Mk (M 1 3 + 16 + 1 + 6 * a1) = M (M 1 3 + 16 + 1 + 6 * a1) := k1 _ (by omega)
      rw [c_wAt0 hC rfl hQ.2.2.1 c1, eR, if_pos rfl, eC (kd_e he), pw_of (z := a1) (by omega) (by omega), eC (by omega), hold, ek, eV, eL, hk1, hold, hnew, pst_s, c_bits (by omega), eR, eR, pst_i (show (0 : Int) ≠ 1 by decide), hk1, hsk.1, eT3, if_pos rfl]
      exact w3ok rfl hval (by omega) (by omega) k1 k2
    · obtain ⟨r6, r9, r0, b9, b0, b6⟩ := ref_C hI (by omega) hR3
      unfold f_X10_scratch
      refine t_let ?_
      refine t_We (e_noTry0 (by rw [b9]; exact hT) (by rw [b0]; exact hN) b6 (by rw [b9]; exact c1.1) (by rw [r6, b9, b0]; exact c1.2)) (t_pos (by decide) ?_)
      refine t_Re rfl ?_
      have hE' := rE_gone (N' := pS (M 170) (882 + (12 * a1 + a2)) 1) hT hC.2.2.2.2 (sk := a1) (v := ((n0 ||| 2 ^ a2.toNat : Nat) : Int)) hs6 (by omega) hq1 (fun i hi => pS_n (by omega))
      refine t_W (t_mono (act_fin hI (by omega) (by omega) hR3 (frX_0A M3) (mA_0 M3) (by rw [r6]; exact hcP.1) (idx := 882 + (12 * a1 + a2)) (w := 1) (by omega) hN' hE' ⟨by omega, by omega, by omega, by omega, by omega, by omega, by omega, by omega, fun _ => ⟨by omega, by omega⟩⟩ (fun j q0 q1 => ?_)) (fun p hp => ?_))
      · unfold und
        rw [if_neg (by decide), if_neg (by decide), if_neg (by decide), if_neg (by decide)]
        by_cases cj : 882 + 12 * a1 ≤ j ∧ j < 882 + 12 * a1 + M 169 (116 + a1)
        · rw [if_pos cj, hq0 _ (by omega) (by omega)]
          congr 1
          omega
        · rw [if_neg cj, pS_n (by omega)]
      · obtain ⟨x1, x2, x3, x4, x5, x6, x7⟩ := hp
        have hp66 : q_tries (p.2 166) (p.2 169) (p.2 170) a1 0 = q_tries (P0 M) (M 169) (pS (M 170) (882 + (12 * a1 + a2)) 1) a1 0 := by
          have hpe : pEq (p.2 166) (P0 M) := ⟨by rw [x7 16 (by decide), r6], by rw [x7 17 (by decide), r6], by rw [x7 18 (by decide), r6], by rw [x7 22 (by decide), r6]⟩
          rw [x5, x6, g_tries _ _ hpe]
        refine t_Re (e_tries x4.2.2.2.2.2.2 (by rw [x5]; exact hT) (by rw [x6]; exact hN') hs6 (Or.inl rfl)) ?_
        refine t_some ⟨x2, fun _ => ?_, x3, x4⟩
        show q_tries _ _ _ a1 0 + p.1 = _
        rw [hp66, x1, hgone, Int.add_zero]
  · refine stQ hI (code := 1) (val := 0) (by omega) (fun h => by omega) ?_ (fun M3 h8 => ?_)
    · unfold w_scratch f_X9_scratch
      rw [c_wAt1 hC rfl hQ.2.2.1 j1 j2 c1, eR, if_neg (by decide), eT3, if_neg (by decide), if_pos rfl]
      exact wQ1 (by decide) (fr8_r M)
    · obtain ⟨r6, r9, r0⟩ := ref_A h8
      obtain ⟨b9, b0, b6⟩ := ref_B hP h8
      unfold f_X10_scratch
      refine t_let ?_
      refine t_We (e_noTry1 (by rw [b9]; exact hT) (by rw [b0]; exact hN) b6 (jin_b j1) (jin_b j2) (by rw [r6, b9, b0]; exact c1)) (t_neg (by decide) ?_)
      exact rQt (by decide) (frX_0A M3) (by rw [r6]; exact hcP.1)
