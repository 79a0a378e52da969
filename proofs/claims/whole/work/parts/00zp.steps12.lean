/-! ===== show, call, base, set ===== -/
theorem z_16 {M : jM} (hI : Inv M) {a1 a2 a3 a4 : Int} (j1 : jin a1) (j2 : jin a2) (j3 : jin a3) (j4 : jin a4) : jT (s_16 a1 a2 a3 a4 M) Inv := by
  obtain ⟨hC, hT, hN, hP, hR, hQ, hcP⟩ := inv_ctx hI
  have t0 := hT.1
  have t1 := hT.2.1
  have t2 := hT.2.2.1
  have t3 := hT.2.2.2.1
  have hb4 := jin_b j4
  have he := hC.1
  unfold s_16
  by_cases c1 : 0 ≤ a1 ∧ a1 < M 169 1
  · by_cases c2 : 0 ≤ a2 ∧ a2 < 3
    · by_cases c3 : 0 ≤ a3 ∧ a3 < M 169 2
      · by_cases c4 : 0 ≤ a4 ∧ a4 ≤ 10
        · have hvv := (hC.2.2.2.2.2.2.2.2.2.2.2.2.2 a1 c1.1 c1.2).2.2.2.2 a2 a3 c2.1 c2.2 c3.1 c3.2
          have hv := hN.2.1 (9 * (3 * a1 + a2) + a3) (by omega) (by omega)
          rw [show 648 + (9 * (3 * a1 + a2) + a3) = 648 + 9 * (3 * a1 + a2) + a3 from by omega] at hv
          have hvx : vix a1 ((12 + a2) * 9 + a3) = 648 + 9 * (3 * a1 + a2) + a3 := by unfold vix; rw [if_neg (by omega)]; omega
          refine stA (code := 0) (val := M 170 (648 + 9 * (3 * a1 + a2) + a3)) (R := fun M3 => aR M M3 (M 1 3 + 16 + 1 + 6 * a1 + 5) ((12 + a2) * 9 + a3) a4 0 a1 ((12 + a2) * 9 + a3) (M 170 (648 + 9 * (3 * a1 + a2) + a3))) (by omega) (fun _ => by omega) ?_ (fun M3 hR3 => ?_)
          · unfold w_show f_X9_show f_X9_voteOfMark f_X9_tellVote
            obtain ⟨Mk, ek, k1, k2⟩ := c_keep (srt := 0) (sk := a1) (wh := (12 + a2) * 9 + a3) (bf := M 170 (648 + 9 * (3 * a1 + a2) + a3)) hI.2.2.2.2.2.1
            rw [c_wSk0 hC rfl c1, eR, if_pos rfl, c_wCo0 c2, eR, if_pos rfl, c_wJu0 hC rfl c3, eR, if_pos rfl, eK, pw_of hb4.1 hb4.2, pw_of (z := 10) (by omega) (by omega), if_neg (by omega), if_pos c4.2, eR, eC (kd_e he), pw_of (z := a1) (by omega) (by omega), eC (by omega), pw_of (z := (12 + a2) * 9 + a3) (by omega) (by omega), eC (by omega), eL, hvv, ek, eV, eC (by omega), eL, eW, eT3, if_pos rfl]
            exact w3ok rfl rfl (by omega) (by omega) k1 k2
          · obtain ⟨r6, r9, r0, b9, b0, b6⟩ := ref_C hI (by omega) hR3
            unfold f_X10_show f_X10_markAt
            refine t_let ?_
            refine t_We (e_noSk0 (by rw [b9]; exact hT) (by rw [b9]; exact c1)) (t_pos (by decide) ?_)
            refine t_We (e_noCo0 c2) (t_pos (by decide) ?_)
            refine t_We (e_noJu0 (by rw [b9]; exact hT) (by rw [b9]; exact c3)) (t_pos (by decide) ?_)
            refine t_Re (e_in hb4 (by omega) (by omega)) ?_
            refine t_k ?_
            rw [b2_t c4]
            refine t_neg (by decide) ?_
            refine t_We (e_thr0 _ _) (t_pos (by decide) ?_)
            refine t_Re rfl ?_
            have hE' := rE_vote (v := a4) hT hC.2.2.2.2 (sk := a1) (wh := (12 + a2) * 9 + a3) (by omega) (by omega)
            rw [hvx] at hE'
            refine t_W (t_mono (act_fin hI (by omega) (by omega) hR3 (frX_0 M3 0) (pst_s _ _ _ _) b6 (idx := 648 + 9 * (3 * a1 + a2) + a3) (w := a4) (by omega) (bN_upd hN (by omega) (by omega) (by omega) (by omega) (by omega) (by omega) (by omega) (by omega) (by omega) (by omega)) hE' ⟨by omega, by omega, by omega, by omega, fun _ => ⟨by omega, by omega, by omega, by omega, fun _ => hv⟩, by omega, by omega, by omega, by omega⟩ (und_self (fun j => by unfold und; rw [if_pos rfl]; show (if j = vix a1 ((12 + a2) * 9 + a3) then _ else _) = _; rw [hvx]))) (fun p hp => ?_))
            exact t_some ⟨hp.2.1, fun _ => hp.1, hp.2.2.1, hp.2.2.2.1⟩
        · refine stQ hI (code := 2) (val := 0) (by omega) (fun h => by omega) ?_ (fun M3 h8 => ?_)
          · unfold w_show f_X9_show
            rw [c_wSk0 hC rfl c1, eR, if_pos rfl, c_wCo0 c2, eR, if_pos rfl, c_wJu0 hC rfl c3, eR, if_pos rfl, eK, pw_of hb4.1 hb4.2, pw_of (z := 10) (by omega) (by omega)]
            by_cases c5 : a4 < 0
            · rw [if_pos c5, eT3, if_neg (by decide), if_neg (by decide), if_pos rfl]
              exact wQ1 (by decide) (fr8_r M)
            · rw [if_neg c5, if_neg (by omega), eT3, if_neg (by decide), if_neg (by decide), if_pos rfl]
              exact wQ1 (by decide) (fr8_r M)
          · obtain ⟨r6, r9, r0⟩ := ref_A h8
            obtain ⟨b9, b0, b6⟩ := ref_B hP h8
            unfold f_X10_show
            refine t_let ?_
            refine t_We (e_noSk0 (by rw [b9]; exact hT) (by rw [b9]; exact c1)) (t_pos (by decide) ?_)
            refine t_We (e_noCo0 c2) (t_pos (by decide) ?_)
            refine t_We (e_noJu0 (by rw [b9]; exact hT) (by rw [b9]; exact c3)) (t_pos (by decide) ?_)
            refine t_Re (e_in hb4 (by omega) (by omega)) ?_
            refine t_k ?_
            rw [b2_f c4]
            refine t_pos (by decide) ?_
            refine t_We (e_thr1 _ _) (t_neg (by decide) ?_)
            exact rQt (by decide) (frX_0 M3 0) b6
      · refine stQ hI (code := 1) (val := 0) (by omega) (fun h => by omega) ?_ (fun M3 h8 => ?_)
        · unfold w_show f_X9_show
          rw [c_wSk0 hC rfl c1, eR, if_pos rfl, c_wCo0 c2, eR, if_pos rfl, c_wJu1 hC rfl j3 c3, eR, if_neg (by decide), eT3, if_neg (by decide), if_pos rfl]
          exact wQ1 (by decide) (fr8_r M)
        · obtain ⟨r6, r9, r0⟩ := ref_A h8
          obtain ⟨b9, b0, b6⟩ := ref_B hP h8
          unfold f_X10_show
          refine t_let ?_
          refine t_We (e_noSk0 (by rw [b9]; exact hT) (by rw [b9]; exact c1)) (t_pos (by decide) ?_)
          refine t_We (e_noCo0 c2) (t_pos (by decide) ?_)
          refine t_We (e_noJu1 (by rw [b9]; exact hT) (jin_b j3) (by rw [b9]; exact c3)) (t_neg (by decide) ?_)
          exact rQt (by decide) (frX_0 M3 0) b6
    · refine stQ hI (code := 1) (val := 0) (by omega) (fun h => by omega) ?_ (fun M3 h8 => ?_)
      · unfold w_show f_X9_show
        rw [c_wSk0 hC rfl c1, eR, if_pos rfl, c_wCo1 j2 c2, eR, if_neg (by decide), eT3, if_neg (by decide), if_pos rfl]
        exact wQ1 (by decide) (fr8_r M)
      · obtain ⟨r6, r9, r0⟩ := ref_A h8
        obtain ⟨b9, b0, b6⟩ := ref_B hP h8
        unfold f_X10_show
        refine t_let ?_
        refine t_We (e_noSk0 (by rw [b9]; exact hT) (by rw [b9]; exact c1)) (t_pos (by decide) ?_)
        refine t_We (e_noCo1 (jin_b j2) c2) (t_neg (by decide) ?_)
        exact rQt (by decide) (frX_0 M3 0) b6
  · refine stQ hI (code := 1) (val := 0) (by omega) (fun h => by omega) ?_ (fun M3 h8 => ?_)
    · unfold w_show f_X9_show
      rw [c_wSk1 hC rfl j1 c1, eR, if_neg (by decide), eT3, if_neg (by decide), if_pos rfl]
      exact wQ1 (by decide) (fr8_r M)
    · obtain ⟨r6, r9, r0⟩ := ref_A h8
      obtain ⟨b9, b0, b6⟩ := ref_B hP h8
      unfold f_X10_show
      refine t_let ?_
      refine t_We (e_noSk1 (by rw [b9]; exact hT) (jin_b j1) (by rw [b9]; exact c1)) (t_neg (by decide) ?_)
      exact rQt (by decide) (frX_0 M3 0) b6
/-- base -/
theorem z_18 {M : jM} (hI : Inv M) {a1 a2 : Int} (j1 : jin a1) (j2 : jin a2) : jT (s_18 a1 a2 M) Inv := by
  obtain ⟨hC, hT, hN, hP, hR, hQ, hcP⟩ := inv_ctx hI
  have t0 := hT.1
  have t1 := hT.2.1
  have t2 := hT.2.2.1
  have t3 := hT.2.2.2.1
  have hb2 := jin_b j2
  have he := hC.1
  unfold s_18
  by_cases c1 : 0 ≤ a1 ∧ a1 < M 169 0
  · obtain ⟨x5, x6⟩ := hC.2.2.2.2.2.2.2.2.2.2.2.1 a1 c1.1 c1.2
    have n5 := hN.2.2.2.2.1 a1 c1.1 (by omega)
    by_cases c2 : 0 ≤ a2 ∧ a2 ≤ 2000
    · refine stA (code := 0) (val := M 170 (954 + a1)) (R := fun M3 => aR M M3 (M 1 3 + 5) a1 a2 2 0 a1 (M 170 (954 + a1))) (by omega) (fun _ => by omega) ?_ (fun M3 hR3 => ?_)
      · unfold w_base f_X9_base
        obtain ⟨Mk, ek, k1, k2⟩ := c_keep (srt := 2) (sk := 0) (wh := a1) (bf := M 170 (954 + a1)) hI.2.2.2.2.2.1
        have e13 : Mk 1 3 = M 1 3 := by rw [k1 1 (by omega)]
        rw [c_wEl0 hC rfl c1, eR, if_pos rfl, eK, pw_of hb2.1 hb2.2, if_neg (by omega), pw_of (z := 2000) (by omega) (by omega), if_pos c2.2, eC (kd_e he), pw_of (z := a1) (by omega) (by omega), eC (by omega), eL, x5, ek, eV, e13, eC (kd_e he), eC (by omega), eL, eT3, if_pos rfl]
        exact w3ok rfl rfl (by omega) (by omega) k1 k2
      · obtain ⟨r6, r9, r0, b9, b0, b6⟩ := ref_C hI (by omega) hR3
        unfold f_X10_base
        refine t_let ?_
        refine t_We (e_noEl0 (by rw [b9]; exact hT) (by rw [b9]; exact c1)) (t_pos (by decide) ?_)
        refine t_Re (e_in hb2 (by omega) (by omega)) ?_
        refine t_k ?_
        rw [b2_t c2]
        refine t_neg (by decide) ?_
        refine t_We (e_thr0 _ _) (t_pos (by decide) ?_)
        have hE' := rE_base (v := a2) hT hC.2.2.2.2 (wh := a1) (by omega)
        refine t_W (t_mono (act_fin hI (by omega) (by omega) hR3 (frX_0 M3 0) (pst_s _ _ _ _) b6 (idx := 954 + a1) (w := a2) (by omega) (bN_upd hN (by omega) (by omega) (by omega) (by omega) (by omega) (by omega) (by omega) (by omega) (by omega) (by omega)) hE' ⟨by omega, by omega, by omega, by omega, by omega, by omega, fun _ => ⟨by omega, by omega, n5.1, n5.2⟩, by omega, by omega⟩ (und_self (fun j => by unfold und; rw [if_neg (by decide), if_neg (by decide), if_pos rfl]))) (fun p hp => ?_))
        exact t_some ⟨hp.2.1, fun _ => hp.1, hp.2.2.1, hp.2.2.2.1⟩
    · refine stQ hI (code := 2) (val := 0) (by omega) (fun h => by omega) ?_ (fun M3 h8 => ?_)
      · unfold w_base f_X9_base
        rw [c_wEl0 hC rfl c1, eR, if_pos rfl, eK, pw_of hb2.1 hb2.2, pw_of (z := 2000) (by omega) (by omega)]
        by_cases c5 : a2 < 0
        · rw [if_pos c5, eT3, if_neg (by decide), if_neg (by decide), if_pos rfl]
          exact wQ1 (by decide) (fr8_r M)
        · rw [if_neg c5, if_neg (by omega), eT3, if_neg (by decide), if_neg (by decide), if_pos rfl]
          exact wQ1 (by decide) (fr8_r M)
      · obtain ⟨r6, r9, r0⟩ := ref_A h8
        obtain ⟨b9, b0, b6⟩ := ref_B hP h8
        unfold f_X10_base
        refine t_let ?_
        refine t_We (e_noEl0 (by rw [b9]; exact hT) (by rw [b9]; exact c1)) (t_pos (by decide) ?_)
        refine t_Re (e_in hb2 (by omega) (by omega)) ?_
        refine t_k ?_
        rw [b2_f c2]
        refine t_pos (by decide) ?_
        refine t_We (e_thr1 _ _) (t_neg (by decide) ?_)
        exact rQt (by decide) (frX_0 M3 0) b6
  · refine stQ hI (code := 1) (val := 0) (by omega) (fun h => by omega) ?_ (fun M3 h8 => ?_)
    · unfold w_base f_X9_base
      rw [c_wEl1 hC rfl j1 c1, eR, if_neg (by decide), eT3, if_neg (by decide), if_pos rfl]
      exact wQ1 (by decide) (fr8_r M)
    · obtain ⟨r6, r9, r0⟩ := ref_A h8
      obtain ⟨b9, b0, b6⟩ := ref_B hP h8
      unfold f_X10_base
      refine t_let ?_
      refine t_We (e_noEl1 (by rw [b9]; exact hT) (jin_b j1) (by rw [b9]; exact c1)) (t_neg (by decide) ?_)
      exact rQt (by decide) (frX_0 M3 0) b6
def loS (w : Int) : Int := if w = 3 then 1 else 0
def hiS (w : Int) : Int := if w = 0 ∨ w = 3 then 3 else if w = 1 then 600 else if w = 2 then 50 else 300
theorem stt_lo : ∀ w, w < 7 → jstt 0 ((w : Nat) : Int) = loS w ∧ jstt 1 ((w : Nat) : Int) = hiS w := by decide +kernel
theorem n_set {N : Int → Int} (h : bN N) {w : Int} (hw : 0 ≤ w ∧ w < 7) : loS w ≤ N (964 + w) ∧ N (964 + w) ≤ hiS w := by
  obtain ⟨-, -, -, -, -, n6, n7, n8, n9, n10⟩ := h
  unfold loS hiS
  by_cases w0 : w = 0
  · subst w0; rw [show (964 : Int) + 0 = 964 from rfl]; simp; omega
  by_cases w1 : w = 1
  · subst w1; rw [show (964 : Int) + 1 = 965 from rfl]; simp; omega
  by_cases w2 : w = 2
  · subst w2; rw [show (964 : Int) + 2 = 966 from rfl]; simp; omega
  by_cases w3 : w = 3
  · subst w3; rw [show (964 : Int) + 3 = 967 from rfl]; simp; omega
  · have := n10 (w - 4) (by omega) (by omega)
    rw [show 968 + (w - 4) = 964 + w from by omega] at this
    rw [if_neg w3, if_neg (by omega), if_neg w1, if_neg w2]
    omega
theorem bN_set {N : Int → Int} (h : bN N) {w v : Int} (hw : 0 ≤ w ∧ w < 7) (hv : loS w ≤ v ∧ v ≤ hiS w) : bN (pS N (964 + w) v) := by
  unfold loS hiS at hv
  have e : (w = 0 → 0 ≤ v ∧ v ≤ 3) ∧ (w = 1 → 0 ≤ v ∧ v ≤ 600) ∧ (w = 2 → 0 ≤ v ∧ v ≤ 50) ∧ (w = 3 → 1 ≤ v ∧ v ≤ 3) ∧ (4 ≤ w → 0 ≤ v ∧ v ≤ 300) := by
    refine ⟨fun q => ?_, fun q => ?_, fun q => ?_, fun q => ?_, fun q => ?_⟩
    · subst q; simpa using hv
    · subst q; simpa using hv
    · subst q; simpa using hv
    · subst q; simpa using hv
    · rw [if_neg (by omega), if_neg (by omega), if_neg (by omega), if_neg (by omega)] at hv
      exact hv
  exact bN_upd h (by omega) (by omega) (by omega) (by omega) (by omega) (by omega) (by omega) (by omega) (by omega) (by omega)
/-- set -/
theorem z_19 {M : jM} (hI : Inv M) {a1 a2 : Int} (j1 : jin a1) (j2 : jin a2) : jT (s_19 a1 a2 M) Inv := by
  obtain ⟨hC, hT, hN, hP, hR, hQ, hcP⟩ := inv_ctx hI
  have t0 := hT.1
  have t1 := hT.2.1
  have t2 := hT.2.2.1
  have t3 := hT.2.2.2.1
  have hb1 := jin_b j1
  have hb2 := jin_b j2
  have he := hC.1
  unfold s_19
  by_cases c1 : 0 ≤ a1 ∧ a1 < 7
  · have x5 := hC.2.2.2.2.2.1 a1 c1.1 c1.2
    have n5 := n_set hN c1
    have hst := stt_lo a1.toNat (by omega)
    rw [← pn_nat c1.1] at hst
    have hlb : 0 ≤ loS a1 ∧ loS a1 ≤ 1 := by unfold loS; split <;> omega
    have hhb : 3 ≤ hiS a1 ∧ hiS a1 ≤ 600 := by unfold hiS; (repeat' split) <;> omega
    have refS : ∀ (Q : Int × jM → Prop) (kk : Int → Option (Int × jM)), jT (kk (hiS a1)) Q → jT (jk (kk 3) fun (k23 : Option (Int × jM)) =>
      if jw a1 = 0 then (
        k23)
      else (
        if jw a1 = jw 3 then (
          k23)
        else (
          if jw a1 = jw 1 then (
            kk 600)
          else (
            if jw a1 = jw 2 then (
              kk 50)
            else (
              kk 300))))) Q := fun Q kk h => by
      refine t_k ?_
      rw [pw_of (z := a1) (by omega) (by omega), pw_of (z := 3) (by omega) (by omega), pw_of (z := 1) (by omega) (by omega), pw_of (z := 2) (by omega) (by omega)]
      unfold hiS at h
      by_cases d0 : a1 = 0
      · rw [if_pos (Or.inl d0)] at h
        exact t_pos d0 h
      refine t_neg d0 ?_
      by_cases d3 : a1 = 3
      · rw [if_pos (Or.inr d3)] at h
        exact t_pos d3 h
      refine t_neg d3 ?_
      rw [if_neg (by omega)] at h
      by_cases d1 : a1 = 1
      · rw [if_pos d1] at h
        exact t_pos d1 h
      refine t_neg d1 ?_
      rw [if_neg d1] at h
      by_cases d2 : a1 = 2
      · rw [if_pos d2] at h
        exact t_pos d2 h
      · rw [if_neg d2] at h
        exact t_neg d2 h
    by_cases c2 : loS a1 ≤ a2 ∧ a2 ≤ hiS a1
    · refine stA (code := 0) (val := M 170 (964 + a1)) (R := fun M3 => aR M M3 (M 1 3 + 1) a1 a2 3 0 a1 (M 170 (964 + a1))) (by omega) (fun _ => by omega) ?_ (fun M3 hR3 => ?_)
      · unfold w_set f_X9_set
        obtain ⟨Mk, ek, k1, k2⟩ := c_keep (srt := 3) (sk := 0) (wh := a1) (bf := M 170 (964 + a1)) hI.2.2.2.2.2.1
        have e13 : Mk 1 3 = M 1 3 := by rw [k1 1 (by omega)]
        rw [eK, eK, pw_of (z := a1) (by omega) (by omega), if_neg (by omega), pw_of (z := 7) (by omega) (by omega), if_pos c1.2, eC (by omega), hst.1, hst.2, pw_of hb2.1 hb2.2, pw_of (z := loS a1) (by omega) (by omega), pw_of (z := hiS a1) (by omega) (by omega), if_neg (by omega), eC (by omega), if_pos c2.2, eC (kd_e he), eC (by omega), eL, x5, ek, eV, e13, eC (kd_e he), eC (by omega), eL, eT3, if_pos rfl]
        exact w3ok rfl rfl (by omega) (by omega) k1 k2
      · obtain ⟨r6, r9, r0, b9, b0, b6⟩ := ref_C hI (by omega) hR3
        unfold f_X10_set
        refine t_let ?_
        refine t_Re (e_in hb1 (by omega) (by omega)) ?_
        refine t_k ?_
        rw [b2_t (by omega)]
        refine t_neg (by decide) ?_
        refine t_We (e_thr0 _ _) (t_pos (by decide) ?_)
        refine t_kP (fun kk => jT (kk (hiS a1)) _) ?_ (fun kk h => refS _ kk h)
        refine t_k ?_
        have tail : jT (jbR (f_X10_in a2 (loS a1) (hiS a1)) fun v14 =>
          jk (fun (s1_15 : Int) =>
            jbW (f_X10_throwsIf s1_15 2 (jst M3 166 0 0)) fun v19 M18 =>
            if jw v19 = 0 then (
              jbW (f_X10_tells (964 + a1) a2 M18) fun v22 M21 =>
              some (v22, M21))
            else (
              some (0, M18))) fun (k16 : Int → Option (Int × jM)) =>
          if jw v14 = 0 then (
            k16 1)
          else (
            k16 0)) (fun q => q.2 166 0 = 0 ∧ ((0 : Int) = 0 → q.1 = M 170 (964 + a1)) ∧ q.2 180 = M3 180 ∧ Inv q.2) := by
          refine t_Re (e_in hb2 (by omega) (by omega)) ?_
          refine t_k ?_
          rw [b2_t c2]
          refine t_neg (by decide) ?_
          refine t_We (e_thr0 _ _) (t_pos (by decide) ?_)
          have hE' := rE_set (v := a2) hT hC.2.2.2.2 (wh := a1) c1
          refine t_W (t_mono (act_fin hI (by omega) (by omega) hR3 (frX_0 M3 0) (pst_s _ _ _ _) b6 (idx := 964 + a1) (w := a2) (by omega) (bN_set hN c1 c2) hE' ⟨by omega, by omega, by omega, by omega, by omega, by omega, by omega, fun _ => c1, by omega⟩ (und_self (fun j => by unfold und; rw [if_neg (by decide), if_neg (by decide), if_neg (by decide), if_pos rfl]))) (fun p hp => ?_))
          exact t_some ⟨hp.2.1, fun _ => hp.1, hp.2.2.1, hp.2.2.2.1⟩
        unfold loS at tail
        rw [pw_of (z := a1) (by omega) (by omega), pw_of (z := 3) (by omega) (by omega)]
        by_cases d3 : a1 = 3
        · rw [if_pos d3] at tail
          exact t_pos d3 tail
        · rw [if_neg d3] at tail
          exact t_neg d3 tail
    · refine stQ hI (code := 2) (val := 0) (by omega) (fun h => by omega) ?_ (fun M3 h8 => ?_)
      · unfold w_set f_X9_set
        rw [eK, eK, pw_of (z := a1) (by omega) (by omega), if_neg (by omega), pw_of (z := 7) (by omega) (by omega), if_pos c1.2, eC (by omega), hst.1, hst.2, pw_of hb2.1 hb2.2, pw_of (z := loS a1) (by omega) (by omega), pw_of (z := hiS a1) (by omega) (by omega), eC (by omega)]
        by_cases c5 : a2 < loS a1
        · rw [if_pos c5, eT3, if_neg (by decide), if_neg (by decide), if_pos rfl]
          exact wQ1 (by decide) (fr8_r M)
        · rw [if_neg c5, if_neg (by omega), eT3, if_neg (by decide), if_neg (by decide), if_pos rfl]
          exact wQ1 (by decide) (fr8_r M)
      · obtain ⟨r6, r9, r0⟩ := ref_A h8
        obtain ⟨b9, b0, b6⟩ := ref_B hP h8
        unfold f_X10_set
        refine t_let ?_
        refine t_Re (e_in hb1 (by omega) (by omega)) ?_
        refine t_k ?_
        rw [b2_t (by omega)]
        refine t_neg (by decide) ?_
        refine t_We (e_thr0 _ _) (t_pos (by decide) ?_)
        refine t_kP (fun kk => jT (kk (hiS a1)) _) ?_ (fun kk h => refS _ kk h)
        refine t_k ?_
        have tail : jT (jbR (f_X10_in a2 (loS a1) (hiS a1)) fun v14 =>
          jk (fun (s1_15 : Int) =>
            jbW (f_X10_throwsIf s1_15 2 (jst M3 166 0 0)) fun v19 M18 =>
            if jw v19 = 0 then (
              jbW (f_X10_tells (964 + a1) a2 M18) fun v22 M21 =>
              some (v22, M21))
            else (
              some (0, M18))) fun (k16 : Int → Option (Int × jM)) =>
          if jw v14 = 0 then (
            k16 1)
          else (
            k16 0)) (fun q => q.2 166 0 = 2 ∧ ((2 : Int) = 0 → q.1 = 0) ∧ frX M3 q.2 ∧ bP (q.2 166)) := by
          refine t_Re (e_in hb2 (by omega) (by omega)) ?_
          refine t_k ?_
          rw [b2_f c2]
          refine t_pos (by decide) ?_
          refine t_We (e_thr1 _ _) (t_neg (by decide) ?_)
          exact rQt (by decide) (frX_0 M3 0) b6
        unfold loS at tail
        rw [pw_of (z := a1) (by omega) (by omega), pw_of (z := 3) (by omega) (by omega)]
        by_cases d3 : a1 = 3
        · rw [if_pos d3] at tail
          exact t_pos d3 tail
        · rw [if_neg d3] at tail
          exact t_neg d3 tail
  · refine stQ hI (code := 1) (val := 0) (by omega) (fun h => by omega) ?_ (fun M3 h8 => ?_)
    · unfold w_set f_X9_set
      rw [eK, pw_of hb1.1 hb1.2, pw_of (z := 7) (by omega) (by omega)]
      by_cases c5 : a1 < 0
      · rw [if_pos c5, eT3, if_neg (by decide), if_pos rfl]
        exact wQ1 (by decide) (fr8_r M)
      · rw [if_neg c5, if_neg (by omega), eT3, if_neg (by decide), if_pos rfl]
        exact wQ1 (by decide) (fr8_r M)
    · obtain ⟨r6, r9, r0⟩ := ref_A h8
      obtain ⟨b9, b0, b6⟩ := ref_B hP h8
      unfold f_X10_set
      refine t_let ?_
      refine t_Re (e_in hb1 (by omega) (by omega)) ?_
      refine t_k ?_
      rw [b2_f (by omega)]
      refine t_pos (by decide) ?_
      refine t_We (e_thr1 _ _) (t_neg (by decide) ?_)
      exact rQt (by decide) (frX_0 M3 0) b6
