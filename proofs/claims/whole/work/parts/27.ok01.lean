/-! ===== the machine does what the functions say; by program ===== -/
set_option maxHeartbeats 4000000 in
set_option maxRecDepth 20000 in
theorem ok_X9_sways {X : jX} {n : Nat} (hn : 179 ≤ n) {l1 : Int} {M : jM} {cz : Int} {rz : Int} {Mz : jM} (h : f_X9_sways l1 M = some (cz, rz, Mz)) : jCtT X n yX9_sways cX9_sways 2 (some .int) 7 2 [jA 1, jI l1] M cz (some (jI rz)) Mz := by
  refine jCtT_of (own := RX9) (ls := [jA 1, jI l1]) (by decide +kernel) rfl hn (Nat.le_of_ble_eq_true rfl) rfl ?_
  intro C hC hR
  unfold f_X9_sways at h
  refine x_aloadA_n (pc := 0) hC dX9_sways_0 rfl rfl k_1 (by decide) ?_
  refine x_iload_n (pc := 1) hC dX9_sways_1 rfl rfl ?_
  obtain ⟨c1, e2, h⟩ := jbR_some h
  refine x_cVT (pc := 2) hC hR mv_X9_164 (jTB_mem wm_1147 rfl) (ok_X9_wantJudge hn e2) rfl (Nat.le_of_ble_eq_true rfl) k_1 rfl (by decide) (Nat.le_of_ble_eq_true rfl) (Nat.le_of_ble_eq_true rfl) (Nat.le_of_ble_eq_true rfl) dX9_sways_2 rfl (fun hc => have h := jit_neg hc h; ⟨(jr1 h), (jt3 h)⟩) (kc2 := 1) (ks2 := 6) rfl rfl (fun hc => ?_)
  replace h := jit_pos hc h
  refine x_aloadA_n (pc := 5) hC dX9_sways_5 rfl rfl k_1 (by decide) ?_
  obtain ⟨c3, e4, h⟩ := jbR_some h
  refine x_cVT (pc := 6) hC hR mv_X9_271 (jTB_mem wm_1289 rfl) (ok_X9_wantOtherJudge hn e4) rfl (Nat.le_of_ble_eq_true rfl) k_1 rfl (by decide) (Nat.le_of_ble_eq_true rfl) (Nat.le_of_ble_eq_true rfl) (Nat.le_of_ble_eq_true rfl) dX9_sways_6 rfl (fun hc => have h := jit_neg hc h; ⟨(jr1 h), (jt3 h)⟩) (kc2 := 2) (ks2 := 12) rfl rfl (fun hc => ?_)
  replace h := jit_pos hc h
  refine x_aloadA_n (pc := 9) hC dX9_sways_9 rfl rfl k_1 (by decide) ?_
  refine x_gf (pc := 10) (b := 110) hC fl_X9_44 ft9_6 k_1 (by decide) (off := 109) (by decide +kernel) (by decide) dX9_sways_10 ?_
  refine x_aloadA_n (pc := 13) hC dX9_sways_13 rfl rfl k_1 (by decide) ?_
  obtain ⟨hk5, h⟩ := jck_some h
  refine x_gr (pc := 14) (ji := 3) hC fl_X9_23 rfl ft9_3 k_1 dX9_sways_14 ?_
  refine x_sipush (pc := 17) hC dX9_sways_17 rfl ?_
  obtain ⟨M7, e6, h⟩ := jbV_some h
  refine x_cV (pc := 20) hC mv_X9_215 (ok_X7_weigh hn hk5 e6) rfl (Nat.le_of_ble_eq_true rfl) k_110 rfl (by decide) (jRoT hR (Nat.le_of_ble_eq_true rfl) (Nat.le_of_ble_eq_true rfl)) (Nat.le_of_ble_eq_true rfl) dX9_sways_20 rfl ?_
  refine x_aloadA_n (pc := 23) hC dX9_sways_23 rfl rfl k_1 (by decide) ?_
  refine x_gf (pc := 24) (b := 110) hC fl_X9_44 ft9_6 k_1 (by decide) (off := 109) (by decide +kernel) (by decide) dX9_sways_24 ?_
  refine x_aloadA_n (pc := 27) hC dX9_sways_27 rfl rfl k_1 (by decide) ?_
  obtain ⟨v9, e8, h⟩ := jbR_some h
  refine x_cV (pc := 28) hC mv_X9_152 (ok_X9_everyJudge hn e8) rfl (Nat.le_of_ble_eq_true rfl) k_1 rfl (by decide) (jRoT hR (Nat.le_of_ble_eq_true rfl) (Nat.le_of_ble_eq_true rfl)) (Nat.le_of_ble_eq_true rfl) dX9_sways_28 rfl ?_
  refine x_iconst (pc := 31) hC dX9_sways_31 ?_
  refine x_iload_n (pc := 32) hC dX9_sways_32 rfl rfl ?_
  refine x_ishl (pc := 33) hC dX9_sways_33 ?_
  refine x_iconst (pc := 34) hC dX9_sways_34 ?_
  refine x_ixor (pc := 35) hC dX9_sways_35 ?_
  refine x_iand (pc := 36) hC dX9_sways_36 ?_
  obtain ⟨v12, M11, e10, h⟩ := jbW_some h
  refine x_cV (pc := 37) hC mv_X9_277 (ok_X7_turnedPairs hn e10) rfl (Nat.le_of_ble_eq_true rfl) k_110 rfl (by decide) (jRoT hR (Nat.le_of_ble_eq_true rfl) (Nat.le_of_ble_eq_true rfl)) (Nat.le_of_ble_eq_true rfl) dX9_sways_37 rfl ?_
  exact x_iretT (pc := 40) hC hR dX9_sways_40 (Nat.le_of_ble_eq_true rfl) (Nat.le_of_ble_eq_true rfl) (jr1 h) (jt2 h) (jt3 h)

set_option maxHeartbeats 4000000 in
set_option maxRecDepth 20000 in
theorem ok_X9_alone {X : jX} {n : Nat} (hn : 179 ≤ n) {l1 : Int} {l2 : Int} {M : jM} {cz : Int} {rz : Int} {Mz : jM} (h : f_X9_alone l1 l2 M = some (cz, rz, Mz)) : jCtT X n yX9_alone cX9_alone 3 (some .int) 7 2 [jA 1, jI l1, jI l2] M cz (some (jI rz)) Mz := by
  refine jCtT_of (own := RX9) (ls := [jA 1, jI l1, jI l2]) (by decide +kernel) rfl hn (Nat.le_of_ble_eq_true rfl) rfl ?_
  intro C hC hR
  unfold f_X9_alone at h
  refine x_aloadA_n (pc := 0) hC dX9_alone_0 rfl rfl k_1 (by decide) ?_
  refine x_iload_n (pc := 1) hC dX9_alone_1 rfl rfl ?_
  obtain ⟨c1, e2, h⟩ := jbR_some h
  refine x_cVT (pc := 2) hC hR mv_X9_89 (jTB_mem wm_1052 rfl) (ok_X9_wantSkater hn e2) rfl (Nat.le_of_ble_eq_true rfl) k_1 rfl (by decide) (Nat.le_of_ble_eq_true rfl) (Nat.le_of_ble_eq_true rfl) (Nat.le_of_ble_eq_true rfl) dX9_alone_2 rfl (fun hc => have h := jit_neg hc h; ⟨(jr1 h), (jt3 h)⟩) (kc2 := 1) (ks2 := 6) rfl rfl (fun hc => ?_)
  replace h := jit_pos hc h
  refine x_aloadA_n (pc := 5) hC dX9_alone_5 rfl rfl k_1 (by decide) ?_
  refine x_iload_n (pc := 6) hC dX9_alone_6 rfl rfl ?_
  obtain ⟨c3, e4, h⟩ := jbR_some h
  refine x_cVT (pc := 7) hC hR mv_X9_164 (jTB_mem wm_1147 rfl) (ok_X9_wantJudge hn e4) rfl (Nat.le_of_ble_eq_true rfl) k_1 rfl (by decide) (Nat.le_of_ble_eq_true rfl) (Nat.le_of_ble_eq_true rfl) (Nat.le_of_ble_eq_true rfl) dX9_alone_7 rfl (fun hc => have h := jit_neg hc h; ⟨(jr1 h), (jt3 h)⟩) (kc2 := 2) (ks2 := 12) rfl rfl (fun hc => ?_)
  replace h := jit_pos hc h
  refine x_aloadA_n (pc := 10) hC dX9_alone_10 rfl rfl k_1 (by decide) ?_
  refine x_iload_n (pc := 11) hC dX9_alone_11 rfl rfl ?_
  refine x_iconst (pc := 12) hC dX9_alone_12 ?_
  refine x_iload_n (pc := 13) hC dX9_alone_13 rfl rfl ?_
  refine x_ishl (pc := 14) hC dX9_alone_14 ?_
  obtain ⟨v7, M6, e5, h⟩ := jbW_some h
  refine x_cV (pc := 15) hC mv_X9_274 (ok_X9_totalBy hn e5) rfl (Nat.le_of_ble_eq_true rfl) k_1 rfl (by decide) (jRoT hR (Nat.le_of_ble_eq_true rfl) (Nat.le_of_ble_eq_true rfl)) (Nat.le_of_ble_eq_true rfl) dX9_alone_15 rfl ?_
  exact x_iretT (pc := 18) hC hR dX9_alone_18 (Nat.le_of_ble_eq_true rfl) (Nat.le_of_ble_eq_true rfl) (jr1 h) (jt2 h) (jt3 h)

set_option maxHeartbeats 4000000 in
set_option maxRecDepth 20000 in
theorem ok_X9_place {X : jX} {n : Nat} (hn : 179 ≤ n) {l1 : Int} {l2 : Int} {M : jM} {cz : Int} {rz : Int} {Mz : jM} (h : f_X9_place l1 l2 M = some (cz, rz, Mz)) : jCtT X n yX9_place cX9_place 3 (some .int) 7 2 [jA 1, jI l1, jI l2] M cz (some (jI rz)) Mz := by
  refine jCtT_of (own := RX9) (ls := [jA 1, jI l1, jI l2]) (by decide +kernel) rfl hn (Nat.le_of_ble_eq_true rfl) rfl ?_
  intro C hC hR
  unfold f_X9_place at h
  refine x_aloadA_n (pc := 0) hC dX9_place_0 rfl rfl k_1 (by decide) ?_
  refine x_iload_n (pc := 1) hC dX9_place_1 rfl rfl ?_
  obtain ⟨c1, e2, h⟩ := jbR_some h
  refine x_cVT (pc := 2) hC hR mv_X9_89 (jTB_mem wm_1052 rfl) (ok_X9_wantSkater hn e2) rfl (Nat.le_of_ble_eq_true rfl) k_1 rfl (by decide) (Nat.le_of_ble_eq_true rfl) (Nat.le_of_ble_eq_true rfl) (Nat.le_of_ble_eq_true rfl) dX9_place_2 rfl (fun hc => have h := jit_neg hc h; ⟨(jr1 h), (jt3 h)⟩) (kc2 := 1) (ks2 := 6) rfl rfl (fun hc => ?_)
  replace h := jit_pos hc h
  refine x_aloadA_n (pc := 5) hC dX9_place_5 rfl rfl k_1 (by decide) ?_
  refine x_iload_n (pc := 6) hC dX9_place_6 rfl rfl ?_
  obtain ⟨c3, e4, h⟩ := jbR_some h
  refine x_cVT (pc := 7) hC hR mv_X9_164 (jTB_mem wm_1147 rfl) (ok_X9_wantJudge hn e4) rfl (Nat.le_of_ble_eq_true rfl) k_1 rfl (by decide) (Nat.le_of_ble_eq_true rfl) (Nat.le_of_ble_eq_true rfl) (Nat.le_of_ble_eq_true rfl) dX9_place_7 rfl (fun hc => have h := jit_neg hc h; ⟨(jr1 h), (jt3 h)⟩) (kc2 := 2) (ks2 := 12) rfl rfl (fun hc => ?_)
  replace h := jit_pos hc h
  refine x_aloadA_n (pc := 10) hC dX9_place_10 rfl rfl k_1 (by decide) ?_
  refine x_gf (pc := 11) (b := 110) hC fl_X9_44 ft9_6 k_1 (by decide) (off := 109) (by decide +kernel) (by decide) dX9_place_11 ?_
  refine x_aloadA_n (pc := 14) hC dX9_place_14 rfl rfl k_1 (by decide) ?_
  obtain ⟨hk5, h⟩ := jck_some h
  refine x_gr (pc := 15) (ji := 3) hC fl_X9_23 rfl ft9_3 k_1 dX9_place_15 ?_
  refine x_sipush (pc := 18) hC dX9_place_18 rfl ?_
  obtain ⟨M7, e6, h⟩ := jbV_some h
  refine x_cV (pc := 21) hC mv_X9_215 (ok_X7_weigh hn hk5 e6) rfl (Nat.le_of_ble_eq_true rfl) k_110 rfl (by decide) (jRoT hR (Nat.le_of_ble_eq_true rfl) (Nat.le_of_ble_eq_true rfl)) (Nat.le_of_ble_eq_true rfl) dX9_place_21 rfl ?_
  refine x_aloadA_n (pc := 24) hC dX9_place_24 rfl rfl k_1 (by decide) ?_
  refine x_gf (pc := 25) (b := 110) hC fl_X9_44 ft9_6 k_1 (by decide) (off := 109) (by decide +kernel) (by decide) dX9_place_25 ?_
  refine x_iconst (pc := 28) hC dX9_place_28 ?_
  refine x_iload_n (pc := 29) hC dX9_place_29 rfl rfl ?_
  refine x_ishl (pc := 30) hC dX9_place_30 ?_
  obtain ⟨M9, e8, h⟩ := jbV_some h
  refine x_cV (pc := 31) hC mv_X9_280 (ok_X7_judgeBy hn e8) rfl (Nat.le_of_ble_eq_true rfl) k_110 rfl (by decide) (jRoT hR (Nat.le_of_ble_eq_true rfl) (Nat.le_of_ble_eq_true rfl)) (Nat.le_of_ble_eq_true rfl) dX9_place_31 rfl ?_
  refine x_aloadA_n (pc := 34) hC dX9_place_34 rfl rfl k_1 (by decide) ?_
  refine x_gf (pc := 35) (b := 110) hC fl_X9_44 ft9_6 k_1 (by decide) (off := 109) (by decide +kernel) (by decide) dX9_place_35 ?_
  refine x_iload_n (pc := 38) hC dX9_place_38 rfl rfl ?_
  obtain ⟨v11, e10, h⟩ := jbR_some h
  refine x_cV (pc := 39) hC mv_X9_219 (ok_X7_rankOf hn e10) rfl (Nat.le_of_ble_eq_true rfl) k_110 rfl (by decide) (jRoT hR (Nat.le_of_ble_eq_true rfl) (Nat.le_of_ble_eq_true rfl)) (Nat.le_of_ble_eq_true rfl) dX9_place_39 rfl ?_
  exact x_iretT (pc := 42) hC hR dX9_place_42 (Nat.le_of_ble_eq_true rfl) (Nat.le_of_ble_eq_true rfl) (jr1 h) (jt2 h) (jt3 h)

set_option maxHeartbeats 4000000 in
set_option maxRecDepth 20000 in
theorem ok_X9_majority {X : jX} {n : Nat} (hn : 179 ≤ n) {l1 : Int} {M : jM} {cz : Int} {rz : Int} {Mz : jM} (h : f_X9_majority l1 M = some (cz, rz, Mz)) : jCtT X n yX9_majority cX9_majority 2 (some .int) 7 1 [jA 1, jI l1] M cz (some (jI rz)) Mz := by
  refine jCtT_of (own := RX9) (ls := [jA 1, jI l1]) (by decide +kernel) rfl hn (Nat.le_of_ble_eq_true rfl) rfl ?_
  intro C hC hR
  unfold f_X9_majority at h
  refine x_aloadA_n (pc := 0) hC dX9_majority_0 rfl rfl k_1 (by decide) ?_
  refine x_iload_n (pc := 1) hC dX9_majority_1 rfl rfl ?_
  obtain ⟨c1, e2, h⟩ := jbR_some h
  refine x_cVT (pc := 2) hC hR mv_X9_89 (jTB_mem wm_1052 rfl) (ok_X9_wantSkater hn e2) rfl (Nat.le_of_ble_eq_true rfl) k_1 rfl (by decide) (Nat.le_of_ble_eq_true rfl) (Nat.le_of_ble_eq_true rfl) (Nat.le_of_ble_eq_true rfl) dX9_majority_2 rfl (fun hc => have h := jit_neg hc h; ⟨(jr1 h), (jt3 h)⟩) (kc2 := 1) (ks2 := 6) rfl rfl (fun hc => ?_)
  replace h := jit_pos hc h
  refine x_aloadA_n (pc := 5) hC dX9_majority_5 rfl rfl k_1 (by decide) ?_
  refine x_gf (pc := 6) (b := 110) hC fl_X9_44 ft9_6 k_1 (by decide) (off := 109) (by decide +kernel) (by decide) dX9_majority_6 ?_
  refine x_aloadA_n (pc := 9) hC dX9_majority_9 rfl rfl k_1 (by decide) ?_
  obtain ⟨hk3, h⟩ := jck_some h
  refine x_gr (pc := 10) (ji := 3) hC fl_X9_23 rfl ft9_3 k_1 dX9_majority_10 ?_
  refine x_sipush (pc := 13) hC dX9_majority_13 rfl ?_
  obtain ⟨M5, e4, h⟩ := jbV_some h
  refine x_cV (pc := 16) hC mv_X9_215 (ok_X7_weigh hn hk3 e4) rfl (Nat.le_of_ble_eq_true rfl) k_110 rfl (by decide) (jRoT hR (Nat.le_of_ble_eq_true rfl) (Nat.le_of_ble_eq_true rfl)) (Nat.le_of_ble_eq_true rfl) dX9_majority_16 rfl ?_
  refine x_aloadA_n (pc := 19) hC dX9_majority_19 rfl rfl k_1 (by decide) ?_
  refine x_gf (pc := 20) (b := 110) hC fl_X9_44 ft9_6 k_1 (by decide) (off := 109) (by decide +kernel) (by decide) dX9_majority_20 ?_
  obtain ⟨M7, e6, h⟩ := jbV_some h
  refine x_cV (pc := 23) hC mv_X9_283 (ok_X7_findMajorities hn e6) rfl (Nat.le_of_ble_eq_true rfl) k_110 rfl (by decide) (jRoT hR (Nat.le_of_ble_eq_true rfl) (Nat.le_of_ble_eq_true rfl)) (Nat.le_of_ble_eq_true rfl) dX9_majority_23 rfl ?_
  refine x_aloadA_n (pc := 26) hC dX9_majority_26 rfl rfl k_1 (by decide) ?_
  refine x_gf (pc := 27) (b := 110) hC fl_X9_44 ft9_6 k_1 (by decide) (off := 109) (by decide +kernel) (by decide) dX9_majority_27 ?_
  refine x_gf (pc := 30) (b := 114) hC fl_X9_286 ft7_4 k_110 (by decide) (off := 4) (by decide +kernel) (by decide) dX9_majority_30 ?_
  refine x_iload_n (pc := 33) hC dX9_majority_33 rfl rfl ?_
  obtain ⟨hb8, h⟩ := jck_some h
  refine x_iald (pc := 34) hC k_114 (by rw [l_114]; exact hb8) dX9_majority_34 ?_
  exact x_iretT (pc := 35) hC hR dX9_majority_35 (Nat.le_of_ble_eq_true rfl) (Nat.le_of_ble_eq_true rfl) (jr1 h) (jt2 h) (jt3 h)

set_option maxHeartbeats 4000000 in
set_option maxRecDepth 20000 in
theorem ok_X9_wantPanelSize {X : jX} {n : Nat} (hn : 179 ≤ n) {l1 : Int} {M : jM} {cz : Int} (h : f_X9_wantPanelSize l1 M = some cz) : jCtT X n yX9_wantPanelSize cX9_wantPanelSize 2 (none) 6 1 [jA 1, jI l1] M cz (none) M := by
  refine jCtT_of (own := RX9) (ls := [jA 1, jI l1]) (by decide +kernel) rfl hn (Nat.le_of_ble_eq_true rfl) rfl ?_
  intro C hC hR
  unfold f_X9_wantPanelSize at h
  refine x_iload_n (pc := 0) hC dX9_wantPanelSize_0 rfl rfl ?_
  refine x_iconst (pc := 1) hC dX9_wantPanelSize_1 ?_
  obtain ⟨k1, Hk1, h⟩ := jk_some (P := fun k1 => k1 = some cz → jG C X n 2 0 0 16 [jA 1, jI l1] [] M) h (by
    intro h
    exact x_throwW (pc := 16) hC hR ex_1 sr_23 (Nat.le_of_ble_eq_true rfl) (Nat.le_of_ble_eq_true rfl) (Nat.le_of_ble_eq_true rfl) (Nat.le_of_ble_eq_true rfl) dX9_wantPanelSize_16 dX9_wantPanelSize_19 dX9_wantPanelSize_20 dX9_wantPanelSize_23 dX9_wantPanelSize_26 (jrR h) rfl)
  refine x_icmp_lt (tgt := 16) (pc := 2) hC dX9_wantPanelSize_2 (by decide) (fun hc => ?_) (fun hc => ?_)
  · replace h := jit_pos hc h
    exact Hk1 h
  · replace h := jit_neg hc h
    refine x_iload_n (pc := 5) hC dX9_wantPanelSize_5 rfl rfl ?_
    refine x_aloadA_n (pc := 6) hC dX9_wantPanelSize_6 rfl rfl k_1 (by decide) ?_
    obtain ⟨hk2, h⟩ := jck_some h
    refine x_gr (pc := 7) (ji := 3) hC fl_X9_23 rfl ft9_3 k_1 dX9_wantPanelSize_7 ?_
    refine x_gi (pc := 10) (ji := 0) hC fl_X9_295 rfl fn1_0 hk2 dX9_wantPanelSize_10 ?_
    refine x_icmp_le (tgt := 27) (pc := 13) hC dX9_wantPanelSize_13 (by decide) (fun hc => ?_) (fun hc => ?_)
    · replace h := jit_pos hc h
      exact x_vretT (pc := 27) hC hR dX9_wantPanelSize_27 (Nat.le_of_ble_eq_true rfl) (Nat.le_of_ble_eq_true rfl) (jrR h) rfl
    · replace h := jit_neg hc h
      exact Hk1 h

set_option maxHeartbeats 4000000 in
set_option maxRecDepth 20000 in
theorem ok_X9_panel {X : jX} {n : Nat} (hn : 179 ≤ n) {l1 : Int} {l2 : Int} {M : jM} {cz : Int} {rz : Int} (h : f_X9_panel l1 l2 M = some (cz, rz)) : jCtT X n yX9_panel cX9_panel 6 (some .int) 7 1 [jA 1, jI l1, jI l2] M cz (some (jI rz)) M := by
  refine jCtT_of (own := RX9) (ls := [jA 1, jI l1, jI l2, jN, jN, jN]) (by decide +kernel) rfl hn (Nat.le_of_ble_eq_true rfl) rfl ?_
  intro C hC hR
  unfold f_X9_panel at h
  refine x_aloadA_n (pc := 0) hC dX9_panel_0 rfl rfl k_1 (by decide) ?_
  refine x_iload_n (pc := 1) hC dX9_panel_1 rfl rfl ?_
  obtain ⟨c1, e2, h⟩ := jbR_some h
  refine x_cVT (pc := 2) hC hR mv_X9_292 (jTB_mem wm_1354 rfl) (ok_X9_wantPanelSize hn e2) rfl (Nat.le_of_ble_eq_true rfl) k_1 rfl (by decide) (Nat.le_of_ble_eq_true rfl) (Nat.le_of_ble_eq_true rfl) (Nat.le_of_ble_eq_true rfl) dX9_panel_2 rfl (fun hc => have h := jit_neg hc h; ⟨(jr1 h), rfl⟩) (kc2 := 1) (ks2 := 6) rfl rfl (fun hc => ?_)
  replace h := jit_pos hc h
  refine x_iload_n (pc := 5) hC dX9_panel_5 rfl rfl ?_
  refine x_istore_n (ls2 := [jA 1, jI l1, jI l2, jI l1, jN, jN]) (pc := 6) hC dX9_panel_6 rfl (by decide) rfl rfl rfl ?_
  refine x_iconst (pc := 7) hC dX9_panel_7 ?_
  refine x_istore (ls2 := [jA 1, jI l1, jI l2, jI l1, jI 0, jN]) (pc := 8) hC dX9_panel_8 (by decide) rfl rfl rfl ?_
  refine x_aloadA_n (pc := 10) hC dX9_panel_10 rfl rfl k_1 (by decide) ?_
  obtain ⟨hk3, h⟩ := jck_some h
  refine x_gr (pc := 11) (ji := 3) hC fl_X9_23 rfl ft9_3 k_1 dX9_panel_11 ?_
  refine x_gi (pc := 14) (ji := 0) hC fl_X9_295 rfl fn1_0 hk3 dX9_panel_14 ?_
  obtain ⟨l5_4, el5_4, h⟩ := jlet_some h
  refine x_istore (ls2 := [jA 1, jI l1, jI l2, jI l1, jI 0, jI l5_4]) (pc := 17) hC dX9_panel_17 (by decide) rfl el5_4 rfl ?_
  refine jlp3_ind (P := fun (l3_5 : Int) (l4_6 : Int) (l5_7 : Int) => jG C X n 6 1 6 19 [jA 1, jI l1, jI l2, jI l3_5, jI l4_6, jI l5_7] [] M) ?_ _ _ _ _ h
  intro self8 l3_5 l4_6 l5_7 Hself8 h
  refine x_iload (pc := 19) hC dX9_panel_19 rfl ?_
  refine x_aloadA_n (pc := 21) hC dX9_panel_21 rfl rfl k_1 (by decide) ?_
  refine x_gr (pc := 22) (ji := 3) hC fl_X9_23 rfl ft9_3 k_1 dX9_panel_22 ?_
  refine x_gi (pc := 25) (ji := 0) hC fl_X9_295 rfl fn1_0 hk3 dX9_panel_25 ?_
  refine x_iload_n (pc := 28) hC dX9_panel_28 rfl rfl ?_
  refine x_isub (pc := 29) hC dX9_panel_29 ?_
  refine x_icmp_le (tgt := 78) (pc := 30) hC dX9_panel_30 (by decide) (fun hc => ?_) (fun hc => ?_)
  · replace h := jit_pos hc h
    refine x_iload (pc := 78) hC dX9_panel_78 rfl ?_
    exact x_iretT (pc := 80) hC hR dX9_panel_80 (Nat.le_of_ble_eq_true rfl) (Nat.le_of_ble_eq_true rfl) (jr1 h) (jr2 h) rfl
  · replace h := jit_neg hc h
    refine x_iload (pc := 33) hC dX9_panel_33 rfl ?_
    refine x_if_le (tgt := 78) (pc := 35) hC dX9_panel_35 (by decide) (fun hc => ?_) (fun hc => ?_)
    · replace h := jit_pos hc h
      refine x_iload (pc := 78) hC dX9_panel_78 rfl ?_
      exact x_iretT (pc := 80) hC hR dX9_panel_80 (Nat.le_of_ble_eq_true rfl) (Nat.le_of_ble_eq_true rfl) (jr1 h) (jr2 h) rfl
    · replace h := jit_neg hc h
      refine x_ldcwi (pc := 38) hC cw_X9_298 dX9_panel_38 ?_
      refine x_iload_n (pc := 41) hC dX9_panel_41 rfl rfl ?_
      refine x_imul (pc := 42) hC dX9_panel_42 ?_
      refine x_sipush (pc := 43) hC dX9_panel_43 rfl ?_
      refine x_iadd (pc := 46) hC dX9_panel_46 ?_
      obtain ⟨l3_9, el3_9, h⟩ := jlet_some h
      refine x_istore_n (ls2 := [jA 1, jI l1, jI l2, jI l3_9, jI l4_6, jI l5_7]) (pc := 47) hC dX9_panel_47 rfl (by decide) rfl el3_9 rfl ?_
      refine x_iload (pc := 48) hC dX9_panel_48 rfl ?_
      refine x_iconst (pc := 50) hC dX9_panel_50 ?_
      refine x_aloadA_n (pc := 51) hC dX9_panel_51 rfl rfl k_1 (by decide) ?_
      refine x_iload (pc := 52) hC dX9_panel_52 rfl ?_
      refine x_iload_n (pc := 54) hC dX9_panel_54 rfl rfl ?_
      refine x_bipush (pc := 55) hC dX9_panel_55 rfl ?_
      refine x_iushr (pc := 57) hC dX9_panel_57 ?_
      refine x_sipush (pc := 58) hC dX9_panel_58 rfl ?_
      refine x_iand (pc := 61) hC dX9_panel_61 ?_
      refine x_iload (pc := 62) hC dX9_panel_62 rfl ?_
      obtain ⟨hz10, h⟩ := jck_some h
      refine x_irem (pc := 64) hC dX9_panel_64 hz10 ?_
      obtain ⟨v12, e11, h⟩ := jbR_some h
      refine x_cV (pc := 65) hC mv_X9_299 (ok_X9_judgeOutside hn e11) rfl (Nat.le_of_ble_eq_true rfl) k_1 rfl (by decide) (jRoT hR (Nat.le_of_ble_eq_true rfl) (Nat.le_of_ble_eq_true rfl)) (Nat.le_of_ble_eq_true rfl) dX9_panel_65 rfl ?_
      refine x_ishl (pc := 68) hC dX9_panel_68 ?_
      refine x_ior (pc := 69) hC dX9_panel_69 ?_
      obtain ⟨l4_13, el4_13, h⟩ := jlet_some h
      refine x_istore (ls2 := [jA 1, jI l1, jI l2, jI l3_9, jI l4_13, jI l5_7]) (pc := 70) hC dX9_panel_70 (by decide) rfl el4_13 rfl ?_
      obtain ⟨l5_14, el5_14, h⟩ := jlet_some h
      refine x_iinc (ls2 := [jA 1, jI l1, jI l2, jI l3_9, jI l4_13, jI l5_14]) (pc := 72) hC dX9_panel_72 rfl (by decide) rfl el5_14 rfl ?_
      refine x_goto (tgt := 19) (pc := 75) hC dX9_panel_75 (by decide) ?_
      exact Hself8 _ _ _ h

set_option maxHeartbeats 4000000 in
set_option maxRecDepth 20000 in
theorem ok_X9_by {X : jX} {n : Nat} (hn : 179 ≤ n) {l1 : Int} {l2 : Int} {M : jM} {cz : Int} {rz : Int} {Mz : jM} (h : f_X9_by l1 l2 M = some (cz, rz, Mz)) : jCtT X n yX9_by cX9_by 3 (some .int) 7 2 [jA 1, jI l1, jI l2] M cz (some (jI rz)) Mz := by
  refine jCtT_of (own := RX9) (ls := [jA 1, jI l1, jI l2]) (by decide +kernel) rfl hn (Nat.le_of_ble_eq_true rfl) rfl ?_
  intro C hC hR
  unfold f_X9_by at h
  refine x_aloadA_n (pc := 0) hC dX9_by_0 rfl rfl k_1 (by decide) ?_
  refine x_iload_n (pc := 1) hC dX9_by_1 rfl rfl ?_
  obtain ⟨c1, e2, h⟩ := jbR_some h
  refine x_cVT (pc := 2) hC hR mv_X9_89 (jTB_mem wm_1052 rfl) (ok_X9_wantSkater hn e2) rfl (Nat.le_of_ble_eq_true rfl) k_1 rfl (by decide) (Nat.le_of_ble_eq_true rfl) (Nat.le_of_ble_eq_true rfl) (Nat.le_of_ble_eq_true rfl) dX9_by_2 rfl (fun hc => have h := jit_neg hc h; ⟨(jr1 h), (jt3 h)⟩) (kc2 := 1) (ks2 := 6) rfl rfl (fun hc => ?_)
  replace h := jit_pos hc h
  refine x_iload_n (pc := 5) hC dX9_by_5 rfl rfl ?_
  refine x_iconst (pc := 6) hC dX9_by_6 ?_
  obtain ⟨k3, Hk3, h⟩ := jk_some (P := fun k3 => k3 = some (cz, rz, Mz) → jG C X n 3 1 6 18 [jA 1, jI l1, jI l2] [] M) h (by
    intro h
    exact x_throwW (pc := 18) hC hR ex_1 sr_24 (Nat.le_of_ble_eq_true rfl) (Nat.le_of_ble_eq_true rfl) (Nat.le_of_ble_eq_true rfl) (Nat.le_of_ble_eq_true rfl) dX9_by_18 dX9_by_21 dX9_by_22 dX9_by_25 dX9_by_28 (jr1 h) (jt3 h))
  refine x_icmp_lt (tgt := 18) (pc := 7) hC dX9_by_7 (by decide) (fun hc => ?_) (fun hc => ?_)
  · replace h := jit_pos hc h
    exact Hk3 h
  · replace h := jit_neg hc h
    refine x_iload_n (pc := 10) hC dX9_by_10 rfl rfl ?_
    refine x_aloadA_n (pc := 11) hC dX9_by_11 rfl rfl k_1 (by decide) ?_
    obtain ⟨v5, e4, h⟩ := jbR_some h
    refine x_cV (pc := 12) hC mv_X9_152 (ok_X9_everyJudge hn e4) rfl (Nat.le_of_ble_eq_true rfl) k_1 rfl (by decide) (jRoT hR (Nat.le_of_ble_eq_true rfl) (Nat.le_of_ble_eq_true rfl)) (Nat.le_of_ble_eq_true rfl) dX9_by_12 rfl ?_
    refine x_icmp_le (tgt := 29) (pc := 15) hC dX9_by_15 (by decide) (fun hc => ?_) (fun hc => ?_)
    · replace h := jit_pos hc h
      refine x_aloadA_n (pc := 29) hC dX9_by_29 rfl rfl k_1 (by decide) ?_
      refine x_iload_n (pc := 30) hC dX9_by_30 rfl rfl ?_
      refine x_iload_n (pc := 31) hC dX9_by_31 rfl rfl ?_
      obtain ⟨v8, M7, e6, h⟩ := jbW_some h
      refine x_cV (pc := 32) hC mv_X9_274 (ok_X9_totalBy hn e6) rfl (Nat.le_of_ble_eq_true rfl) k_1 rfl (by decide) (jRoT hR (Nat.le_of_ble_eq_true rfl) (Nat.le_of_ble_eq_true rfl)) (Nat.le_of_ble_eq_true rfl) dX9_by_32 rfl ?_
      exact x_iretT (pc := 35) hC hR dX9_by_35 (Nat.le_of_ble_eq_true rfl) (Nat.le_of_ble_eq_true rfl) (jr1 h) (jt2 h) (jt3 h)
    · replace h := jit_neg hc h
      exact Hk3 h

set_option maxHeartbeats 4000000 in
set_option maxRecDepth 20000 in
theorem ok_X9_firsts {X : jX} {n : Nat} (hn : 179 ≤ n) {l1 : Int} {l2 : Int} {M : jM} {cz : Int} {rz : Int} {Mz : jM} (h : f_X9_firsts l1 l2 M = some (cz, rz, Mz)) : jCtT X n yX9_firsts cX9_firsts 5 (some .int) 7 2 [jA 1, jI l1, jI l2] M cz (some (jI rz)) Mz := by
  refine jCtT_of (own := RX9) (ls := [jA 1, jI l1, jI l2, jN, jN]) (by decide +kernel) rfl hn (Nat.le_of_ble_eq_true rfl) rfl ?_
  intro C hC hR
  unfold f_X9_firsts at h
  refine x_aloadA_n (pc := 0) hC dX9_firsts_0 rfl rfl k_1 (by decide) ?_
  refine x_iload_n (pc := 1) hC dX9_firsts_1 rfl rfl ?_
  obtain ⟨c1, e2, h⟩ := jbR_some h
  refine x_cVT (pc := 2) hC hR mv_X9_89 (jTB_mem wm_1052 rfl) (ok_X9_wantSkater hn e2) rfl (Nat.le_of_ble_eq_true rfl) k_1 rfl (by decide) (Nat.le_of_ble_eq_true rfl) (Nat.le_of_ble_eq_true rfl) (Nat.le_of_ble_eq_true rfl) dX9_firsts_2 rfl (fun hc => have h := jit_neg hc h; ⟨(jr1 h), (jt3 h)⟩) (kc2 := 1) (ks2 := 6) rfl rfl (fun hc => ?_)
  replace h := jit_pos hc h
  refine x_aloadA_n (pc := 5) hC dX9_firsts_5 rfl rfl k_1 (by decide) ?_
  refine x_iload_n (pc := 6) hC dX9_firsts_6 rfl rfl ?_
  obtain ⟨c3, e4, h⟩ := jbR_some h
  refine x_cVT (pc := 7) hC hR mv_X9_292 (jTB_mem wm_1354 rfl) (ok_X9_wantPanelSize hn e4) rfl (Nat.le_of_ble_eq_true rfl) k_1 rfl (by decide) (Nat.le_of_ble_eq_true rfl) (Nat.le_of_ble_eq_true rfl) (Nat.le_of_ble_eq_true rfl) dX9_firsts_7 rfl (fun hc => have h := jit_neg hc h; ⟨(jr1 h), (jt3 h)⟩) (kc2 := 2) (ks2 := 12) rfl rfl (fun hc => ?_)
  replace h := jit_pos hc h
  refine x_aloadA_n (pc := 10) hC dX9_firsts_10 rfl rfl k_1 (by decide) ?_
  refine x_gf (pc := 11) (b := 110) hC fl_X9_44 ft9_6 k_1 (by decide) (off := 109) (by decide +kernel) (by decide) dX9_firsts_11 ?_
  refine x_aloadA_n (pc := 14) hC dX9_firsts_14 rfl rfl k_1 (by decide) ?_
  obtain ⟨hk5, h⟩ := jck_some h
  refine x_gr (pc := 15) (ji := 3) hC fl_X9_23 rfl ft9_3 k_1 dX9_firsts_15 ?_
  refine x_sipush (pc := 18) hC dX9_firsts_18 rfl ?_
  obtain ⟨M7, e6, h⟩ := jbV_some h
  refine x_cV (pc := 21) hC mv_X9_215 (ok_X7_weigh hn hk5 e6) rfl (Nat.le_of_ble_eq_true rfl) k_110 rfl (by decide) (jRoT hR (Nat.le_of_ble_eq_true rfl) (Nat.le_of_ble_eq_true rfl)) (Nat.le_of_ble_eq_true rfl) dX9_firsts_21 rfl ?_
  refine x_iconst (pc := 24) hC dX9_firsts_24 ?_
  refine x_istore_n (ls2 := [jA 1, jI l1, jI l2, jI 0, jN]) (pc := 25) hC dX9_firsts_25 rfl (by decide) rfl rfl rfl ?_
  refine x_iconst (pc := 26) hC dX9_firsts_26 ?_
  refine x_istore (ls2 := [jA 1, jI l1, jI l2, jI 0, jI 1]) (pc := 27) hC dX9_firsts_27 (by decide) rfl rfl rfl ?_
  refine jlp3_ind (P := fun (l3_8 : Int) (l4_9 : Int) (M10 : jM) => jG C X n 5 2 12 29 [jA 1, jI l1, jI l2, jI l3_8, jI l4_9] [] M10) ?_ _ _ _ _ h
  intro self11 l3_8 l4_9 M10 Hself11 h
  refine x_iload (pc := 29) hC dX9_firsts_29 rfl ?_
  refine x_aloadA_n (pc := 31) hC dX9_firsts_31 rfl rfl k_1 (by decide) ?_
  obtain ⟨v13, e12, h⟩ := jbR_some h
  refine x_cV (pc := 32) hC mv_X9_152 (ok_X9_everyJudge hn e12) rfl (Nat.le_of_ble_eq_true rfl) k_1 rfl (by decide) (jRoT hR (Nat.le_of_ble_eq_true rfl) (Nat.le_of_ble_eq_true rfl)) (Nat.le_of_ble_eq_true rfl) dX9_firsts_32 rfl ?_
  refine x_icmp_gt (tgt := 69) (pc := 35) hC dX9_firsts_35 (by decide) (fun hc => ?_) (fun hc => ?_)
  · replace h := jit_pos hc h
    refine x_iload_n (pc := 69) hC dX9_firsts_69 rfl rfl ?_
    exact x_iretT (pc := 70) hC hR dX9_firsts_70 (Nat.le_of_ble_eq_true rfl) (Nat.le_of_ble_eq_true rfl) (jr1 h) (jt2 h) (jt3 h)
  · replace h := jit_neg hc h
    refine x_iload (pc := 38) hC dX9_firsts_38 rfl ?_
    obtain ⟨v15, e14, h⟩ := jbR_some h
    refine x_cS (pc := 40) hC ms_X9_304 (ok_J6_bitCount_0f7a4 hn e14) rfl (Nat.le_of_ble_eq_true rfl) (jRoT hR (Nat.le_of_ble_eq_true rfl) (Nat.le_of_ble_eq_true rfl)) (Nat.le_of_ble_eq_true rfl) dX9_firsts_40 rfl ?_
    refine x_iload_n (pc := 43) hC dX9_firsts_43 rfl rfl ?_
    refine x_icmp_ne (tgt := 63) (pc := 44) hC dX9_firsts_44 (by decide) (fun hc => ?_) (fun hc => ?_)
    · replace h := jit_neg hc h
      obtain ⟨l4_16, el4_16, h⟩ := jlet_some h
      refine x_iinc (ls2 := [jA 1, jI l1, jI l2, jI l3_8, jI l4_16]) (pc := 63) hC dX9_firsts_63 rfl (by decide) rfl el4_16 rfl ?_
      refine x_goto (tgt := 29) (pc := 66) hC dX9_firsts_66 (by decide) ?_
      exact Hself11 _ _ _ h
    · replace h := jit_pos hc h
      refine x_aloadA_n (pc := 47) hC dX9_firsts_47 rfl rfl k_1 (by decide) ?_
      refine x_gf (pc := 48) (b := 110) hC fl_X9_44 ft9_6 k_1 (by decide) (off := 109) (by decide +kernel) (by decide) dX9_firsts_48 ?_
      refine x_iload_n (pc := 51) hC dX9_firsts_51 rfl rfl ?_
      refine x_iload (pc := 52) hC dX9_firsts_52 rfl ?_
      obtain ⟨v19, M18, e17, h⟩ := jbW_some h
      refine x_cV (pc := 54) hC mv_X9_309 (ok_X7_leadsBy hn e17) rfl (Nat.le_of_ble_eq_true rfl) k_110 rfl (by decide) (jRoT hR (Nat.le_of_ble_eq_true rfl) (Nat.le_of_ble_eq_true rfl)) (Nat.le_of_ble_eq_true rfl) dX9_firsts_54 rfl ?_
      refine x_if_eq (tgt := 63) (pc := 57) hC dX9_firsts_57 (by decide) (fun hc => ?_) (fun hc => ?_)
      · replace h := jit_pos hc h
        obtain ⟨l4_20, el4_20, h⟩ := jlet_some h
        refine x_iinc (ls2 := [jA 1, jI l1, jI l2, jI l3_8, jI l4_20]) (pc := 63) hC dX9_firsts_63 rfl (by decide) rfl el4_20 rfl ?_
        refine x_goto (tgt := 29) (pc := 66) hC dX9_firsts_66 (by decide) ?_
        exact Hself11 _ _ _ h
      · replace h := jit_neg hc h
        obtain ⟨l3_21, el3_21, h⟩ := jlet_some h
        refine x_iinc (ls2 := [jA 1, jI l1, jI l2, jI l3_21, jI l4_9]) (pc := 60) hC dX9_firsts_60 rfl (by decide) rfl el3_21 rfl ?_
        obtain ⟨l4_22, el4_22, h⟩ := jlet_some h
        refine x_iinc (ls2 := [jA 1, jI l1, jI l2, jI l3_21, jI l4_22]) (pc := 63) hC dX9_firsts_63 rfl (by decide) rfl el4_22 rfl ?_
        refine x_goto (tgt := 29) (pc := 66) hC dX9_firsts_66 (by decide) ?_
        exact Hself11 _ _ _ h

set_option maxHeartbeats 4000000 in
set_option maxRecDepth 20000 in
theorem ok_X9_needed {X : jX} {n : Nat} (hn : 179 ≤ n) {l1 : Int} {l2 : Int} {M : jM} {cz : Int} {rz : Int} {Mz : jM} (h : f_X9_needed l1 l2 M = some (cz, rz, Mz)) : jCtT X n yX9_needed cX9_needed 4 (some .int) 7 3 [jA 1, jI l1, jI l2] M cz (some (jI rz)) Mz := by
  refine jCtT_of (own := RX9) (ls := [jA 1, jI l1, jI l2, jN]) (by decide +kernel) rfl hn (Nat.le_of_ble_eq_true rfl) rfl ?_
  intro C hC hR
  unfold f_X9_needed at h
  refine x_aloadA_n (pc := 0) hC dX9_needed_0 rfl rfl k_1 (by decide) ?_
  refine x_iload_n (pc := 1) hC dX9_needed_1 rfl rfl ?_
  obtain ⟨c1, e2, h⟩ := jbR_some h
  refine x_cVT (pc := 2) hC hR mv_X9_89 (jTB_mem wm_1052 rfl) (ok_X9_wantSkater hn e2) rfl (Nat.le_of_ble_eq_true rfl) k_1 rfl (by decide) (Nat.le_of_ble_eq_true rfl) (Nat.le_of_ble_eq_true rfl) (Nat.le_of_ble_eq_true rfl) dX9_needed_2 rfl (fun hc => have h := jit_neg hc h; ⟨(jr1 h), (jt3 h)⟩) (kc2 := 1) (ks2 := 6) rfl rfl (fun hc => ?_)
  replace h := jit_pos hc h
  refine x_aloadA_n (pc := 5) hC dX9_needed_5 rfl rfl k_1 (by decide) ?_
  refine x_iload_n (pc := 6) hC dX9_needed_6 rfl rfl ?_
  obtain ⟨c3, e4, h⟩ := jbR_some h
  refine x_cVT (pc := 7) hC hR mv_X9_89 (jTB_mem wm_1052 rfl) (ok_X9_wantSkater hn e4) rfl (Nat.le_of_ble_eq_true rfl) k_1 rfl (by decide) (Nat.le_of_ble_eq_true rfl) (Nat.le_of_ble_eq_true rfl) (Nat.le_of_ble_eq_true rfl) dX9_needed_7 rfl (fun hc => have h := jit_neg hc h; ⟨(jr1 h), (jt3 h)⟩) (kc2 := 2) (ks2 := 12) rfl rfl (fun hc => ?_)
  replace h := jit_pos hc h
  refine x_iload_n (pc := 10) hC dX9_needed_10 rfl rfl ?_
  refine x_iload_n (pc := 11) hC dX9_needed_11 rfl rfl ?_
  refine x_icmp_ne (tgt := 26) (pc := 12) hC dX9_needed_12 (by decide) (fun hc => ?_) (fun hc => ?_)
  · replace h := jit_neg hc h
    refine x_aloadA_n (pc := 26) hC dX9_needed_26 rfl rfl k_1 (by decide) ?_
    obtain ⟨hk5, h⟩ := jck_some h
    refine x_gr (pc := 27) (ji := 3) hC fl_X9_23 rfl ft9_3 k_1 dX9_needed_27 ?_
    refine x_gf (pc := 30) (b := ((M 1 3) + 16)) hC fl_X9_117 ft1_7 hk5 (by decide) (off := 16) (by decide +kernel) rfl dX9_needed_30 ?_
    refine x_iload_n (pc := 33) hC dX9_needed_33 rfl rfl ?_
    obtain ⟨hb6, h⟩ := jck_some h
    refine x_aald14 (pc := 34) hC (ko1_7 hk5) hb6 rfl dX9_needed_34 ?_
    obtain ⟨v8, e7, h⟩ := jbR_some h
    refine x_cV (pc := 35) hC mv_X9_315 (ok_X6_last hn (jsk (ko1_7 hk5) hb6.1 hb6.2) e7) rfl (Nat.le_of_ble_eq_true rfl) (jsk (ko1_7 hk5) hb6.1 hb6.2) rfl (by decide) (jRoT hR (Nat.le_of_ble_eq_true rfl) (Nat.le_of_ble_eq_true rfl)) (Nat.le_of_ble_eq_true rfl) dX9_needed_35 rfl ?_
    refine x_istore_n (ls2 := [jA 1, jI l1, jI l2, jI v8]) (pc := 38) hC dX9_needed_38 rfl (by decide) rfl rfl rfl ?_
    refine x_iload_n (pc := 39) hC dX9_needed_39 rfl rfl ?_
    refine x_iconst (pc := 40) hC dX9_needed_40 ?_
    refine x_icmp_ne (tgt := 47) (pc := 41) hC dX9_needed_41 (by decide) (fun hc => ?_) (fun hc => ?_)
    · replace h := jit_neg hc h
      refine x_aloadA_n (pc := 47) hC dX9_needed_47 rfl rfl k_1 (by decide) ?_
      refine x_gf (pc := 48) (b := 110) hC fl_X9_44 ft9_6 k_1 (by decide) (off := 109) (by decide +kernel) (by decide) dX9_needed_48 ?_
      refine x_aloadA_n (pc := 51) hC dX9_needed_51 rfl rfl k_1 (by decide) ?_
      refine x_gr (pc := 52) (ji := 3) hC fl_X9_23 rfl ft9_3 k_1 dX9_needed_52 ?_
      refine x_sipush (pc := 55) hC dX9_needed_55 rfl ?_
      obtain ⟨M10, e9, h⟩ := jbV_some h
      refine x_cV (pc := 58) hC mv_X9_215 (ok_X7_weigh hn hk5 e9) rfl (Nat.le_of_ble_eq_true rfl) k_110 rfl (by decide) (jRoT hR (Nat.le_of_ble_eq_true rfl) (Nat.le_of_ble_eq_true rfl)) (Nat.le_of_ble_eq_true rfl) dX9_needed_58 rfl ?_
      refine x_aloadA_n (pc := 61) hC dX9_needed_61 rfl rfl k_1 (by decide) ?_
      refine x_gf (pc := 62) (b := 110) hC fl_X9_44 ft9_6 k_1 (by decide) (off := 109) (by decide +kernel) (by decide) dX9_needed_62 ?_
      refine x_iload_n (pc := 65) hC dX9_needed_65 rfl rfl ?_
      refine x_iload_n (pc := 66) hC dX9_needed_66 rfl rfl ?_
      refine x_iload_n (pc := 67) hC dX9_needed_67 rfl rfl ?_
      obtain ⟨v13, M12, e11, h⟩ := jbW_some h
      refine x_cV (pc := 68) hC mv_X9_318 (ok_X7_leastGradeAhead hn e11) rfl (Nat.le_of_ble_eq_true rfl) k_110 rfl (by decide) (jRoT hR (Nat.le_of_ble_eq_true rfl) (Nat.le_of_ble_eq_true rfl)) (Nat.le_of_ble_eq_true rfl) dX9_needed_68 rfl ?_
      exact x_iretT (pc := 71) hC hR dX9_needed_71 (Nat.le_of_ble_eq_true rfl) (Nat.le_of_ble_eq_true rfl) (jr1 h) (jt2 h) (jt3 h)
    · replace h := jit_pos hc h
      refine x_bipush (pc := 44) hC dX9_needed_44 rfl ?_
      exact x_iretT (pc := 46) hC hR dX9_needed_46 (Nat.le_of_ble_eq_true rfl) (Nat.le_of_ble_eq_true rfl) (jr1 h) (jt2 h) (jt3 h)
  · replace h := jit_pos hc h
    exact x_throwW (pc := 15) hC hR ex_1 sr_25 (Nat.le_of_ble_eq_true rfl) (Nat.le_of_ble_eq_true rfl) (Nat.le_of_ble_eq_true rfl) (Nat.le_of_ble_eq_true rfl) dX9_needed_15 dX9_needed_18 dX9_needed_19 dX9_needed_22 dX9_needed_25 (jr1 h) (jt3 h)

set_option maxHeartbeats 4000000 in
set_option maxRecDepth 20000 in
theorem ok_X9_raise {X : jX} {n : Nat} (hn : 179 ≤ n) {l1 : Int} {l2 : Int} {l3 : Int} {M : jM} {cz : Int} {rz : Int} {Mz : jM} (h : f_X9_raise l1 l2 l3 M = some (cz, rz, Mz)) : jCtT X n yX9_raise cX9_raise 8 (some .int) 8 4 [jA 1, jI l1, jI l2, jI l3] M cz (some (jI rz)) Mz := by
  refine jCtT_of (own := RX9) (ls := [jA 1, jI l1, jI l2, jI l3, jN, jN, jN, jN]) (by decide +kernel) rfl hn (Nat.le_of_ble_eq_true rfl) rfl ?_
  intro C hC hR
  unfold f_X9_raise at h
  refine x_aloadA_n (pc := 0) hC dX9_raise_0 rfl rfl k_1 (by decide) ?_
  refine x_iload_n (pc := 1) hC dX9_raise_1 rfl rfl ?_
  refine x_iload_n (pc := 2) hC dX9_raise_2 rfl rfl ?_
  obtain ⟨c1, e2, h⟩ := jbR_some h
  refine x_cVT (pc := 3) hC hR mv_X9_113 (jTB_mem wm_1112 rfl) (ok_X9_wantAttempt hn e2) rfl (Nat.le_of_ble_eq_true rfl) k_1 rfl (by decide) (Nat.le_of_ble_eq_true rfl) (Nat.le_of_ble_eq_true rfl) (Nat.le_of_ble_eq_true rfl) dX9_raise_3 rfl (fun hc => have h := jit_neg hc h; ⟨(jr1 h), (jt3 h)⟩) (kc2 := 2) (ks2 := 12) rfl rfl (fun hc => ?_)
  replace h := jit_pos hc h
  refine x_aloadA_n (pc := 6) hC dX9_raise_6 rfl rfl k_1 (by decide) ?_
  refine x_iload_n (pc := 7) hC dX9_raise_7 rfl rfl ?_
  obtain ⟨c3, e4, h⟩ := jbR_some h
  refine x_cVT (pc := 8) hC hR mv_X9_164 (jTB_mem wm_1147 rfl) (ok_X9_wantJudge hn e4) rfl (Nat.le_of_ble_eq_true rfl) k_1 rfl (by decide) (Nat.le_of_ble_eq_true rfl) (Nat.le_of_ble_eq_true rfl) (Nat.le_of_ble_eq_true rfl) dX9_raise_8 rfl (fun hc => have h := jit_neg hc h; ⟨(jr1 h), (jt3 h)⟩) (kc2 := 3) (ks2 := 18) rfl rfl (fun hc => ?_)
  replace h := jit_pos hc h
  refine x_aloadA_n (pc := 11) hC dX9_raise_11 rfl rfl k_1 (by decide) ?_
  obtain ⟨hk5, h⟩ := jck_some h
  refine x_gr (pc := 12) (ji := 3) hC fl_X9_23 rfl ft9_3 k_1 dX9_raise_12 ?_
  refine x_gf (pc := 15) (b := ((M 1 3) + 16)) hC fl_X9_117 ft1_7 hk5 (by decide) (off := 16) (by decide +kernel) rfl dX9_raise_15 ?_
  refine x_iload_n (pc := 18) hC dX9_raise_18 rfl rfl ?_
  obtain ⟨hb6, h⟩ := jck_some h
  refine x_aald14 (pc := 19) hC (ko1_7 hk5) hb6 rfl dX9_raise_19 ?_
  refine x_gf (pc := 20) (b := ((((M 1 3) + 16) + 1 + 6 * jw l1) + 5)) hC fl_X9_167 ft6_7 (jsk (ko1_7 hk5) hb6.1 hb6.2) (by decide) (off := 5) (by decide +kernel) rfl dX9_raise_20 ?_
  refine x_astoreA (ls2 := [jA 1, jI l1, jI l2, jI l3, jA ((((M 1 3) + 16) + 1 + 6 * jw l1) + 5), jN, jN, jN]) (pc := 23) hC dX9_raise_23 (by decide) rfl (ko6_7 (jsk (ko1_7 hk5) hb6.1 hb6.2)) (by decide) rfl ?_
  refine x_iload_n (pc := 25) hC dX9_raise_25 rfl rfl ?_
  refine x_iload_n (pc := 26) hC dX9_raise_26 rfl rfl ?_
  obtain ⟨v8, e7, h⟩ := jbR_some h
  refine x_cS (pc := 27) hC ms_X9_170 (ok_X9_voteOfGrade hn e7) rfl (Nat.le_of_ble_eq_true rfl) (jRoT hR (Nat.le_of_ble_eq_true rfl) (Nat.le_of_ble_eq_true rfl)) (Nat.le_of_ble_eq_true rfl) dX9_raise_27 rfl ?_
  refine x_istore (ls2 := [jA 1, jI l1, jI l2, jI l3, jA ((((M 1 3) + 16) + 1 + 6 * jw l1) + 5), jI v8, jN, jN]) (pc := 30) hC dX9_raise_30 (by decide) rfl rfl rfl ?_
  refine x_aloadA (pc := 32) hC dX9_raise_32 rfl (ko6_7 (jsk (ko1_7 hk5) hb6.1 hb6.2)) (by decide) ?_
  refine x_iload (pc := 34) hC dX9_raise_34 rfl ?_
  obtain ⟨hb9, h⟩ := jck_some h
  refine x_iald (pc := 36) hC (ko6_7 (jsk (ko1_7 hk5) hb6.1 hb6.2)) (by rw [lo6_7 (jsk (ko1_7 hk5) hb6.1 hb6.2)]; exact hb9) dX9_raise_36 ?_
  refine x_iconst (pc := 37) hC dX9_raise_37 ?_
  refine x_icmp_lt (tgt := 52) (pc := 38) hC dX9_raise_38 (by decide) (fun hc => ?_) (fun hc => ?_)
  · replace h := jit_pos hc h
    refine x_aloadA_n (pc := 52) hC dX9_raise_52 rfl rfl k_1 (by decide) ?_
    refine x_iload_n (pc := 53) hC dX9_raise_53 rfl rfl ?_
    refine x_aloadA_n (pc := 54) hC dX9_raise_54 rfl rfl k_1 (by decide) ?_
    obtain ⟨v11, e10, h⟩ := jbR_some h
    refine x_cV (pc := 55) hC mv_X9_152 (ok_X9_everyJudge hn e10) rfl (Nat.le_of_ble_eq_true rfl) k_1 rfl (by decide) (jRoT hR (Nat.le_of_ble_eq_true rfl) (Nat.le_of_ble_eq_true rfl)) (Nat.le_of_ble_eq_true rfl) dX9_raise_55 rfl ?_
    obtain ⟨v14, M13, e12, h⟩ := jbW_some h
    refine x_cV (pc := 58) hC mv_X9_274 (ok_X9_totalBy hn e12) rfl (Nat.le_of_ble_eq_true rfl) k_1 rfl (by decide) (jRoT hR (Nat.le_of_ble_eq_true rfl) (Nat.le_of_ble_eq_true rfl)) (Nat.le_of_ble_eq_true rfl) dX9_raise_58 rfl ?_
    refine x_istore (ls2 := [jA 1, jI l1, jI l2, jI l3, jA ((((M 1 3) + 16) + 1 + 6 * jw l1) + 5), jI v8, jI v14, jN]) (pc := 61) hC dX9_raise_61 (by decide) rfl rfl rfl ?_
    refine x_aloadA (pc := 63) hC dX9_raise_63 rfl (ko6_7 (jsk (ko1_7 hk5) hb6.1 hb6.2)) (by decide) ?_
    refine x_iload (pc := 65) hC dX9_raise_65 rfl ?_
    refine x_dup2 (pc := 67) hC dX9_raise_67 (show (1 : Nat) ≠ 3 by decide) (show (2 : Nat) ≠ 3 by decide) ?_
    obtain ⟨hb15, h⟩ := jck_some h
    refine x_iald (pc := 68) hC (ko6_7 (jsk (ko1_7 hk5) hb6.1 hb6.2)) (by rw [lo6_7 (jsk (ko1_7 hk5) hb6.1 hb6.2)]; exact hb15) dX9_raise_68 ?_
    refine x_iconst (pc := 69) hC dX9_raise_69 ?_
    refine x_iadd (pc := 70) hC dX9_raise_70 ?_
    obtain ⟨hb16, h⟩ := jck_some h
    obtain ⟨M17, eM17, h⟩ := jlet_some h
    refine x_iast (pc := 71) hC (ko6_7 (jsk (ko1_7 hk5) hb6.1 hb6.2)) (by rw [lo6_7 (jsk (ko1_7 hk5) hb6.1 hb6.2)]; exact hb16) dX9_raise_71 eM17 ?_
    refine x_aloadA_n (pc := 72) hC dX9_raise_72 rfl rfl k_1 (by decide) ?_
    refine x_iload_n (pc := 73) hC dX9_raise_73 rfl rfl ?_
    refine x_aloadA_n (pc := 74) hC dX9_raise_74 rfl rfl k_1 (by decide) ?_
    obtain ⟨v19, e18, h⟩ := jbR_some h
    refine x_cV (pc := 75) hC mv_X9_152 (ok_X9_everyJudge hn e18) rfl (Nat.le_of_ble_eq_true rfl) k_1 rfl (by decide) (jRoT hR (Nat.le_of_ble_eq_true rfl) (Nat.le_of_ble_eq_true rfl)) (Nat.le_of_ble_eq_true rfl) dX9_raise_75 rfl ?_
    obtain ⟨v22, M21, e20, h⟩ := jbW_some h
    refine x_cV (pc := 78) hC mv_X9_274 (ok_X9_totalBy hn e20) rfl (Nat.le_of_ble_eq_true rfl) k_1 rfl (by decide) (jRoT hR (Nat.le_of_ble_eq_true rfl) (Nat.le_of_ble_eq_true rfl)) (Nat.le_of_ble_eq_true rfl) dX9_raise_78 rfl ?_
    refine x_istore (ls2 := [jA 1, jI l1, jI l2, jI l3, jA ((((M 1 3) + 16) + 1 + 6 * jw l1) + 5), jI v8, jI v14, jI v22]) (pc := 81) hC dX9_raise_81 (by decide) rfl rfl rfl ?_
    refine x_aloadA (pc := 83) hC dX9_raise_83 rfl (ko6_7 (jsk (ko1_7 hk5) hb6.1 hb6.2)) (by decide) ?_
    refine x_iload (pc := 85) hC dX9_raise_85 rfl ?_
    refine x_dup2 (pc := 87) hC dX9_raise_87 (show (1 : Nat) ≠ 3 by decide) (show (2 : Nat) ≠ 3 by decide) ?_
    obtain ⟨hb23, h⟩ := jck_some h
    refine x_iald (pc := 88) hC (ko6_7 (jsk (ko1_7 hk5) hb6.1 hb6.2)) (by rw [lo6_7 (jsk (ko1_7 hk5) hb6.1 hb6.2)]; exact hb23) dX9_raise_88 ?_
    refine x_iconst (pc := 89) hC dX9_raise_89 ?_
    refine x_isub (pc := 90) hC dX9_raise_90 ?_
    obtain ⟨hb24, h⟩ := jck_some h
    obtain ⟨M25, eM25, h⟩ := jlet_some h
    refine x_iast (pc := 91) hC (ko6_7 (jsk (ko1_7 hk5) hb6.1 hb6.2)) (by rw [lo6_7 (jsk (ko1_7 hk5) hb6.1 hb6.2)]; exact hb24) dX9_raise_91 eM25 ?_
    refine x_iload (pc := 92) hC dX9_raise_92 rfl ?_
    refine x_iload (pc := 94) hC dX9_raise_94 rfl ?_
    refine x_isub (pc := 96) hC dX9_raise_96 ?_
    exact x_iretT (pc := 97) hC hR dX9_raise_97 (Nat.le_of_ble_eq_true rfl) (Nat.le_of_ble_eq_true rfl) (jr1 h) (jt2 h) (jt3 h)
  · replace h := jit_neg hc h
    exact x_throwW (pc := 41) hC hR ex_4 sr_26 (Nat.le_of_ble_eq_true rfl) (Nat.le_of_ble_eq_true rfl) (Nat.le_of_ble_eq_true rfl) (Nat.le_of_ble_eq_true rfl) dX9_raise_41 dX9_raise_44 dX9_raise_45 dX9_raise_48 dX9_raise_51 (jr1 h) (jt3 h)

set_option maxHeartbeats 4000000 in
set_option maxRecDepth 20000 in
theorem ok_X9_prime {X : jX} {n : Nat} (hn : 179 ≤ n) {l1 : Int} {l2 : Int} {M : jM} {cz : Int} {rz : Int} {Mz : jM} (h : f_X9_prime l1 l2 M = some (cz, rz, Mz)) : jCtT X n yX9_prime cX9_prime 3 (some .int) 7 2 [jA 1, jI l1, jI l2] M cz (some (jI rz)) Mz := by
  refine jCtT_of (own := RX9) (ls := [jA 1, jI l1, jI l2]) (by decide +kernel) rfl hn (Nat.le_of_ble_eq_true rfl) rfl ?_
  intro C hC hR
  unfold f_X9_prime at h
  refine x_aloadA_n (pc := 0) hC dX9_prime_0 rfl rfl k_1 (by decide) ?_
  refine x_iload_n (pc := 1) hC dX9_prime_1 rfl rfl ?_
  obtain ⟨c1, e2, h⟩ := jbR_some h
  refine x_cVT (pc := 2) hC hR mv_X9_89 (jTB_mem wm_1052 rfl) (ok_X9_wantSkater hn e2) rfl (Nat.le_of_ble_eq_true rfl) k_1 rfl (by decide) (Nat.le_of_ble_eq_true rfl) (Nat.le_of_ble_eq_true rfl) (Nat.le_of_ble_eq_true rfl) dX9_prime_2 rfl (fun hc => have h := jit_neg hc h; ⟨(jr1 h), (jt3 h)⟩) (kc2 := 1) (ks2 := 6) rfl rfl (fun hc => ?_)
  replace h := jit_pos hc h
  refine x_iload_n (pc := 5) hC dX9_prime_5 rfl rfl ?_
  obtain ⟨k3, Hk3, h⟩ := jk_some (P := fun k3 => k3 = some (cz, rz, Mz) → jG C X n 3 1 6 15 [jA 1, jI l1, jI l2] [] M) h (by
    intro h
    exact x_throwW (pc := 15) hC hR ex_1 sr_27 (Nat.le_of_ble_eq_true rfl) (Nat.le_of_ble_eq_true rfl) (Nat.le_of_ble_eq_true rfl) (Nat.le_of_ble_eq_true rfl) dX9_prime_15 dX9_prime_18 dX9_prime_19 dX9_prime_22 dX9_prime_25 (jr1 h) (jt3 h))
  refine x_if_lt (tgt := 15) (pc := 6) hC dX9_prime_6 (by decide) (fun hc => ?_) (fun hc => ?_)
  · replace h := jit_pos hc h
    exact Hk3 h
  · replace h := jit_neg hc h
    refine x_iload_n (pc := 9) hC dX9_prime_9 rfl rfl ?_
    refine x_bipush (pc := 10) hC dX9_prime_10 rfl ?_
    refine x_icmp_le (tgt := 26) (pc := 12) hC dX9_prime_12 (by decide) (fun hc => ?_) (fun hc => ?_)
    · replace h := jit_pos hc h
      refine x_aloadA_n (pc := 26) hC dX9_prime_26 rfl rfl k_1 (by decide) ?_
      refine x_iload_n (pc := 27) hC dX9_prime_27 rfl rfl ?_
      obtain ⟨v6, M5, e4, h⟩ := jbW_some h
      refine x_cV (pc := 28) hC mv_X9_121 (ok_X9_tallied hn e4) rfl (Nat.le_of_ble_eq_true rfl) k_1 rfl (by decide) (jRoT hR (Nat.le_of_ble_eq_true rfl) (Nat.le_of_ble_eq_true rfl)) (Nat.le_of_ble_eq_true rfl) dX9_prime_28 rfl ?_
      obtain ⟨hk7, h⟩ := jck_some h
      refine x_iload_n (pc := 31) hC dX9_prime_31 rfl rfl ?_
      obtain ⟨v9, e8, h⟩ := jbR_some h
      refine x_cV (pc := 32) hC mv_X9_328 (ok_X8_bestLate hn hk7 e8) rfl (Nat.le_of_ble_eq_true rfl) hk7 rfl (by decide) (jRoT hR (Nat.le_of_ble_eq_true rfl) (Nat.le_of_ble_eq_true rfl)) (Nat.le_of_ble_eq_true rfl) dX9_prime_32 rfl ?_
      exact x_iretT (pc := 35) hC hR dX9_prime_35 (Nat.le_of_ble_eq_true rfl) (Nat.le_of_ble_eq_true rfl) (jr1 h) (jt2 h) (jt3 h)
    · replace h := jit_neg hc h
      exact Hk3 h

set_option maxHeartbeats 4000000 in
set_option maxRecDepth 20000 in
theorem ok_X9_led {X : jX} {n : Nat} (hn : 179 ≤ n) {l1 : Int} {M : jM} {cz : Int} {rz : Int} {Mz : jM} (h : f_X9_led l1 M = some (cz, rz, Mz)) : jCtT X n yX9_led cX9_led 2 (some .int) 6 1 [jA 1, jI l1] M cz (some (jI rz)) Mz := by
  refine jCtT_of (own := RX9) (ls := [jA 1, jI l1]) (by decide +kernel) rfl hn (Nat.le_of_ble_eq_true rfl) rfl ?_
  intro C hC hR
  unfold f_X9_led at h
  refine x_iload_n (pc := 0) hC dX9_led_0 rfl rfl ?_
  obtain ⟨k1, Hk1, h⟩ := jk_some (P := fun k1 => k1 = some (cz, rz, Mz) → jG C X n 2 0 0 11 [jA 1, jI l1] [] M) h (by
    intro h
    exact x_throwW (pc := 11) hC hR ex_1 sr_28 (Nat.le_of_ble_eq_true rfl) (Nat.le_of_ble_eq_true rfl) (Nat.le_of_ble_eq_true rfl) (Nat.le_of_ble_eq_true rfl) dX9_led_11 dX9_led_14 dX9_led_15 dX9_led_18 dX9_led_21 (jr1 h) (jt3 h))
  refine x_if_lt (tgt := 11) (pc := 1) hC dX9_led_1 (by decide) (fun hc => ?_) (fun hc => ?_)
  · replace h := jit_pos hc h
    exact Hk1 h
  · replace h := jit_neg hc h
    refine x_iload_n (pc := 4) hC dX9_led_4 rfl rfl ?_
    refine x_sipush (pc := 5) hC dX9_led_5 rfl ?_
    refine x_icmp_le (tgt := 22) (pc := 8) hC dX9_led_8 (by decide) (fun hc => ?_) (fun hc => ?_)
    · replace h := jit_pos hc h
      refine x_aloadA_n (pc := 22) hC dX9_led_22 rfl rfl k_1 (by decide) ?_
      refine x_gf (pc := 23) (b := 110) hC fl_X9_44 ft9_6 k_1 (by decide) (off := 109) (by decide +kernel) (by decide) dX9_led_23 ?_
      refine x_aloadA_n (pc := 26) hC dX9_led_26 rfl rfl k_1 (by decide) ?_
      obtain ⟨hk2, h⟩ := jck_some h
      refine x_gr (pc := 27) (ji := 3) hC fl_X9_23 rfl ft9_3 k_1 dX9_led_27 ?_
      refine x_iload_n (pc := 30) hC dX9_led_30 rfl rfl ?_
      obtain ⟨M4, e3, h⟩ := jbV_some h
      refine x_cV (pc := 31) hC mv_X9_215 (ok_X7_weigh hn hk2 e3) rfl (Nat.le_of_ble_eq_true rfl) k_110 rfl (by decide) (jRoT hR (Nat.le_of_ble_eq_true rfl) (Nat.le_of_ble_eq_true rfl)) (Nat.le_of_ble_eq_true rfl) dX9_led_31 rfl ?_
      refine x_aloadA_n (pc := 34) hC dX9_led_34 rfl rfl k_1 (by decide) ?_
      refine x_gf (pc := 35) (b := 110) hC fl_X9_44 ft9_6 k_1 (by decide) (off := 109) (by decide +kernel) (by decide) dX9_led_35 ?_
      refine x_iconst (pc := 38) hC dX9_led_38 ?_
      obtain ⟨v6, e5, h⟩ := jbR_some h
      refine x_cV (pc := 39) hC mv_X9_222 (ok_X7_skaterAt hn e5) rfl (Nat.le_of_ble_eq_true rfl) k_110 rfl (by decide) (jRoT hR (Nat.le_of_ble_eq_true rfl) (Nat.le_of_ble_eq_true rfl)) (Nat.le_of_ble_eq_true rfl) dX9_led_39 rfl ?_
      exact x_iretT (pc := 42) hC hR dX9_led_42 (Nat.le_of_ble_eq_true rfl) (Nat.le_of_ble_eq_true rfl) (jr1 h) (jt2 h) (jt3 h)
    · replace h := jit_neg hc h
      exact Hk1 h

set_option maxHeartbeats 4000000 in
set_option maxRecDepth 20000 in
theorem ok_X9_doubt {X : jX} {n : Nat} (hn : 179 ≤ n) {l1 : Int} {M : jM} {cz : Int} {rz : Int} (h : f_X9_doubt l1 M = some (cz, rz)) : jCtT X n yX9_doubt cX9_doubt 2 (some .int) 7 1 [jA 1, jI l1] M cz (some (jI rz)) M := by
  refine jCtT_of (own := RX9) (ls := [jA 1, jI l1]) (by decide +kernel) rfl hn (Nat.le_of_ble_eq_true rfl) rfl ?_
  intro C hC hR
  unfold f_X9_doubt at h
  refine x_aloadA_n (pc := 0) hC dX9_doubt_0 rfl rfl k_1 (by decide) ?_
  refine x_iload_n (pc := 1) hC dX9_doubt_1 rfl rfl ?_
  obtain ⟨c1, e2, h⟩ := jbR_some h
  refine x_cVT (pc := 2) hC hR mv_X9_89 (jTB_mem wm_1052 rfl) (ok_X9_wantSkater hn e2) rfl (Nat.le_of_ble_eq_true rfl) k_1 rfl (by decide) (Nat.le_of_ble_eq_true rfl) (Nat.le_of_ble_eq_true rfl) (Nat.le_of_ble_eq_true rfl) dX9_doubt_2 rfl (fun hc => have h := jit_neg hc h; ⟨(jr1 h), rfl⟩) (kc2 := 1) (ks2 := 6) rfl rfl (fun hc => ?_)
  replace h := jit_pos hc h
  refine x_aloadA_n (pc := 5) hC dX9_doubt_5 rfl rfl k_1 (by decide) ?_
  obtain ⟨hk3, h⟩ := jck_some h
  refine x_gr (pc := 6) (ji := 3) hC fl_X9_23 rfl ft9_3 k_1 dX9_doubt_6 ?_
  refine x_gf (pc := 9) (b := ((M 1 3) + 16)) hC fl_X9_117 ft1_7 hk3 (by decide) (off := 16) (by decide +kernel) rfl dX9_doubt_9 ?_
  refine x_iload_n (pc := 12) hC dX9_doubt_12 rfl rfl ?_
  obtain ⟨hb4, h⟩ := jck_some h
  refine x_aald14 (pc := 13) hC (ko1_7 hk3) hb4 rfl dX9_doubt_13 ?_
  refine x_aloadA_n (pc := 14) hC dX9_doubt_14 rfl rfl k_1 (by decide) ?_
  refine x_gr (pc := 15) (ji := 3) hC fl_X9_23 rfl ft9_3 k_1 dX9_doubt_15 ?_
  refine x_gi (pc := 18) (ji := 0) hC fl_X9_295 rfl fn1_0 hk3 dX9_doubt_18 ?_
  obtain ⟨v6, e5, h⟩ := jbR_some h
  refine x_cV (pc := 21) hC mv_X9_333 (ok_X6_widest hn (jsk (ko1_7 hk3) hb4.1 hb4.2) e5) rfl (Nat.le_of_ble_eq_true rfl) (jsk (ko1_7 hk3) hb4.1 hb4.2) rfl (by decide) (jRoT hR (Nat.le_of_ble_eq_true rfl) (Nat.le_of_ble_eq_true rfl)) (Nat.le_of_ble_eq_true rfl) dX9_doubt_21 rfl ?_
  exact x_iretT (pc := 24) hC hR dX9_doubt_24 (Nat.le_of_ble_eq_true rfl) (Nat.le_of_ble_eq_true rfl) (jr1 h) (jr2 h) rfl

set_option maxHeartbeats 4000000 in
set_option maxRecDepth 20000 in
theorem ok_X9_clean {X : jX} {n : Nat} (hn : 179 ≤ n) {l1 : Int} {M : jM} {cz : Int} {rz : Int} {Mz : jM} (h : f_X9_clean l1 M = some (cz, rz, Mz)) : jCtT X n yX9_clean cX9_clean 3 (some .int) 7 1 [jA 1, jI l1] M cz (some (jI rz)) Mz := by
  refine jCtT_of (own := RX9) (ls := [jA 1, jI l1, jN]) (by decide +kernel) rfl hn (Nat.le_of_ble_eq_true rfl) rfl ?_
  intro C hC hR
  unfold f_X9_clean at h
  refine x_aloadA_n (pc := 0) hC dX9_clean_0 rfl rfl k_1 (by decide) ?_
  refine x_iload_n (pc := 1) hC dX9_clean_1 rfl rfl ?_
  obtain ⟨c1, e2, h⟩ := jbR_some h
  refine x_cVT (pc := 2) hC hR mv_X9_89 (jTB_mem wm_1052 rfl) (ok_X9_wantSkater hn e2) rfl (Nat.le_of_ble_eq_true rfl) k_1 rfl (by decide) (Nat.le_of_ble_eq_true rfl) (Nat.le_of_ble_eq_true rfl) (Nat.le_of_ble_eq_true rfl) dX9_clean_2 rfl (fun hc => have h := jit_neg hc h; ⟨(jr1 h), (jt3 h)⟩) (kc2 := 1) (ks2 := 6) rfl rfl (fun hc => ?_)
  replace h := jit_pos hc h
  refine x_aloadA_n (pc := 5) hC dX9_clean_5 rfl rfl k_1 (by decide) ?_
  refine x_gf (pc := 6) (b := 110) hC fl_X9_44 ft9_6 k_1 (by decide) (off := 109) (by decide +kernel) (by decide) dX9_clean_6 ?_
  refine x_gf (pc := 9) (b := 111) hC fl_X9_336 ft7_1 k_110 (by decide) (off := 1) (by decide +kernel) (by decide) dX9_clean_9 ?_
  refine x_iload_n (pc := 12) hC dX9_clean_12 rfl rfl ?_
  obtain ⟨hb3, h⟩ := jck_some h
  refine x_aald15 (pc := 13) hC k_111 hb3 rfl dX9_clean_13 ?_
  refine x_astoreA_n (ls2 := [jA 1, jI l1, jA (111 + 6 + 7 * jw l1)]) (pc := 14) hC dX9_clean_14 rfl (by decide) rfl (jta k_111 hb3.1 hb3.2) (by decide) rfl ?_
  refine x_aloadA_n (pc := 15) hC dX9_clean_15 rfl rfl (jta k_111 hb3.1 hb3.2) (by decide) ?_
  refine x_aloadA_n (pc := 16) hC dX9_clean_16 rfl rfl k_1 (by decide) ?_
  obtain ⟨hk4, h⟩ := jck_some h
  refine x_gr (pc := 17) (ji := 3) hC fl_X9_23 rfl ft9_3 k_1 dX9_clean_17 ?_
  refine x_iload_n (pc := 20) hC dX9_clean_20 rfl rfl ?_
  refine x_sipush (pc := 21) hC dX9_clean_21 rfl ?_
  refine x_iconst (pc := 24) hC dX9_clean_24 ?_
  obtain ⟨M6, e5, h⟩ := jbV_some h
  refine x_cV (pc := 25) hC mv_X9_340 (ok_X8_weigh hn (jta k_111 hb3.1 hb3.2) hk4 e5) rfl (Nat.le_of_ble_eq_true rfl) (jta k_111 hb3.1 hb3.2) rfl (by decide) (jRoT hR (Nat.le_of_ble_eq_true rfl) (Nat.le_of_ble_eq_true rfl)) (Nat.le_of_ble_eq_true rfl) dX9_clean_25 rfl ?_
  refine x_aloadA_n (pc := 28) hC dX9_clean_28 rfl rfl (jta k_111 hb3.1 hb3.2) (by decide) ?_
  refine x_gi (pc := 29) (ji := 8) hC fl_X9_199 rfl fn8_8 (jta k_111 hb3.1 hb3.2) dX9_clean_29 ?_
  exact x_iretT (pc := 32) hC hR dX9_clean_32 (Nat.le_of_ble_eq_true rfl) (Nat.le_of_ble_eq_true rfl) (jr1 h) (jt2 h) (jt3 h)

set_option maxHeartbeats 4000000 in
set_option maxRecDepth 20000 in
theorem ok_X9_write {X : jX} {n : Nat} (hn : 179 ≤ n) {l1 : Int} {M : jM} {cz : Int} {rz : Int} {Mz : jM} (h : f_X9_write l1 M = some (cz, rz, Mz)) : jCtT X n yX9_write cX9_write 2 (some .int) 7 1 [jA 1, jI l1] M cz (some (jI rz)) Mz := by
  refine jCtT_of (own := RX9) (ls := [jA 1, jI l1]) (by decide +kernel) rfl hn (Nat.le_of_ble_eq_true rfl) rfl ?_
  intro C hC hR
  unfold f_X9_write at h
  refine x_aloadA_n (pc := 0) hC dX9_write_0 rfl rfl k_1 (by decide) ?_
  refine x_iload_n (pc := 1) hC dX9_write_1 rfl rfl ?_
  obtain ⟨c1, e2, h⟩ := jbR_some h
  refine x_cVT (pc := 2) hC hR mv_X9_89 (jTB_mem wm_1052 rfl) (ok_X9_wantSkater hn e2) rfl (Nat.le_of_ble_eq_true rfl) k_1 rfl (by decide) (Nat.le_of_ble_eq_true rfl) (Nat.le_of_ble_eq_true rfl) (Nat.le_of_ble_eq_true rfl) dX9_write_2 rfl (fun hc => have h := jit_neg hc h; ⟨(jr1 h), (jt3 h)⟩) (kc2 := 1) (ks2 := 6) rfl rfl (fun hc => ?_)
  replace h := jit_pos hc h
  refine x_aloadA_n (pc := 5) hC dX9_write_5 rfl rfl k_1 (by decide) ?_
  refine x_gf (pc := 6) (b := 164) hC fl_X9_58 ft9_8 k_1 (by decide) (off := 163) (by decide +kernel) (by decide) dX9_write_6 ?_
  refine x_aloadA_n (pc := 9) hC dX9_write_9 rfl rfl k_1 (by decide) ?_
  obtain ⟨hk3, h⟩ := jck_some h
  refine x_gr (pc := 10) (ji := 3) hC fl_X9_23 rfl ft9_3 k_1 dX9_write_10 ?_
  refine x_iload_n (pc := 13) hC dX9_write_13 rfl rfl ?_
  refine x_aloadA_n (pc := 14) hC dX9_write_14 rfl rfl k_1 (by decide) ?_
  refine x_iload_n (pc := 15) hC dX9_write_15 rfl rfl ?_
  obtain ⟨v6, M5, e4, h⟩ := jbW_some h
  refine x_cV (pc := 16) hC mv_X9_121 (ok_X9_tallied hn e4) rfl (Nat.le_of_ble_eq_true rfl) k_1 rfl (by decide) (jRoT hR (Nat.le_of_ble_eq_true rfl) (Nat.le_of_ble_eq_true rfl)) (Nat.le_of_ble_eq_true rfl) dX9_write_16 rfl ?_
  obtain ⟨hk7, h⟩ := jck_some h
  obtain ⟨M9, e8, h⟩ := jbV_some h
  refine x_cV (pc := 19) hC mv_X9_343 (ok_X3_putSkater hn hk3 hk7 e8) rfl (Nat.le_of_ble_eq_true rfl) k_164 rfl (by decide) (jRoT hR (Nat.le_of_ble_eq_true rfl) (Nat.le_of_ble_eq_true rfl)) (Nat.le_of_ble_eq_true rfl) dX9_write_19 rfl ?_
  refine x_aloadA_n (pc := 22) hC dX9_write_22 rfl rfl k_1 (by decide) ?_
  refine x_gf (pc := 23) (b := 164) hC fl_X9_58 ft9_8 k_1 (by decide) (off := 163) (by decide +kernel) (by decide) dX9_write_23 ?_
  refine x_gi (pc := 26) (ji := 1) hC fl_X9_347 rfl fn3_1 k_164 dX9_write_26 ?_
  exact x_iretT (pc := 29) hC hR dX9_write_29 (Nat.le_of_ble_eq_true rfl) (Nat.le_of_ble_eq_true rfl) (jr1 h) (jt2 h) (jt3 h)

set_option maxHeartbeats 4000000 in
set_option maxRecDepth 20000 in
theorem ok_X10_fact {X : jX} {n : Nat} (hn : 179 ≤ n) {M : jM} {Mz : jM} (h : f_X10_fact M = some Mz) : jCt X n yX10_fact cX10_fact 2 (none) 31 [jA 166] M (none) Mz := by
  refine jCt_of (own := RX10) (ls := [jA 166, jN]) (by decide +kernel) rfl hn (Nat.le_of_ble_eq_true rfl) rfl ?_
  intro C hC hR
  unfold f_X10_fact at h
  refine x_aloadA_n (pc := 0) hC dX10_fact_0 rfl rfl k_166 (by decide) ?_
  obtain ⟨M2, e1, h⟩ := jbV_some h
  refine x_cV (pc := 1) hC mv_X10_151 (ok_X10_sum hn e1) rfl (Nat.le_of_ble_eq_true rfl) k_166 rfl (by decide) (jRo0 C) (Nat.le_of_ble_eq_true rfl) dX10_fact_1 rfl ?_
  refine x_aloadA_n (pc := 4) hC dX10_fact_4 rfl rfl k_166 (by decide) ?_
  obtain ⟨M4, e3, h⟩ := jbV_some h
  refine x_cV (pc := 5) hC mv_X10_34 (ok_X10_blanks hn e3) rfl (Nat.le_of_ble_eq_true rfl) k_166 rfl (by decide) (jRo0 C) (Nat.le_of_ble_eq_true rfl) dX10_fact_5 rfl ?_
  refine x_aloadA_n (pc := 8) hC dX10_fact_8 rfl rfl k_166 (by decide) ?_
  refine x_gi (pc := 9) (ji := 4) hC fl_X10_21 rfl fn10_4 k_166 dX10_fact_9 ?_
  refine x_aloadA_n (pc := 12) hC dX10_fact_12 rfl rfl k_166 (by decide) ?_
  refine x_gi (pc := 13) (ji := 6) hC fl_X10_24 rfl fn10_6 k_166 dX10_fact_13 ?_
  obtain ⟨k6, Hk6, h⟩ := jk_some (P := fun k6 => ∀ (s0_5 : Int), k6 s0_5 = some Mz → jG C X n 2 0 0 32 [jA 166, jN] [jI s0_5] M4) h (by
    intro s0_5 h
    refine x_istore_n (ls2 := [jA 166, jI s0_5]) (pc := 32) hC dX10_fact_32 rfl (by decide) rfl rfl rfl ?_
    refine x_aloadA_n (pc := 33) hC dX10_fact_33 rfl rfl k_166 (by decide) ?_
    obtain ⟨v8, e7, h⟩ := jbR_some h
    refine x_cV (pc := 34) hC mv_X10_38 (ok_X10_hasFailed hn e7) rfl (Nat.le_of_ble_eq_true rfl) k_166 rfl (by decide) (jRo0 C) (Nat.le_of_ble_eq_true rfl) dX10_fact_34 rfl ?_
    obtain ⟨k9, Hk9, h⟩ := jk_some (P := fun k9 => k9 = some Mz → jG C X n 2 0 0 58 [jA 166, jI s0_5] [] M4) h (by
      intro h
      refine x_aloadA_n (pc := 58) hC dX10_fact_58 rfl rfl k_166 (by decide) ?_
      obtain ⟨M11, e10, h⟩ := jbV_some h
      refine x_cV (pc := 59) hC mv_X10_49 (ok_X10_fails hn e10) rfl (Nat.le_of_ble_eq_true rfl) k_166 rfl (by decide) (jRo0 C) (Nat.le_of_ble_eq_true rfl) dX10_fact_59 rfl ?_
      exact x_vret (pc := 62) hC hR dX10_fact_62 (jrR h))
    refine x_if_ne (tgt := 58) (pc := 37) hC dX10_fact_37 (by decide) (fun hc => ?_) (fun hc => ?_)
    · replace h := jit_neg hc h
      exact Hk9 h
    · replace h := jit_pos hc h
      refine x_iload_n (pc := 40) hC dX10_fact_40 rfl rfl ?_
      refine x_bipush (pc := 41) hC dX10_fact_41 rfl ?_
      obtain ⟨k12, Hk12, h⟩ := jk_some (P := fun k12 => k12 = some Mz → jG C X n 2 0 0 63 [jA 166, jI s0_5] [] M4) h (by
        intro h
        refine x_aloadA_n (pc := 63) hC dX10_fact_63 rfl rfl k_166 (by decide) ?_
        refine x_dup (pc := 64) hC dX10_fact_64 (show (2 : Nat) ≠ 3 by decide) ?_
        refine x_gi (pc := 65) (ji := 4) hC fl_X10_21 rfl fn10_4 k_166 dX10_fact_65 ?_
        refine x_iconst (pc := 68) hC dX10_fact_68 ?_
        refine x_iadd (pc := 69) hC dX10_fact_69 ?_
        obtain ⟨M13, eM13, h⟩ := jlet_some h
        refine x_pi (pc := 70) (ji := 4) hC fl_X10_21 rfl ft10_4 k_166 dX10_fact_70 eM13 ?_
        refine x_aloadA_n (pc := 73) hC dX10_fact_73 rfl rfl k_166 (by decide) ?_
        obtain ⟨M15, e14, h⟩ := jbV_some h
        refine x_cV (pc := 74) hC mv_X10_151 (ok_X10_sum hn e14) rfl (Nat.le_of_ble_eq_true rfl) k_166 rfl (by decide) (jRo0 C) (Nat.le_of_ble_eq_true rfl) dX10_fact_74 rfl ?_
        refine x_aloadA_n (pc := 77) hC dX10_fact_77 rfl rfl k_166 (by decide) ?_
        refine x_iload_n (pc := 78) hC dX10_fact_78 rfl rfl ?_
        refine x_bipush (pc := 79) hC dX10_fact_79 rfl ?_
        obtain ⟨k17, Hk17, h⟩ := jk_some (P := fun k17 => ∀ (s1_16 : Int), k17 s1_16 = some Mz → jG C X n 2 0 0 105 [jA 166, jI s0_5] [jI s1_16, jA 166] M15) h (by
          intro s1_16 h
          obtain ⟨M19, e18, h⟩ := jbV_some h
          refine x_cV (pc := 105) hC mv_X10_164 (ok_X10_code hn e18) rfl (Nat.le_of_ble_eq_true rfl) k_166 rfl (by decide) (jRo0 C) (Nat.le_of_ble_eq_true rfl) dX10_fact_105 rfl ?_
          exact x_vret (pc := 108) hC hR dX10_fact_108 (jrR h))
        refine x_icmp_ne (tgt := 90) (pc := 81) hC dX10_fact_81 (by decide) (fun hc => ?_) (fun hc => ?_)
        · replace h := jit_neg hc h
          refine x_iload_n (pc := 90) hC dX10_fact_90 rfl rfl ?_
          refine x_bipush (pc := 91) hC dX10_fact_91 rfl ?_
          refine x_icmp_ne (tgt := 102) (pc := 93) hC dX10_fact_93 (by decide) (fun hc => ?_) (fun hc => ?_)
          · replace h := jit_neg hc h
            refine x_sipush (pc := 102) hC dX10_fact_102 rfl ?_
            exact Hk17 _ h
          · replace h := jit_pos hc h
            refine x_sipush (pc := 96) hC dX10_fact_96 rfl ?_
            refine x_goto (tgt := 105) (pc := 99) hC dX10_fact_99 (by decide) ?_
            exact Hk17 _ h
        · replace h := jit_pos hc h
          refine x_sipush (pc := 84) hC dX10_fact_84 rfl ?_
          refine x_goto (tgt := 105) (pc := 87) hC dX10_fact_87 (by decide) ?_
          exact Hk17 _ h)
      refine x_icmp_eq (tgt := 63) (pc := 43) hC dX10_fact_43 (by decide) (fun hc => ?_) (fun hc => ?_)
      · replace h := jit_pos hc h
        exact Hk12 h
      · replace h := jit_neg hc h
        refine x_iload_n (pc := 46) hC dX10_fact_46 rfl rfl ?_
        refine x_bipush (pc := 47) hC dX10_fact_47 rfl ?_
        refine x_icmp_eq (tgt := 63) (pc := 49) hC dX10_fact_49 (by decide) (fun hc => ?_) (fun hc => ?_)
        · replace h := jit_pos hc h
          exact Hk12 h
        · replace h := jit_neg hc h
          refine x_iload_n (pc := 52) hC dX10_fact_52 rfl rfl ?_
          refine x_bipush (pc := 53) hC dX10_fact_53 rfl ?_
          refine x_icmp_eq (tgt := 63) (pc := 55) hC dX10_fact_55 (by decide) (fun hc => ?_) (fun hc => ?_)
          · replace h := jit_pos hc h
            exact Hk12 h
          · replace h := jit_neg hc h
            exact Hk9 h)
  refine x_icmp_ge (tgt := 31) (pc := 16) hC dX10_fact_16 (by decide) (fun hc => ?_) (fun hc => ?_)
  · replace h := jit_pos hc h
    refine x_iconst (pc := 31) hC dX10_fact_31 ?_
    exact Hk6 _ h
  · replace h := jit_neg hc h
    refine x_aloadA_n (pc := 19) hC dX10_fact_19 rfl rfl k_166 (by decide) ?_
    refine x_gf (pc := 20) (b := 167) hC fl_X10_14 ft10_1 k_166 (by decide) (off := 1) (by decide +kernel) (by decide) dX10_fact_20 ?_
    refine x_aloadA_n (pc := 23) hC dX10_fact_23 rfl rfl k_166 (by decide) ?_
    refine x_gi (pc := 24) (ji := 4) hC fl_X10_21 rfl fn10_4 k_166 dX10_fact_24 ?_
    obtain ⟨hb20, h⟩ := jck_some h
    refine x_bald (pc := 27) hC k_167 (by rw [l_167]; exact hb20) dX10_fact_27 ?_
    refine x_goto (tgt := 32) (pc := 28) hC dX10_fact_28 (by decide) ?_
    exact Hk6 _ h

set_option maxHeartbeats 4000000 in
set_option maxRecDepth 20000 in
theorem ok_X10_part {X : jX} {n : Nat} (hn : 179 ≤ n) {M : jM} {Mz : jM} (h : f_X10_part M = some Mz) : jCt X n yX10_part cX10_part 1 (none) 32 [jA 166] M (none) Mz := by
  refine jCt_of (own := RX10) (ls := [jA 166]) (by decide +kernel) rfl hn (Nat.le_of_ble_eq_true rfl) rfl ?_
  intro C hC hR
  unfold f_X10_part at h
  refine x_aloadA_n (pc := 0) hC dX10_part_0 rfl rfl k_166 (by decide) ?_
  obtain ⟨M2, e1, h⟩ := jbV_some h
  refine x_cV (pc := 1) hC mv_X10_173 (ok_X10_fact hn e1) rfl (Nat.le_of_ble_eq_true rfl) k_166 rfl (by decide) (jRo0 C) (Nat.le_of_ble_eq_true rfl) dX10_part_1 rfl ?_
  refine jlp1_ind (P := fun (M3 : jM) => jG C X n 1 0 0 4 [jA 166] [] M3) ?_ _ _ h
  intro self4 M3 Hself4 h
  refine x_aloadA_n (pc := 4) hC dX10_part_4 rfl rfl k_166 (by decide) ?_
  refine x_ldcS (pc := 5) hC dX10_part_5 sr_49 (q := 49) rfl ?_
  obtain ⟨v7, M6, e5, h⟩ := jbW_some h
  refine x_cV (pc := 7) hC mv_X10_178 (ok_X10_takesWord hn (by decide) e5) rfl (Nat.le_of_ble_eq_true rfl) k_166 rfl (by decide) (jRo0 C) (Nat.le_of_ble_eq_true rfl) dX10_part_7 rfl ?_
  refine x_if_eq (tgt := 27) (pc := 10) hC dX10_part_10 (by decide) (fun hc => ?_) (fun hc => ?_)
  · replace h := jit_pos hc h
    exact x_vret (pc := 27) hC hR dX10_part_27 (jrR h)
  · replace h := jit_neg hc h
    refine x_aloadA_n (pc := 13) hC dX10_part_13 rfl rfl k_166 (by decide) ?_
    obtain ⟨M9, e8, h⟩ := jbV_some h
    refine x_cV (pc := 14) hC mv_X10_173 (ok_X10_fact hn e8) rfl (Nat.le_of_ble_eq_true rfl) k_166 rfl (by decide) (jRo0 C) (Nat.le_of_ble_eq_true rfl) dX10_part_14 rfl ?_
    refine x_aloadA_n (pc := 17) hC dX10_part_17 rfl rfl k_166 (by decide) ?_
    refine x_sipush (pc := 18) hC dX10_part_18 rfl ?_
    obtain ⟨M11, e10, h⟩ := jbV_some h
    refine x_cV (pc := 21) hC mv_X10_164 (ok_X10_code hn e10) rfl (Nat.le_of_ble_eq_true rfl) k_166 rfl (by decide) (jRo0 C) (Nat.le_of_ble_eq_true rfl) dX10_part_21 rfl ?_
    refine x_goto (tgt := 4) (pc := 24) hC dX10_part_24 (by decide) ?_
    exact Hself4 _ h

set_option maxHeartbeats 4000000 in
set_option maxRecDepth 20000 in
theorem ok_X10_test {X : jX} {n : Nat} (hn : 179 ≤ n) {M : jM} {Mz : jM} (h : f_X10_test M = some Mz) : jCt X n yX10_test cX10_test 1 (none) 33 [jA 166] M (none) Mz := by
  refine jCt_of (own := RX10) (ls := [jA 166]) (by decide +kernel) rfl hn (Nat.le_of_ble_eq_true rfl) rfl ?_
  intro C hC hR
  unfold f_X10_test at h
  refine x_aloadA_n (pc := 0) hC dX10_test_0 rfl rfl k_166 (by decide) ?_
  obtain ⟨M2, e1, h⟩ := jbV_some h
  refine x_cV (pc := 1) hC mv_X10_181 (ok_X10_part hn e1) rfl (Nat.le_of_ble_eq_true rfl) k_166 rfl (by decide) (jRo0 C) (Nat.le_of_ble_eq_true rfl) dX10_test_1 rfl ?_
  refine jlp1_ind (P := fun (M3 : jM) => jG C X n 1 0 0 4 [jA 166] [] M3) ?_ _ _ h
  intro self4 M3 Hself4 h
  refine x_aloadA_n (pc := 4) hC dX10_test_4 rfl rfl k_166 (by decide) ?_
  refine x_ldcS (pc := 5) hC dX10_test_5 sr_50 (q := 50) rfl ?_
  obtain ⟨v7, M6, e5, h⟩ := jbW_some h
  refine x_cV (pc := 7) hC mv_X10_178 (ok_X10_takesWord hn (by decide) e5) rfl (Nat.le_of_ble_eq_true rfl) k_166 rfl (by decide) (jRo0 C) (Nat.le_of_ble_eq_true rfl) dX10_test_7 rfl ?_
  refine x_if_eq (tgt := 27) (pc := 10) hC dX10_test_10 (by decide) (fun hc => ?_) (fun hc => ?_)
  · replace h := jit_pos hc h
    exact x_vret (pc := 27) hC hR dX10_test_27 (jrR h)
  · replace h := jit_neg hc h
    refine x_aloadA_n (pc := 13) hC dX10_test_13 rfl rfl k_166 (by decide) ?_
    obtain ⟨M9, e8, h⟩ := jbV_some h
    refine x_cV (pc := 14) hC mv_X10_181 (ok_X10_part hn e8) rfl (Nat.le_of_ble_eq_true rfl) k_166 rfl (by decide) (jRo0 C) (Nat.le_of_ble_eq_true rfl) dX10_test_14 rfl ?_
    refine x_aloadA_n (pc := 17) hC dX10_test_17 rfl rfl k_166 (by decide) ?_
    refine x_sipush (pc := 18) hC dX10_test_18 rfl ?_
    obtain ⟨M11, e10, h⟩ := jbV_some h
    refine x_cV (pc := 21) hC mv_X10_164 (ok_X10_code hn e10) rfl (Nat.le_of_ble_eq_true rfl) k_166 rfl (by decide) (jRo0 C) (Nat.le_of_ble_eq_true rfl) dX10_test_21 rfl ?_
    refine x_goto (tgt := 4) (pc := 24) hC dX10_test_24 (by decide) ?_
    exact Hself4 _ h

set_option maxHeartbeats 4000000 in
set_option maxRecDepth 20000 in
theorem ok_X10_ruleLine {X : jX} {n : Nat} (hn : 179 ≤ n) {M : jM} {Mz : jM} (h : f_X10_ruleLine M = some Mz) : jCt X n yX10_ruleLine cX10_ruleLine 1 (none) 34 [jA 166] M (none) Mz := by
  refine jCt_of (own := RX10) (ls := [jA 166]) (by decide +kernel) rfl hn (Nat.le_of_ble_eq_true rfl) rfl ?_
  intro C hC hR
  unfold f_X10_ruleLine at h
  refine x_aloadA_n (pc := 0) hC dX10_ruleLine_0 rfl rfl k_166 (by decide) ?_
  refine x_gf (pc := 1) (b := 171) hC fl_X10_87 ft10_11 k_166 (by decide) (off := 5) (by decide +kernel) (by decide) dX10_ruleLine_1 ?_
  refine x_sipush (pc := 4) hC dX10_ruleLine_4 rfl ?_
  refine x_aloadA_n (pc := 7) hC dX10_ruleLine_7 rfl rfl k_166 (by decide) ?_
  refine x_gf (pc := 8) (b := 171) hC fl_X10_87 ft10_11 k_166 (by decide) (off := 5) (by decide +kernel) (by decide) dX10_ruleLine_8 ?_
  refine x_iconst (pc := 11) hC dX10_ruleLine_11 ?_
  obtain ⟨hb1, h⟩ := jck_some h
  refine x_iald (pc := 12) hC k_171 (by rw [l_171]; exact hb1) dX10_ruleLine_12 ?_
  refine x_iadd (pc := 13) hC dX10_ruleLine_13 ?_
  refine x_iconst (pc := 14) hC dX10_ruleLine_14 ?_
  refine x_iadd (pc := 15) hC dX10_ruleLine_15 ?_
  refine x_aloadA_n (pc := 16) hC dX10_ruleLine_16 rfl rfl k_166 (by decide) ?_
  refine x_gf (pc := 17) (b := 171) hC fl_X10_87 ft10_11 k_166 (by decide) (off := 5) (by decide +kernel) (by decide) dX10_ruleLine_17 ?_
  refine x_sipush (pc := 20) hC dX10_ruleLine_20 rfl ?_
  refine x_aloadA_n (pc := 23) hC dX10_ruleLine_23 rfl rfl k_166 (by decide) ?_
  refine x_gf (pc := 24) (b := 171) hC fl_X10_87 ft10_11 k_166 (by decide) (off := 5) (by decide +kernel) (by decide) dX10_ruleLine_24 ?_
  refine x_iconst (pc := 27) hC dX10_ruleLine_27 ?_
  obtain ⟨hb2, h⟩ := jck_some h
  refine x_iald (pc := 28) hC k_171 (by rw [l_171]; exact hb2) dX10_ruleLine_28 ?_
  refine x_iadd (pc := 29) hC dX10_ruleLine_29 ?_
  obtain ⟨hb3, h⟩ := jck_some h
  refine x_iald (pc := 30) hC k_171 (by rw [l_171]; exact hb3) dX10_ruleLine_30 ?_
  obtain ⟨hb4, h⟩ := jck_some h
  obtain ⟨M5, eM5, h⟩ := jlet_some h
  refine x_iast (pc := 31) hC k_171 (by rw [l_171]; exact hb4) dX10_ruleLine_31 eM5 ?_
  refine x_aloadA_n (pc := 32) hC dX10_ruleLine_32 rfl rfl k_166 (by decide) ?_
  obtain ⟨M7, e6, h⟩ := jbV_some h
  refine x_cV (pc := 33) hC mv_X10_151 (ok_X10_sum hn e6) rfl (Nat.le_of_ble_eq_true rfl) k_166 rfl (by decide) (jRo0 C) (Nat.le_of_ble_eq_true rfl) dX10_ruleLine_33 rfl ?_
  refine x_aloadA_n (pc := 36) hC dX10_ruleLine_36 rfl rfl k_166 (by decide) ?_
  refine x_ldcS (pc := 37) hC dX10_ruleLine_37 sr_48 (q := 48) rfl ?_
  obtain ⟨v10, M9, e8, h⟩ := jbW_some h
  refine x_cV (pc := 39) hC mv_X10_178 (ok_X10_takesWord hn (by decide) e8) rfl (Nat.le_of_ble_eq_true rfl) k_166 rfl (by decide) (jRo0 C) (Nat.le_of_ble_eq_true rfl) dX10_ruleLine_39 rfl ?_
  obtain ⟨k12, Hk12, h⟩ := jk_some (P := fun k12 => ∀ (M11 : jM), k12 M11 = some Mz → jG C X n 1 0 0 56 [jA 166] [] M11) h (by
    intro M11 h
    refine x_aloadA_n (pc := 56) hC dX10_ruleLine_56 rfl rfl k_166 (by decide) ?_
    refine x_gf (pc := 57) (b := 171) hC fl_X10_87 ft10_11 k_166 (by decide) (off := 5) (by decide +kernel) (by decide) dX10_ruleLine_57 ?_
    refine x_iconst (pc := 60) hC dX10_ruleLine_60 ?_
    refine x_dup2 (pc := 61) hC dX10_ruleLine_61 (show (1 : Nat) ≠ 3 by decide) (show (2 : Nat) ≠ 3 by decide) ?_
    obtain ⟨hb13, h⟩ := jck_some h
    refine x_iald (pc := 62) hC k_171 (by rw [l_171]; exact hb13) dX10_ruleLine_62 ?_
    refine x_iconst (pc := 63) hC dX10_ruleLine_63 ?_
    refine x_iadd (pc := 64) hC dX10_ruleLine_64 ?_
    obtain ⟨hb14, h⟩ := jck_some h
    obtain ⟨M15, eM15, h⟩ := jlet_some h
    refine x_iast (pc := 65) hC k_171 (by rw [l_171]; exact hb14) dX10_ruleLine_65 eM15 ?_
    exact x_vret (pc := 66) hC hR dX10_ruleLine_66 (jrR h))
  refine x_if_eq (tgt := 56) (pc := 42) hC dX10_ruleLine_42 (by decide) (fun hc => ?_) (fun hc => ?_)
  · replace h := jit_pos hc h
    exact Hk12 _ h
  · replace h := jit_neg hc h
    refine x_aloadA_n (pc := 45) hC dX10_ruleLine_45 rfl rfl k_166 (by decide) ?_
    obtain ⟨M17, e16, h⟩ := jbV_some h
    refine x_cV (pc := 46) hC mv_X10_188 (ok_X10_test hn e16) rfl (Nat.le_of_ble_eq_true rfl) k_166 rfl (by decide) (jRo0 C) (Nat.le_of_ble_eq_true rfl) dX10_ruleLine_46 rfl ?_
    refine x_aloadA_n (pc := 49) hC dX10_ruleLine_49 rfl rfl k_166 (by decide) ?_
    refine x_sipush (pc := 50) hC dX10_ruleLine_50 rfl ?_
    obtain ⟨M19, e18, h⟩ := jbV_some h
    refine x_cV (pc := 53) hC mv_X10_164 (ok_X10_code hn e18) rfl (Nat.le_of_ble_eq_true rfl) k_166 rfl (by decide) (jRo0 C) (Nat.le_of_ble_eq_true rfl) dX10_ruleLine_53 rfl ?_
    exact Hk12 _ h

set_option maxHeartbeats 4000000 in
set_option maxRecDepth 20000 in
theorem ok_X10_line {X : jX} {n : Nat} (hn : 179 ≤ n) {M : jM} {Mz : jM} (h : f_X10_line M = some Mz) : jCt X n yX10_line cX10_line 4 (none) 35 [jA 166] M (none) Mz := by
  refine jCt_of (own := RX10) (ls := [jA 166, jN, jN, jN]) (by decide +kernel) rfl hn (Nat.le_of_ble_eq_true rfl) rfl ?_
  intro C hC hR
  unfold f_X10_line at h
  refine x_aloadA_n (pc := 0) hC dX10_line_0 rfl rfl k_166 (by decide) ?_
  obtain ⟨M2, e1, h⟩ := jbV_some h
  refine x_cV (pc := 1) hC mv_X10_34 (ok_X10_blanks hn e1) rfl (Nat.le_of_ble_eq_true rfl) k_166 rfl (by decide) (jRo0 C) (Nat.le_of_ble_eq_true rfl) dX10_line_1 rfl ?_
  refine x_aloadA_n (pc := 4) hC dX10_line_4 rfl rfl k_166 (by decide) ?_
  refine x_gf (pc := 5) (b := 171) hC fl_X10_87 ft10_11 k_166 (by decide) (off := 5) (by decide +kernel) (by decide) dX10_line_5 ?_
  refine x_iconst (pc := 8) hC dX10_line_8 ?_
  obtain ⟨hb3, h⟩ := jck_some h
  refine x_iald (pc := 9) hC k_171 (by rw [l_171]; exact hb3) dX10_line_9 ?_
  refine x_iconst (pc := 10) hC dX10_line_10 ?_
  refine x_isub (pc := 11) hC dX10_line_11 ?_
  obtain ⟨l1_4, el1_4, h⟩ := jlet_some h
  refine x_istore_n (ls2 := [jA 166, jI l1_4, jN, jN]) (pc := 12) hC dX10_line_12 rfl (by decide) rfl el1_4 rfl ?_
  refine x_iload_n (pc := 13) hC dX10_line_13 rfl rfl ?_
  obtain ⟨k6, Hk6, h⟩ := jk_some (P := fun k6 => ∀ (s0_5 : Int), k6 s0_5 = some Mz → jG C X n 4 0 0 22 [jA 166, jI l1_4, jN, jN] [jI s0_5] M2) h (by
    intro s0_5 h
    refine x_istore_n (ls2 := [jA 166, jI l1_4, jI s0_5, jN]) (pc := 22) hC dX10_line_22 rfl (by decide) rfl rfl rfl ?_
    refine x_aloadA_n (pc := 23) hC dX10_line_23 rfl rfl k_166 (by decide) ?_
    refine x_ldcS (pc := 24) hC dX10_line_24 sr_29 (q := 29) rfl ?_
    refine x_aloadA_n (pc := 26) hC dX10_line_26 rfl rfl k_166 (by decide) ?_
    refine x_gf (pc := 27) (b := 171) hC fl_X10_87 ft10_11 k_166 (by decide) (off := 5) (by decide +kernel) (by decide) dX10_line_27 ?_
    refine x_iconst (pc := 30) hC dX10_line_30 ?_
    obtain ⟨hb7, h⟩ := jck_some h
    refine x_iald (pc := 31) hC k_171 (by rw [l_171]; exact hb7) dX10_line_31 ?_
    refine x_bipush (pc := 32) hC dX10_line_32 rfl ?_
    obtain ⟨k9, Hk9, h⟩ := jk_some (P := fun k9 => ∀ (s2_8 : Int), k9 s2_8 = some Mz → jG C X n 4 0 0 42 [jA 166, jI l1_4, jI s0_5, jN] [jI s2_8, jS 29, jA 166] M2) h (by
      intro s2_8 h
      obtain ⟨v12, M11, e10, h⟩ := jbW_some h
      refine x_cV (pc := 42) hC mv_X10_227 (ok_X10_begins hn (by decide) e10) rfl (Nat.le_of_ble_eq_true rfl) k_166 rfl (by decide) (jRo0 C) (Nat.le_of_ble_eq_true rfl) dX10_line_42 rfl ?_
      obtain ⟨k14, Hk14, h⟩ := jk_some (P := fun k14 => ∀ (M13 : jM), k14 M13 = some Mz → jG C X n 4 0 0 480 [jA 166, jI l1_4, jI s0_5, jN] [] M13) h (by
        intro M13 h
        refine x_aloadA_n (pc := 480) hC dX10_line_480 rfl rfl k_166 (by decide) ?_
        refine x_bipush (pc := 481) hC dX10_line_481 rfl ?_
        obtain ⟨M16, e15, h⟩ := jbV_some h
        refine x_cV (pc := 483) hC mv_X10_154 (ok_X10_asksSign hn e15) rfl (Nat.le_of_ble_eq_true rfl) k_166 rfl (by decide) (jRo0 C) (Nat.le_of_ble_eq_true rfl) dX10_line_483 rfl ?_
        exact x_vret (pc := 486) hC hR dX10_line_486 (jrR h))
      refine x_if_eq (tgt := 62) (pc := 45) hC dX10_line_45 (by decide) (fun hc => ?_) (fun hc => ?_)
      · replace h := jit_pos hc h
        refine x_aloadA_n (pc := 62) hC dX10_line_62 rfl rfl k_166 (by decide) ?_
        refine x_ldcS (pc := 63) hC dX10_line_63 sr_33 (q := 33) rfl ?_
        refine x_aloadA_n (pc := 65) hC dX10_line_65 rfl rfl k_166 (by decide) ?_
        refine x_gi (pc := 66) (ji := 14) hC fl_X10_215 rfl fn10_14 k_166 dX10_line_66 ?_
        obtain ⟨k18, Hk18, h⟩ := jk_some (P := fun k18 => ∀ (s2_17 : Int), k18 s2_17 = some Mz → jG C X n 4 0 0 77 [jA 166, jI l1_4, jI s0_5, jN] [jI s2_17, jS 33, jA 166] M11) h (by
          intro s2_17 h
          obtain ⟨v21, M20, e19, h⟩ := jbW_some h
          refine x_cV (pc := 77) hC mv_X10_227 (ok_X10_begins hn (by decide) e19) rfl (Nat.le_of_ble_eq_true rfl) k_166 rfl (by decide) (jRo0 C) (Nat.le_of_ble_eq_true rfl) dX10_line_77 rfl ?_
          refine x_if_eq (tgt := 99) (pc := 80) hC dX10_line_80 (by decide) (fun hc => ?_) (fun hc => ?_)
          · replace h := jit_pos hc h
            refine x_aloadA_n (pc := 99) hC dX10_line_99 rfl rfl k_166 (by decide) ?_
            refine x_ldcS (pc := 100) hC dX10_line_100 sr_34 (q := 34) rfl ?_
            obtain ⟨v24, M23, e22, h⟩ := jbW_some h
            refine x_cV (pc := 102) hC mv_X10_178 (ok_X10_takesWord hn (by decide) e22) rfl (Nat.le_of_ble_eq_true rfl) k_166 rfl (by decide) (jRo0 C) (Nat.le_of_ble_eq_true rfl) dX10_line_102 rfl ?_
            refine x_if_eq (tgt := 125) (pc := 105) hC dX10_line_105 (by decide) (fun hc => ?_) (fun hc => ?_)
            · replace h := jit_pos hc h
              refine x_aloadA_n (pc := 125) hC dX10_line_125 rfl rfl k_166 (by decide) ?_
              refine x_ldcS (pc := 126) hC dX10_line_126 sr_35 (q := 35) rfl ?_
              obtain ⟨v27, M26, e25, h⟩ := jbW_some h
              refine x_cV (pc := 128) hC mv_X10_178 (ok_X10_takesWord hn (by decide) e25) rfl (Nat.le_of_ble_eq_true rfl) k_166 rfl (by decide) (jRo0 C) (Nat.le_of_ble_eq_true rfl) dX10_line_128 rfl ?_
              refine x_if_eq (tgt := 168) (pc := 131) hC dX10_line_131 (by decide) (fun hc => ?_) (fun hc => ?_)
              · replace h := jit_pos hc h
                refine x_aloadA_n (pc := 168) hC dX10_line_168 rfl rfl k_166 (by decide) ?_
                refine x_ldcS (pc := 169) hC dX10_line_169 sr_36 (q := 36) rfl ?_
                obtain ⟨v30, M29, e28, h⟩ := jbW_some h
                refine x_cV (pc := 171) hC mv_X10_178 (ok_X10_takesWord hn (by decide) e28) rfl (Nat.le_of_ble_eq_true rfl) k_166 rfl (by decide) (jRo0 C) (Nat.le_of_ble_eq_true rfl) dX10_line_171 rfl ?_
                refine x_if_eq (tgt := 196) (pc := 174) hC dX10_line_174 (by decide) (fun hc => ?_) (fun hc => ?_)
                · replace h := jit_pos hc h
                  refine x_aloadA_n (pc := 196) hC dX10_line_196 rfl rfl k_166 (by decide) ?_
                  refine x_ldcS (pc := 197) hC dX10_line_197 sr_37 (q := 37) rfl ?_
                  obtain ⟨v33, M32, e31, h⟩ := jbW_some h
                  refine x_cV (pc := 199) hC mv_X10_178 (ok_X10_takesWord hn (by decide) e31) rfl (Nat.le_of_ble_eq_true rfl) k_166 rfl (by decide) (jRo0 C) (Nat.le_of_ble_eq_true rfl) dX10_line_199 rfl ?_
                  refine x_if_eq (tgt := 223) (pc := 202) hC dX10_line_202 (by decide) (fun hc => ?_) (fun hc => ?_)
                  · replace h := jit_pos hc h
                    refine x_aloadA_n (pc := 223) hC dX10_line_223 rfl rfl k_166 (by decide) ?_
                    refine x_ldcS (pc := 224) hC dX10_line_224 sr_38 (q := 38) rfl ?_
                    obtain ⟨v36, M35, e34, h⟩ := jbW_some h
                    refine x_cV (pc := 226) hC mv_X10_178 (ok_X10_takesWord hn (by decide) e34) rfl (Nat.le_of_ble_eq_true rfl) k_166 rfl (by decide) (jRo0 C) (Nat.le_of_ble_eq_true rfl) dX10_line_226 rfl ?_
                    refine x_if_eq (tgt := 249) (pc := 229) hC dX10_line_229 (by decide) (fun hc => ?_) (fun hc => ?_)
                    · replace h := jit_pos hc h
                      refine x_aloadA_n (pc := 249) hC dX10_line_249 rfl rfl k_166 (by decide) ?_
                      refine x_ldcS (pc := 250) hC dX10_line_250 sr_39 (q := 39) rfl ?_
                      refine x_aloadA_n (pc := 252) hC dX10_line_252 rfl rfl k_166 (by decide) ?_
                      refine x_gf (pc := 253) (b := 171) hC fl_X10_87 ft10_11 k_166 (by decide) (off := 5) (by decide +kernel) (by decide) dX10_line_253 ?_
                      refine x_iconst (pc := 256) hC dX10_line_256 ?_
                      obtain ⟨hb37, h⟩ := jck_some h
                      refine x_iald (pc := 257) hC k_171 (by rw [l_171]; exact hb37) dX10_line_257 ?_
                      refine x_bipush (pc := 258) hC dX10_line_258 rfl ?_
                      obtain ⟨k39, Hk39, h⟩ := jk_some (P := fun k39 => ∀ (s2_38 : Int), k39 s2_38 = some Mz → jG C X n 4 0 0 268 [jA 166, jI l1_4, jI s0_5, jN] [jI s2_38, jS 39, jA 166] M35) h (by
                        intro s2_38 h
                        obtain ⟨v42, M41, e40, h⟩ := jbW_some h
                        refine x_cV (pc := 268) hC mv_X10_227 (ok_X10_begins hn (by decide) e40) rfl (Nat.le_of_ble_eq_true rfl) k_166 rfl (by decide) (jRo0 C) (Nat.le_of_ble_eq_true rfl) dX10_line_268 rfl ?_
                        refine x_if_eq (tgt := 288) (pc := 271) hC dX10_line_271 (by decide) (fun hc => ?_) (fun hc => ?_)
                        · replace h := jit_pos hc h
                          refine x_aloadA_n (pc := 288) hC dX10_line_288 rfl rfl k_166 (by decide) ?_
                          refine x_ldcS (pc := 289) hC dX10_line_289 sr_51 (q := 51) rfl ?_
                          refine x_aloadA_n (pc := 291) hC dX10_line_291 rfl rfl k_166 (by decide) ?_
                          refine x_gf (pc := 292) (b := 171) hC fl_X10_87 ft10_11 k_166 (by decide) (off := 5) (by decide +kernel) (by decide) dX10_line_292 ?_
                          refine x_iconst (pc := 295) hC dX10_line_295 ?_
                          obtain ⟨hb43, h⟩ := jck_some h
                          refine x_iald (pc := 296) hC k_171 (by rw [l_171]; exact hb43) dX10_line_296 ?_
                          refine x_bipush (pc := 297) hC dX10_line_297 rfl ?_
                          obtain ⟨k45, Hk45, h⟩ := jk_some (P := fun k45 => ∀ (s2_44 : Int), k45 s2_44 = some Mz → jG C X n 4 0 0 307 [jA 166, jI l1_4, jI s0_5, jN] [jI s2_44, jS 51, jA 166] M41) h (by
                            intro s2_44 h
                            obtain ⟨v48, M47, e46, h⟩ := jbW_some h
                            refine x_cV (pc := 307) hC mv_X10_227 (ok_X10_begins hn (by decide) e46) rfl (Nat.le_of_ble_eq_true rfl) k_166 rfl (by decide) (jRo0 C) (Nat.le_of_ble_eq_true rfl) dX10_line_307 rfl ?_
                            refine x_if_eq (tgt := 338) (pc := 310) hC dX10_line_310 (by decide) (fun hc => ?_) (fun hc => ?_)
                            · replace h := jit_pos hc h
                              refine x_aloadA_n (pc := 338) hC dX10_line_338 rfl rfl k_166 (by decide) ?_
                              refine x_ldcS (pc := 339) hC dX10_line_339 sr_52 (q := 52) rfl ?_
                              refine x_iload_n (pc := 341) hC dX10_line_341 rfl rfl ?_
                              obtain ⟨k50, Hk50, h⟩ := jk_some (P := fun k50 => ∀ (s2_49 : Int), k50 s2_49 = some Mz → jG C X n 4 0 0 368 [jA 166, jI l1_4, jI s0_5, jN] [jI s2_49, jS 52, jA 166] M47) h (by
                                intro s2_49 h
                                obtain ⟨v53, M52, e51, h⟩ := jbW_some h
                                refine x_cV (pc := 368) hC mv_X10_227 (ok_X10_begins hn (by decide) e51) rfl (Nat.le_of_ble_eq_true rfl) k_166 rfl (by decide) (jRo0 C) (Nat.le_of_ble_eq_true rfl) dX10_line_368 rfl ?_
                                refine x_if_eq (tgt := 388) (pc := 371) hC dX10_line_371 (by decide) (fun hc => ?_) (fun hc => ?_)
                                · replace h := jit_pos hc h
                                  refine x_aloadA_n (pc := 388) hC dX10_line_388 rfl rfl k_166 (by decide) ?_
                                  refine x_ldcwS (pc := 389) hC dX10_line_389 sr_56 (q := 56) rfl ?_
                                  refine x_iload_n (pc := 392) hC dX10_line_392 rfl rfl ?_
                                  obtain ⟨v56, M55, e54, h⟩ := jbW_some h
                                  refine x_cV (pc := 393) hC mv_X10_227 (ok_X10_begins hn (by decide) e54) rfl (Nat.le_of_ble_eq_true rfl) k_166 rfl (by decide) (jRo0 C) (Nat.le_of_ble_eq_true rfl) dX10_line_393 rfl ?_
                                  refine x_if_eq (tgt := 441) (pc := 396) hC dX10_line_396 (by decide) (fun hc => ?_) (fun hc => ?_)
                                  · replace h := jit_pos hc h
                                    refine x_aloadA_n (pc := 441) hC dX10_line_441 rfl rfl k_166 (by decide) ?_
                                    refine x_ldcwS (pc := 442) hC dX10_line_442 sr_57 (q := 57) rfl ?_
                                    refine x_iload_n (pc := 445) hC dX10_line_445 rfl rfl ?_
                                    obtain ⟨v59, M58, e57, h⟩ := jbW_some h
                                    refine x_cV (pc := 446) hC mv_X10_227 (ok_X10_begins hn (by decide) e57) rfl (Nat.le_of_ble_eq_true rfl) k_166 rfl (by decide) (jRo0 C) (Nat.le_of_ble_eq_true rfl) dX10_line_446 rfl ?_
                                    refine x_if_eq (tgt := 476) (pc := 449) hC dX10_line_449 (by decide) (fun hc => ?_) (fun hc => ?_)
                                    · replace h := jit_pos hc h
                                      refine x_aloadA_n (pc := 476) hC dX10_line_476 rfl rfl k_166 (by decide) ?_
                                      obtain ⟨M61, e60, h⟩ := jbV_some h
                                      refine x_cV (pc := 477) hC mv_X10_49 (ok_X10_fails hn e60) rfl (Nat.le_of_ble_eq_true rfl) k_166 rfl (by decide) (jRo0 C) (Nat.le_of_ble_eq_true rfl) dX10_line_477 rfl ?_
                                      exact Hk14 _ h
                                    · replace h := jit_neg hc h
                                      refine x_aloadA_n (pc := 452) hC dX10_line_452 rfl rfl k_166 (by decide) ?_
                                      refine x_gf (pc := 453) (b := 171) hC fl_X10_87 ft10_11 k_166 (by decide) (off := 5) (by decide +kernel) (by decide) dX10_line_453 ?_
                                      refine x_bipush (pc := 456) hC dX10_line_456 rfl ?_
                                      refine x_iconst (pc := 458) hC dX10_line_458 ?_
                                      refine x_iload_n (pc := 459) hC dX10_line_459 rfl rfl ?_
                                      obtain ⟨v63, e62, h⟩ := jbR_some h
                                      refine x_cS (pc := 460) hC ms_X10_253 (ok_J9_max_7cf53 hn e62) rfl (Nat.le_of_ble_eq_true rfl) (jRo0 C) (Nat.le_of_ble_eq_true rfl) dX10_line_460 rfl ?_
                                      refine x_iadd (pc := 463) hC dX10_line_463 ?_
                                      refine x_aloadA_n (pc := 464) hC dX10_line_464 rfl rfl k_166 (by decide) ?_
                                      refine x_iconst (pc := 465) hC dX10_line_465 ?_
                                      refine x_sipush (pc := 466) hC dX10_line_466 rfl ?_
                                      obtain ⟨v66, M65, e64, h⟩ := jbW_some h
                                      refine x_cV (pc := 469) hC mv_X10_161 (ok_X10_number hn e64) rfl (Nat.le_of_ble_eq_true rfl) k_166 rfl (by decide) (jRo0 C) (Nat.le_of_ble_eq_true rfl) dX10_line_469 rfl ?_
                                      obtain ⟨hb67, h⟩ := jck_some h
                                      obtain ⟨M68, eM68, h⟩ := jlet_some h
                                      refine x_iast (pc := 472) hC k_171 (by rw [l_171]; exact hb67) dX10_line_472 eM68 ?_
                                      refine x_goto (tgt := 480) (pc := 473) hC dX10_line_473 (by decide) ?_
                                      exact Hk14 _ h
                                  · replace h := jit_neg hc h
                                    refine x_iconst (pc := 399) hC dX10_line_399 ?_
                                    refine x_istore_n (ls2 := [jA 166, jI l1_4, jI s0_5, jI 0]) (pc := 400) hC dX10_line_400 rfl (by decide) rfl rfl rfl ?_
                                    refine jlp2_ind (P := fun (l3_69 : Int) (M70 : jM) => jG C X n 4 0 0 401 [jA 166, jI l1_4, jI s0_5, jI l3_69] [] M70) ?_ _ _ _ h
                                    intro self71 l3_69 M70 Hself71 h
                                    refine x_iload_n (pc := 401) hC dX10_line_401 rfl rfl ?_
                                    refine x_iconst (pc := 402) hC dX10_line_402 ?_
                                    refine x_icmp_ge (tgt := 433) (pc := 403) hC dX10_line_403 (by decide) (fun hc => ?_) (fun hc => ?_)
                                    · replace h := jit_pos hc h
                                      refine x_aloadA_n (pc := 433) hC dX10_line_433 rfl rfl k_166 (by decide) ?_
                                      refine x_iconst (pc := 434) hC dX10_line_434 ?_
                                      obtain ⟨M72, eM72, h⟩ := jlet_some h
                                      refine x_pz (pc := 435) (ji := 14) hC fl_X10_215 rfl ft10_14 (by decide) k_166 dX10_line_435 eM72 ?_
                                      refine x_goto (tgt := 480) (pc := 438) hC dX10_line_438 (by decide) ?_
                                      refine x_kill 3 (ls2 := [jA 166, jI l1_4, jI s0_5, jN]) rfl ?_
                                      exact Hk14 _ h
                                    · replace h := jit_neg hc h
                                      refine x_aloadA_n (pc := 406) hC dX10_line_406 rfl rfl k_166 (by decide) ?_
                                      refine x_sipush (pc := 407) hC dX10_line_407 rfl ?_
                                      refine x_bipush (pc := 410) hC dX10_line_410 rfl ?_
                                      refine x_iconst (pc := 412) hC dX10_line_412 ?_
                                      refine x_iconst (pc := 413) hC dX10_line_413 ?_
                                      refine x_iload_n (pc := 414) hC dX10_line_414 rfl rfl ?_
                                      obtain ⟨v74, e73, h⟩ := jbR_some h
                                      refine x_cS (pc := 415) hC ms_X10_253 (ok_J9_max_7cf53 hn e73) rfl (Nat.le_of_ble_eq_true rfl) (jRo0 C) (Nat.le_of_ble_eq_true rfl) dX10_line_415 rfl ?_
                                      refine x_imul (pc := 418) hC dX10_line_418 ?_
                                      refine x_iload_n (pc := 419) hC dX10_line_419 rfl rfl ?_
                                      refine x_iadd (pc := 420) hC dX10_line_420 ?_
                                      refine x_imul (pc := 421) hC dX10_line_421 ?_
                                      refine x_iadd (pc := 422) hC dX10_line_422 ?_
                                      refine x_iconst (pc := 423) hC dX10_line_423 ?_
                                      obtain ⟨M76, e75, h⟩ := jbV_some h
                                      refine x_cV (pc := 424) hC mv_X10_206 (ok_X10_letters hn e75) rfl (Nat.le_of_ble_eq_true rfl) k_166 rfl (by decide) (jRo0 C) (Nat.le_of_ble_eq_true rfl) dX10_line_424 rfl ?_
                                      obtain ⟨l3_77, el3_77, h⟩ := jlet_some h
                                      refine x_iinc (ls2 := [jA 166, jI l1_4, jI s0_5, jI l3_77]) (pc := 427) hC dX10_line_427 rfl (by decide) rfl el3_77 rfl ?_
                                      refine x_goto (tgt := 401) (pc := 430) hC dX10_line_430 (by decide) ?_
                                      exact Hself71 _ _ h
                                · replace h := jit_neg hc h
                                  refine x_aloadA_n (pc := 374) hC dX10_line_374 rfl rfl k_166 (by decide) ?_
                                  obtain ⟨v79, e78, h⟩ := jbR_some h
                                  refine x_cV (pc := 375) hC mv_X10_38 (ok_X10_hasFailed hn e78) rfl (Nat.le_of_ble_eq_true rfl) k_166 rfl (by decide) (jRo0 C) (Nat.le_of_ble_eq_true rfl) dX10_line_375 rfl ?_
                                  refine x_if_ne (tgt := 480) (pc := 378) hC dX10_line_378 (by decide) (fun hc => ?_) (fun hc => ?_)
                                  · replace h := jit_neg hc h
                                    exact Hk14 _ h
                                  · replace h := jit_pos hc h
                                    refine x_aloadA_n (pc := 381) hC dX10_line_381 rfl rfl k_166 (by decide) ?_
                                    obtain ⟨M81, e80, h⟩ := jbV_some h
                                    refine x_cV (pc := 382) hC mv_X10_258 (ok_X10_doLine hn e80) rfl (Nat.le_of_ble_eq_true rfl) k_166 rfl (by decide) (jRo0 C) (Nat.le_of_ble_eq_true rfl) dX10_line_382 rfl ?_
                                    refine x_goto (tgt := 480) (pc := 385) hC dX10_line_385 (by decide) ?_
                                    exact Hk14 _ h)
                              obtain ⟨k82, Hk82, h⟩ := jk_some (P := fun k82 => k82 = some Mz → jG C X n 4 0 0 367 [jA 166, jI l1_4, jI s0_5, jN] [jS 52, jA 166] M47) h (by
                                intro h
                                refine x_iconst (pc := 367) hC dX10_line_367 ?_
                                exact Hk50 _ h)
                              refine x_if_eq (tgt := 367) (pc := 342) hC dX10_line_342 (by decide) (fun hc => ?_) (fun hc => ?_)
                              · replace h := jit_pos hc h
                                exact Hk82 h
                              · replace h := jit_neg hc h
                                refine x_aloadA_n (pc := 345) hC dX10_line_345 rfl rfl k_166 (by decide) ?_
                                refine x_gf (pc := 346) (b := 171) hC fl_X10_87 ft10_11 k_166 (by decide) (off := 5) (by decide +kernel) (by decide) dX10_line_346 ?_
                                refine x_bipush (pc := 349) hC dX10_line_349 rfl ?_
                                refine x_iconst (pc := 351) hC dX10_line_351 ?_
                                refine x_iload_n (pc := 352) hC dX10_line_352 rfl rfl ?_
                                obtain ⟨v84, e83, h⟩ := jbR_some h
                                refine x_cS (pc := 353) hC ms_X10_253 (ok_J9_max_7cf53 hn e83) rfl (Nat.le_of_ble_eq_true rfl) (jRo0 C) (Nat.le_of_ble_eq_true rfl) dX10_line_353 rfl ?_
                                refine x_iadd (pc := 356) hC dX10_line_356 ?_
                                obtain ⟨hb85, h⟩ := jck_some h
                                refine x_iald (pc := 357) hC k_171 (by rw [l_171]; exact hb85) dX10_line_357 ?_
                                refine x_bipush (pc := 358) hC dX10_line_358 rfl ?_
                                refine x_icmp_ge (tgt := 367) (pc := 360) hC dX10_line_360 (by decide) (fun hc => ?_) (fun hc => ?_)
                                · replace h := jit_pos hc h
                                  exact Hk82 h
                                · replace h := jit_neg hc h
                                  refine x_iconst (pc := 363) hC dX10_line_363 ?_
                                  refine x_goto (tgt := 368) (pc := 364) hC dX10_line_364 (by decide) ?_
                                  exact Hk50 _ h
                            · replace h := jit_neg hc h
                              refine x_aloadA_n (pc := 313) hC dX10_line_313 rfl rfl k_166 (by decide) ?_
                              refine x_bipush (pc := 314) hC dX10_line_314 rfl ?_
                              refine x_aloadA_n (pc := 316) hC dX10_line_316 rfl rfl k_166 (by decide) ?_
                              refine x_gf (pc := 317) (b := 171) hC fl_X10_87 ft10_11 k_166 (by decide) (off := 5) (by decide +kernel) (by decide) dX10_line_317 ?_
                              refine x_iconst (pc := 320) hC dX10_line_320 ?_
                              obtain ⟨hb86, h⟩ := jck_some h
                              refine x_iald (pc := 321) hC k_171 (by rw [l_171]; exact hb86) dX10_line_321 ?_
                              obtain ⟨M88, e87, h⟩ := jbV_some h
                              refine x_cV (pc := 322) hC mv_X10_191 (ok_X10_freshName hn e87) rfl (Nat.le_of_ble_eq_true rfl) k_166 rfl (by decide) (jRo0 C) (Nat.le_of_ble_eq_true rfl) dX10_line_322 rfl ?_
                              refine x_aloadA_n (pc := 325) hC dX10_line_325 rfl rfl k_166 (by decide) ?_
                              refine x_gf (pc := 326) (b := 171) hC fl_X10_87 ft10_11 k_166 (by decide) (off := 5) (by decide +kernel) (by decide) dX10_line_326 ?_
                              refine x_iconst (pc := 329) hC dX10_line_329 ?_
                              refine x_dup2 (pc := 330) hC dX10_line_330 (show (1 : Nat) ≠ 3 by decide) (show (2 : Nat) ≠ 3 by decide) ?_
                              obtain ⟨hb89, h⟩ := jck_some h
                              refine x_iald (pc := 331) hC k_171 (by rw [l_171]; exact hb89) dX10_line_331 ?_
                              refine x_iconst (pc := 332) hC dX10_line_332 ?_
                              refine x_iadd (pc := 333) hC dX10_line_333 ?_
                              obtain ⟨hb90, h⟩ := jck_some h
                              obtain ⟨M91, eM91, h⟩ := jlet_some h
                              refine x_iast (pc := 334) hC k_171 (by rw [l_171]; exact hb90) dX10_line_334 eM91 ?_
                              refine x_goto (tgt := 480) (pc := 335) hC dX10_line_335 (by decide) ?_
                              exact Hk14 _ h)
                          refine x_icmp_ge (tgt := 306) (pc := 299) hC dX10_line_299 (by decide) (fun hc => ?_) (fun hc => ?_)
                          · replace h := jit_pos hc h
                            refine x_iconst (pc := 306) hC dX10_line_306 ?_
                            exact Hk45 _ h
                          · replace h := jit_neg hc h
                            refine x_iconst (pc := 302) hC dX10_line_302 ?_
                            refine x_goto (tgt := 307) (pc := 303) hC dX10_line_303 (by decide) ?_
                            exact Hk45 _ h
                        · replace h := jit_neg hc h
                          refine x_aloadA_n (pc := 274) hC dX10_line_274 rfl rfl k_166 (by decide) ?_
                          obtain ⟨v93, e92, h⟩ := jbR_some h
                          refine x_cV (pc := 275) hC mv_X10_38 (ok_X10_hasFailed hn e92) rfl (Nat.le_of_ble_eq_true rfl) k_166 rfl (by decide) (jRo0 C) (Nat.le_of_ble_eq_true rfl) dX10_line_275 rfl ?_
                          refine x_if_ne (tgt := 480) (pc := 278) hC dX10_line_278 (by decide) (fun hc => ?_) (fun hc => ?_)
                          · replace h := jit_neg hc h
                            exact Hk14 _ h
                          · replace h := jit_pos hc h
                            refine x_aloadA_n (pc := 281) hC dX10_line_281 rfl rfl k_166 (by decide) ?_
                            obtain ⟨M95, e94, h⟩ := jbV_some h
                            refine x_cV (pc := 282) hC mv_X10_246 (ok_X10_ruleLine hn e94) rfl (Nat.le_of_ble_eq_true rfl) k_166 rfl (by decide) (jRo0 C) (Nat.le_of_ble_eq_true rfl) dX10_line_282 rfl ?_
                            refine x_goto (tgt := 480) (pc := 285) hC dX10_line_285 (by decide) ?_
                            exact Hk14 _ h)
                      refine x_icmp_ge (tgt := 267) (pc := 260) hC dX10_line_260 (by decide) (fun hc => ?_) (fun hc => ?_)
                      · replace h := jit_pos hc h
                        refine x_iconst (pc := 267) hC dX10_line_267 ?_
                        exact Hk39 _ h
                      · replace h := jit_neg hc h
                        refine x_iconst (pc := 263) hC dX10_line_263 ?_
                        refine x_goto (tgt := 268) (pc := 264) hC dX10_line_264 (by decide) ?_
                        exact Hk39 _ h
                    · replace h := jit_neg hc h
                      refine x_aloadA_n (pc := 232) hC dX10_line_232 rfl rfl k_166 (by decide) ?_
                      refine x_gf (pc := 233) (b := 172) hC fl_X10_90 ft10_12 k_166 (by decide) (off := 6) (by decide +kernel) (by decide) dX10_line_233 ?_
                      refine x_sipush (pc := 236) hC dX10_line_236 rfl ?_
                      refine x_aloadA_n (pc := 239) hC dX10_line_239 rfl rfl k_166 (by decide) ?_
                      refine x_iconst (pc := 240) hC dX10_line_240 ?_
                      refine x_iconst (pc := 241) hC dX10_line_241 ?_
                      obtain ⟨v98, M97, e96, h⟩ := jbW_some h
                      refine x_cV (pc := 242) hC mv_X10_161 (ok_X10_number hn e96) rfl (Nat.le_of_ble_eq_true rfl) k_166 rfl (by decide) (jRo0 C) (Nat.le_of_ble_eq_true rfl) dX10_line_242 rfl ?_
                      obtain ⟨hb99, h⟩ := jck_some h
                      obtain ⟨M100, eM100, h⟩ := jlet_some h
                      refine x_iast (pc := 245) hC k_172 (by rw [l_172]; exact hb99) dX10_line_245 eM100 ?_
                      refine x_goto (tgt := 480) (pc := 246) hC dX10_line_246 (by decide) ?_
                      exact Hk14 _ h
                  · replace h := jit_neg hc h
                    refine x_aloadA_n (pc := 205) hC dX10_line_205 rfl rfl k_166 (by decide) ?_
                    refine x_gf (pc := 206) (b := 172) hC fl_X10_90 ft10_12 k_166 (by decide) (off := 6) (by decide +kernel) (by decide) dX10_line_206 ?_
                    refine x_sipush (pc := 209) hC dX10_line_209 rfl ?_
                    refine x_aloadA_n (pc := 212) hC dX10_line_212 rfl rfl k_166 (by decide) ?_
                    refine x_iconst (pc := 213) hC dX10_line_213 ?_
                    refine x_bipush (pc := 214) hC dX10_line_214 rfl ?_
                    obtain ⟨v103, M102, e101, h⟩ := jbW_some h
                    refine x_cV (pc := 216) hC mv_X10_161 (ok_X10_number hn e101) rfl (Nat.le_of_ble_eq_true rfl) k_166 rfl (by decide) (jRo0 C) (Nat.le_of_ble_eq_true rfl) dX10_line_216 rfl ?_
                    obtain ⟨hb104, h⟩ := jck_some h
                    obtain ⟨M105, eM105, h⟩ := jlet_some h
                    refine x_iast (pc := 219) hC k_172 (by rw [l_172]; exact hb104) dX10_line_219 eM105 ?_
                    refine x_goto (tgt := 480) (pc := 220) hC dX10_line_220 (by decide) ?_
                    exact Hk14 _ h
                · replace h := jit_neg hc h
                  refine x_aloadA_n (pc := 177) hC dX10_line_177 rfl rfl k_166 (by decide) ?_
                  refine x_gf (pc := 178) (b := 172) hC fl_X10_90 ft10_12 k_166 (by decide) (off := 6) (by decide +kernel) (by decide) dX10_line_178 ?_
                  refine x_sipush (pc := 181) hC dX10_line_181 rfl ?_
                  refine x_aloadA_n (pc := 184) hC dX10_line_184 rfl rfl k_166 (by decide) ?_
                  refine x_iconst (pc := 185) hC dX10_line_185 ?_
                  refine x_sipush (pc := 186) hC dX10_line_186 rfl ?_
                  obtain ⟨v108, M107, e106, h⟩ := jbW_some h
                  refine x_cV (pc := 189) hC mv_X10_161 (ok_X10_number hn e106) rfl (Nat.le_of_ble_eq_true rfl) k_166 rfl (by decide) (jRo0 C) (Nat.le_of_ble_eq_true rfl) dX10_line_189 rfl ?_
                  obtain ⟨hb109, h⟩ := jck_some h
                  obtain ⟨M110, eM110, h⟩ := jlet_some h
                  refine x_iast (pc := 192) hC k_172 (by rw [l_172]; exact hb109) dX10_line_192 eM110 ?_
                  refine x_goto (tgt := 480) (pc := 193) hC dX10_line_193 (by decide) ?_
                  exact Hk14 _ h
              · replace h := jit_neg hc h
                refine x_iconst (pc := 134) hC dX10_line_134 ?_
                refine x_istore_n (ls2 := [jA 166, jI l1_4, jI s0_5, jI 0]) (pc := 135) hC dX10_line_135 rfl (by decide) rfl rfl rfl ?_
                refine jlp2_ind (P := fun (l3_111 : Int) (M112 : jM) => jG C X n 4 0 0 136 [jA 166, jI l1_4, jI s0_5, jI l3_111] [] M112) ?_ _ _ _ h
                intro self113 l3_111 M112 Hself113 h
                refine x_iload_n (pc := 136) hC dX10_line_136 rfl rfl ?_
                refine x_iconst (pc := 137) hC dX10_line_137 ?_
                refine x_icmp_ge (tgt := 165) (pc := 138) hC dX10_line_138 (by decide) (fun hc => ?_) (fun hc => ?_)
                · replace h := jit_pos hc h
                  refine x_goto (tgt := 480) (pc := 165) hC dX10_line_165 (by decide) ?_
                  refine x_kill 3 (ls2 := [jA 166, jI l1_4, jI s0_5, jN]) rfl ?_
                  exact Hk14 _ h
                · replace h := jit_neg hc h
                  refine x_aloadA_n (pc := 141) hC dX10_line_141 rfl rfl k_166 (by decide) ?_
                  refine x_gf (pc := 142) (b := 172) hC fl_X10_90 ft10_12 k_166 (by decide) (off := 6) (by decide +kernel) (by decide) dX10_line_142 ?_
                  refine x_sipush (pc := 145) hC dX10_line_145 rfl ?_
                  refine x_iload_n (pc := 148) hC dX10_line_148 rfl rfl ?_
                  refine x_iadd (pc := 149) hC dX10_line_149 ?_
                  refine x_aloadA_n (pc := 150) hC dX10_line_150 rfl rfl k_166 (by decide) ?_
                  refine x_iconst (pc := 151) hC dX10_line_151 ?_
                  refine x_sipush (pc := 152) hC dX10_line_152 rfl ?_
                  obtain ⟨v116, M115, e114, h⟩ := jbW_some h
                  refine x_cV (pc := 155) hC mv_X10_161 (ok_X10_number hn e114) rfl (Nat.le_of_ble_eq_true rfl) k_166 rfl (by decide) (jRo0 C) (Nat.le_of_ble_eq_true rfl) dX10_line_155 rfl ?_
                  obtain ⟨hb117, h⟩ := jck_some h
                  obtain ⟨M118, eM118, h⟩ := jlet_some h
                  refine x_iast (pc := 158) hC k_172 (by rw [l_172]; exact hb117) dX10_line_158 eM118 ?_
                  obtain ⟨l3_119, el3_119, h⟩ := jlet_some h
                  refine x_iinc (ls2 := [jA 166, jI l1_4, jI s0_5, jI l3_119]) (pc := 159) hC dX10_line_159 rfl (by decide) rfl el3_119 rfl ?_
                  refine x_goto (tgt := 136) (pc := 162) hC dX10_line_162 (by decide) ?_
                  exact Hself113 _ _ h
            · replace h := jit_neg hc h
              refine x_aloadA_n (pc := 108) hC dX10_line_108 rfl rfl k_166 (by decide) ?_
              refine x_gf (pc := 109) (b := 172) hC fl_X10_90 ft10_12 k_166 (by decide) (off := 6) (by decide +kernel) (by decide) dX10_line_109 ?_
              refine x_sipush (pc := 112) hC dX10_line_112 rfl ?_
              refine x_aloadA_n (pc := 115) hC dX10_line_115 rfl rfl k_166 (by decide) ?_
              refine x_iconst (pc := 116) hC dX10_line_116 ?_
              refine x_iconst (pc := 117) hC dX10_line_117 ?_
              obtain ⟨v122, M121, e120, h⟩ := jbW_some h
              refine x_cV (pc := 118) hC mv_X10_161 (ok_X10_number hn e120) rfl (Nat.le_of_ble_eq_true rfl) k_166 rfl (by decide) (jRo0 C) (Nat.le_of_ble_eq_true rfl) dX10_line_118 rfl ?_
              obtain ⟨hb123, h⟩ := jck_some h
              obtain ⟨M124, eM124, h⟩ := jlet_some h
              refine x_iast (pc := 121) hC k_172 (by rw [l_172]; exact hb123) dX10_line_121 eM124 ?_
              refine x_goto (tgt := 480) (pc := 122) hC dX10_line_122 (by decide) ?_
              exact Hk14 _ h
          · replace h := jit_neg hc h
            refine x_aloadA_n (pc := 83) hC dX10_line_83 rfl rfl k_166 (by decide) ?_
            refine x_gf (pc := 84) (b := 171) hC fl_X10_87 ft10_11 k_166 (by decide) (off := 5) (by decide +kernel) (by decide) dX10_line_84 ?_
            refine x_iconst (pc := 87) hC dX10_line_87 ?_
            refine x_aloadA_n (pc := 88) hC dX10_line_88 rfl rfl k_166 (by decide) ?_
            refine x_iconst (pc := 89) hC dX10_line_89 ?_
            refine x_bipush (pc := 90) hC dX10_line_90 rfl ?_
            obtain ⟨v127, M126, e125, h⟩ := jbW_some h
            refine x_cV (pc := 92) hC mv_X10_161 (ok_X10_number hn e125) rfl (Nat.le_of_ble_eq_true rfl) k_166 rfl (by decide) (jRo0 C) (Nat.le_of_ble_eq_true rfl) dX10_line_92 rfl ?_
            obtain ⟨hb128, h⟩ := jck_some h
            obtain ⟨M129, eM129, h⟩ := jlet_some h
            refine x_iast (pc := 95) hC k_171 (by rw [l_171]; exact hb128) dX10_line_95 eM129 ?_
            refine x_goto (tgt := 480) (pc := 96) hC dX10_line_96 (by decide) ?_
            exact Hk14 _ h)
        refine x_if_ne (tgt := 76) (pc := 69) hC dX10_line_69 (by decide) (fun hc => ?_) (fun hc => ?_)
        · replace h := jit_neg hc h
          refine x_iconst (pc := 76) hC dX10_line_76 ?_
          exact Hk18 _ h
        · replace h := jit_pos hc h
          refine x_iconst (pc := 72) hC dX10_line_72 ?_
          refine x_goto (tgt := 77) (pc := 73) hC dX10_line_73 (by decide) ?_
          exact Hk18 _ h
      · replace h := jit_neg hc h
        refine x_aloadA_n (pc := 48) hC dX10_line_48 rfl rfl k_166 (by decide) ?_
        obtain ⟨v131, e130, h⟩ := jbR_some h
        refine x_cV (pc := 49) hC mv_X10_38 (ok_X10_hasFailed hn e130) rfl (Nat.le_of_ble_eq_true rfl) k_166 rfl (by decide) (jRo0 C) (Nat.le_of_ble_eq_true rfl) dX10_line_49 rfl ?_
        refine x_if_ne (tgt := 480) (pc := 52) hC dX10_line_52 (by decide) (fun hc => ?_) (fun hc => ?_)
        · replace h := jit_neg hc h
          exact Hk14 _ h
        · replace h := jit_pos hc h
          refine x_aloadA_n (pc := 55) hC dX10_line_55 rfl rfl k_166 (by decide) ?_
          obtain ⟨M133, e132, h⟩ := jbV_some h
          refine x_cV (pc := 56) hC mv_X10_231 (ok_X10_elementLine hn e132) rfl (Nat.le_of_ble_eq_true rfl) k_166 rfl (by decide) (jRo0 C) (Nat.le_of_ble_eq_true rfl) dX10_line_56 rfl ?_
          refine x_goto (tgt := 480) (pc := 59) hC dX10_line_59 (by decide) ?_
          exact Hk14 _ h)
    refine x_icmp_ge (tgt := 41) (pc := 34) hC dX10_line_34 (by decide) (fun hc => ?_) (fun hc => ?_)
    · replace h := jit_pos hc h
      refine x_iconst (pc := 41) hC dX10_line_41 ?_
      exact Hk9 _ h
    · replace h := jit_neg hc h
      refine x_iconst (pc := 37) hC dX10_line_37 ?_
      refine x_goto (tgt := 42) (pc := 38) hC dX10_line_38 (by decide) ?_
      exact Hk9 _ h)
  refine x_if_lt (tgt := 21) (pc := 14) hC dX10_line_14 (by decide) (fun hc => ?_) (fun hc => ?_)
  · replace h := jit_pos hc h
    refine x_iconst (pc := 21) hC dX10_line_21 ?_
    exact Hk6 _ h
  · replace h := jit_neg hc h
    refine x_iconst (pc := 17) hC dX10_line_17 ?_
    refine x_goto (tgt := 22) (pc := 18) hC dX10_line_18 (by decide) ?_
    exact Hk6 _ h

set_option maxHeartbeats 4000000 in
set_option maxRecDepth 20000 in
theorem ok_X10_read {X : jX} {n : Nat} (hn : 179 ≤ n) {M : jM} {rz : Int} {Mz : jM} (h : f_X10_read M = some (rz, Mz)) : jCt X n yX10_read cX10_read 1 (some .int) 36 [jA 166] M (some (jI rz)) Mz := by
  refine jCt_of (own := RX10) (ls := [jA 166]) (by decide +kernel) rfl hn (Nat.le_of_ble_eq_true rfl) rfl ?_
  intro C hC hR
  unfold f_X10_read at h
  refine x_aloadA_n (pc := 0) hC dX10_read_0 rfl rfl k_166 (by decide) ?_
  refine x_iconst (pc := 1) hC dX10_read_1 ?_
  obtain ⟨M1, eM1, h⟩ := jlet_some h
  refine x_pi (pc := 2) (ji := 0) hC fl_X10_3 rfl ft10_0 k_166 dX10_read_2 eM1 ?_
  refine x_aloadA_n (pc := 5) hC dX10_read_5 rfl rfl k_166 (by decide) ?_
  refine x_aloadA_n (pc := 6) hC dX10_read_6 rfl rfl k_166 (by decide) ?_
  refine x_gi (pc := 7) (ji := 2) hC fl_X10_7 rfl fn10_2 k_166 dX10_read_7 ?_
  obtain ⟨M2, eM2, h⟩ := jlet_some h
  refine x_pi (pc := 10) (ji := 6) hC fl_X10_24 rfl ft10_6 k_166 dX10_read_10 eM2 ?_
  refine x_aloadA_n (pc := 13) hC dX10_read_13 rfl rfl k_166 (by decide) ?_
  refine x_iconst (pc := 14) hC dX10_read_14 ?_
  obtain ⟨M3, eM3, h⟩ := jlet_some h
  refine x_pi (pc := 15) (ji := 2) hC fl_X10_7 rfl ft10_2 k_166 dX10_read_15 eM3 ?_
  refine x_aloadA_n (pc := 18) hC dX10_read_18 rfl rfl k_166 (by decide) ?_
  refine x_iconst (pc := 19) hC dX10_read_19 ?_
  obtain ⟨M4, eM4, h⟩ := jlet_some h
  refine x_pi (pc := 20) (ji := 4) hC fl_X10_21 rfl ft10_4 k_166 dX10_read_20 eM4 ?_
  refine x_aloadA_n (pc := 23) hC dX10_read_23 rfl rfl k_166 (by decide) ?_
  refine x_iconst (pc := 24) hC dX10_read_24 ?_
  obtain ⟨M5, eM5, h⟩ := jlet_some h
  refine x_pi (pc := 25) (ji := 7) hC fl_X10_18 rfl ft10_7 k_166 dX10_read_25 eM5 ?_
  refine x_aloadA_n (pc := 28) hC dX10_read_28 rfl rfl k_166 (by decide) ?_
  refine x_iconst (pc := 29) hC dX10_read_29 ?_
  obtain ⟨M6, eM6, h⟩ := jlet_some h
  refine x_pi (pc := 30) (ji := 13) hC fl_X10_148 rfl ft10_13 k_166 dX10_read_30 eM6 ?_
  refine x_aloadA_n (pc := 33) hC dX10_read_33 rfl rfl k_166 (by decide) ?_
  refine x_iconst (pc := 34) hC dX10_read_34 ?_
  obtain ⟨M7, eM7, h⟩ := jlet_some h
  refine x_pz (pc := 35) (ji := 14) hC fl_X10_215 rfl ft10_14 (by decide) k_166 dX10_read_35 eM7 ?_
  refine x_aloadA_n (pc := 38) hC dX10_read_38 rfl rfl k_166 (by decide) ?_
  obtain ⟨M9, e8, h⟩ := jbV_some h
  refine x_cV (pc := 39) hC mv_X10_115 (ok_X10_usual hn e8) rfl (Nat.le_of_ble_eq_true rfl) k_166 rfl (by decide) (jRo0 C) (Nat.le_of_ble_eq_true rfl) dX10_read_39 rfl ?_
  refine x_aloadA_n (pc := 42) hC dX10_read_42 rfl rfl k_166 (by decide) ?_
  obtain ⟨M11, e10, h⟩ := jbV_some h
  refine x_cV (pc := 43) hC mv_X10_34 (ok_X10_blanks hn e10) rfl (Nat.le_of_ble_eq_true rfl) k_166 rfl (by decide) (jRo0 C) (Nat.le_of_ble_eq_true rfl) dX10_read_43 rfl ?_
  refine jlp1_ind (P := fun (M12 : jM) => jG C X n 1 0 0 46 [jA 166] [] M12) ?_ _ _ h
  intro self13 M12 Hself13 h
  refine x_aloadA_n (pc := 46) hC dX10_read_46 rfl rfl k_166 (by decide) ?_
  obtain ⟨v15, e14, h⟩ := jbR_some h
  refine x_cV (pc := 47) hC mv_X10_38 (ok_X10_hasFailed hn e14) rfl (Nat.le_of_ble_eq_true rfl) k_166 rfl (by decide) (jRo0 C) (Nat.le_of_ble_eq_true rfl) dX10_read_47 rfl ?_
  obtain ⟨k16, Hk16, h⟩ := jk_some (P := fun k16 => k16 = some (rz, Mz) → jG C X n 1 0 0 75 [jA 166] [] M12) h (by
    intro h
    refine x_aloadA_n (pc := 75) hC dX10_read_75 rfl rfl k_166 (by decide) ?_
    refine x_aloadA_n (pc := 76) hC dX10_read_76 rfl rfl k_166 (by decide) ?_
    refine x_gi (pc := 77) (ji := 7) hC fl_X10_18 rfl fn10_7 k_166 dX10_read_77 ?_
    obtain ⟨M17, eM17, h⟩ := jlet_some h
    refine x_pi (pc := 80) (ji := 8) hC fl_X10_73 rfl ft10_8 k_166 dX10_read_80 eM17 ?_
    refine x_aloadA_n (pc := 83) hC dX10_read_83 rfl rfl k_166 (by decide) ?_
    refine x_aloadA_n (pc := 84) hC dX10_read_84 rfl rfl k_166 (by decide) ?_
    obtain ⟨v19, e18, h⟩ := jbR_some h
    refine x_cV (pc := 85) hC mv_X10_38 (ok_X10_hasFailed hn e18) rfl (Nat.le_of_ble_eq_true rfl) k_166 rfl (by decide) (jRo0 C) (Nat.le_of_ble_eq_true rfl) dX10_read_85 rfl ?_
    refine x_iconst (pc := 88) hC dX10_read_88 ?_
    obtain ⟨v22, M21, e20, h⟩ := jbW_some h
    refine x_cV (pc := 89) hC mv_X10_268 (ok_X10_throwsIf hn e20) rfl (Nat.le_of_ble_eq_true rfl) k_166 rfl (by decide) (jRo0 C) (Nat.le_of_ble_eq_true rfl) dX10_read_89 rfl ?_
    refine x_if_eq (tgt := 97) (pc := 92) hC dX10_read_92 (by decide) (fun hc => ?_) (fun hc => ?_)
    · replace h := jit_pos hc h
      refine x_aloadA_n (pc := 97) hC dX10_read_97 rfl rfl k_166 (by decide) ?_
      obtain ⟨M24, e23, h⟩ := jbV_some h
      refine x_cV (pc := 98) hC mv_X10_118 (ok_X10_taken hn e23) rfl (Nat.le_of_ble_eq_true rfl) k_166 rfl (by decide) (jRo0 C) (Nat.le_of_ble_eq_true rfl) dX10_read_98 rfl ?_
      refine x_aloadA_n (pc := 101) hC dX10_read_101 rfl rfl k_166 (by decide) ?_
      refine x_iconst (pc := 102) hC dX10_read_102 ?_
      obtain ⟨M25, eM25, h⟩ := jlet_some h
      refine x_pi (pc := 103) (ji := 29) hC fl_X10_272 rfl ft10_29 k_166 dX10_read_103 eM25 ?_
      refine x_aloadA_n (pc := 106) hC dX10_read_106 rfl rfl k_166 (by decide) ?_
      refine x_gf (pc := 107) (b := 169) hC fl_X10_81 ft10_9 k_166 (by decide) (off := 3) (by decide +kernel) (by decide) dX10_read_107 ?_
      refine x_iconst (pc := 110) hC dX10_read_110 ?_
      obtain ⟨hb26, h⟩ := jck_some h
      refine x_iald (pc := 111) hC k_169 (by rw [l_169]; exact hb26) dX10_read_111 ?_
      exact x_iret (pc := 112) hC hR dX10_read_112 (jr1 h) (jr2 h)
    · replace h := jit_neg hc h
      refine x_iconst (pc := 95) hC dX10_read_95 ?_
      exact x_iret (pc := 96) hC hR dX10_read_96 (jr1 h) (jr2 h))
  refine x_if_ne (tgt := 75) (pc := 50) hC dX10_read_50 (by decide) (fun hc => ?_) (fun hc => ?_)
  · replace h := jit_neg hc h
    exact Hk16 h
  · replace h := jit_pos hc h
    refine x_aloadA_n (pc := 53) hC dX10_read_53 rfl rfl k_166 (by decide) ?_
    refine x_gi (pc := 54) (ji := 4) hC fl_X10_21 rfl fn10_4 k_166 dX10_read_54 ?_
    refine x_aloadA_n (pc := 57) hC dX10_read_57 rfl rfl k_166 (by decide) ?_
    refine x_gi (pc := 58) (ji := 6) hC fl_X10_24 rfl fn10_6 k_166 dX10_read_58 ?_
    refine x_icmp_ge (tgt := 75) (pc := 61) hC dX10_read_61 (by decide) (fun hc => ?_) (fun hc => ?_)
    · replace h := jit_pos hc h
      exact Hk16 h
    · replace h := jit_neg hc h
      refine x_aloadA_n (pc := 64) hC dX10_read_64 rfl rfl k_166 (by decide) ?_
      obtain ⟨M28, e27, h⟩ := jbV_some h
      refine x_cV (pc := 65) hC mv_X10_265 (ok_X10_line hn e27) rfl (Nat.le_of_ble_eq_true rfl) k_166 rfl (by decide) (jRo0 C) (Nat.le_of_ble_eq_true rfl) dX10_read_65 rfl ?_
      refine x_aloadA_n (pc := 68) hC dX10_read_68 rfl rfl k_166 (by decide) ?_
      obtain ⟨M30, e29, h⟩ := jbV_some h
      refine x_cV (pc := 69) hC mv_X10_34 (ok_X10_blanks hn e29) rfl (Nat.le_of_ble_eq_true rfl) k_166 rfl (by decide) (jRo0 C) (Nat.le_of_ble_eq_true rfl) dX10_read_69 rfl ?_
      refine x_goto (tgt := 46) (pc := 72) hC dX10_read_72 (by decide) ?_
      exact Hself13 _ h

set_option maxHeartbeats 4000000 in
set_option maxRecDepth 20000 in
theorem ok_X10_saysHundredths {X : jX} {n : Nat} (hn : 179 ≤ n) {l1 : Int} {M : jM} {Mz : jM} (h : f_X10_saysHundredths l1 M = some Mz) : jCt X n yX10_saysHundredths cX10_saysHundredths 3 (none) 13 [jA 166, jI l1] M (none) Mz := by
  refine jCt_of (own := RX10) (ls := [jA 166, jI l1, jN]) (by decide +kernel) rfl hn (Nat.le_of_ble_eq_true rfl) rfl ?_
  intro C hC hR
  unfold f_X10_saysHundredths at h
  refine x_iload_n (pc := 0) hC dX10_saysHundredths_0 rfl rfl ?_
  obtain ⟨v2, e1, h⟩ := jbR_some h
  refine x_cS (pc := 1) hC ms_X10_444 (ok_J9_abs_0f7a4 hn e1) rfl (Nat.le_of_ble_eq_true rfl) (jRo0 C) (Nat.le_of_ble_eq_true rfl) dX10_saysHundredths_1 rfl ?_
  refine x_istore_n (ls2 := [jA 166, jI l1, jI v2]) (pc := 4) hC dX10_saysHundredths_4 rfl (by decide) rfl rfl rfl ?_
  refine x_iload_n (pc := 5) hC dX10_saysHundredths_5 rfl rfl ?_
  obtain ⟨k4, Hk4, h⟩ := jk_some (P := fun k4 => ∀ (M3 : jM), k4 M3 = some Mz → jG C X n 3 0 0 15 [jA 166, jI l1, jI v2] [] M3) h (by
    intro M3 h
    refine x_aloadA_n (pc := 15) hC dX10_saysHundredths_15 rfl rfl k_166 (by decide) ?_
    refine x_iload_n (pc := 16) hC dX10_saysHundredths_16 rfl rfl ?_
    refine x_bipush (pc := 17) hC dX10_saysHundredths_17 rfl ?_
    refine x_idiv (pc := 19) hC dX10_saysHundredths_19 (by decide) ?_
    obtain ⟨M6, e5, h⟩ := jbV_some h
    refine x_cV (pc := 20) hC mv_X10_478 (ok_X10_saysNumber hn e5) rfl (Nat.le_of_ble_eq_true rfl) k_166 rfl (by decide) (jRo0 C) (Nat.le_of_ble_eq_true rfl) dX10_saysHundredths_20 rfl ?_
    refine x_aloadA_n (pc := 23) hC dX10_saysHundredths_23 rfl rfl k_166 (by decide) ?_
    refine x_bipush (pc := 24) hC dX10_saysHundredths_24 rfl ?_
    obtain ⟨M8, e7, h⟩ := jbV_some h
    refine x_cV (pc := 26) hC mv_X10_475 (ok_X10_says hn e7) rfl (Nat.le_of_ble_eq_true rfl) k_166 rfl (by decide) (jRo0 C) (Nat.le_of_ble_eq_true rfl) dX10_saysHundredths_26 rfl ?_
    refine x_aloadA_n (pc := 29) hC dX10_saysHundredths_29 rfl rfl k_166 (by decide) ?_
    refine x_bipush (pc := 30) hC dX10_saysHundredths_30 rfl ?_
    refine x_iload_n (pc := 32) hC dX10_saysHundredths_32 rfl rfl ?_
    refine x_bipush (pc := 33) hC dX10_saysHundredths_33 rfl ?_
    refine x_idiv (pc := 35) hC dX10_saysHundredths_35 (by decide) ?_
    refine x_bipush (pc := 36) hC dX10_saysHundredths_36 rfl ?_
    refine x_irem (pc := 38) hC dX10_saysHundredths_38 (by decide) ?_
    refine x_iadd (pc := 39) hC dX10_saysHundredths_39 ?_
    obtain ⟨M10, e9, h⟩ := jbV_some h
    refine x_cV (pc := 40) hC mv_X10_475 (ok_X10_says hn e9) rfl (Nat.le_of_ble_eq_true rfl) k_166 rfl (by decide) (jRo0 C) (Nat.le_of_ble_eq_true rfl) dX10_saysHundredths_40 rfl ?_
    refine x_aloadA_n (pc := 43) hC dX10_saysHundredths_43 rfl rfl k_166 (by decide) ?_
    refine x_bipush (pc := 44) hC dX10_saysHundredths_44 rfl ?_
    refine x_iload_n (pc := 46) hC dX10_saysHundredths_46 rfl rfl ?_
    refine x_bipush (pc := 47) hC dX10_saysHundredths_47 rfl ?_
    refine x_irem (pc := 49) hC dX10_saysHundredths_49 (by decide) ?_
    refine x_iadd (pc := 50) hC dX10_saysHundredths_50 ?_
    obtain ⟨M12, e11, h⟩ := jbV_some h
    refine x_cV (pc := 51) hC mv_X10_475 (ok_X10_says hn e11) rfl (Nat.le_of_ble_eq_true rfl) k_166 rfl (by decide) (jRo0 C) (Nat.le_of_ble_eq_true rfl) dX10_saysHundredths_51 rfl ?_
    exact x_vret (pc := 54) hC hR dX10_saysHundredths_54 (jrR h))
  refine x_if_ge (tgt := 15) (pc := 6) hC dX10_saysHundredths_6 (by decide) (fun hc => ?_) (fun hc => ?_)
  · replace h := jit_pos hc h
    exact Hk4 _ h
  · replace h := jit_neg hc h
    refine x_aloadA_n (pc := 9) hC dX10_saysHundredths_9 rfl rfl k_166 (by decide) ?_
    refine x_bipush (pc := 10) hC dX10_saysHundredths_10 rfl ?_
    obtain ⟨M14, e13, h⟩ := jbV_some h
    refine x_cV (pc := 12) hC mv_X10_475 (ok_X10_says hn e13) rfl (Nat.le_of_ble_eq_true rfl) k_166 rfl (by decide) (jRo0 C) (Nat.le_of_ble_eq_true rfl) dX10_saysHundredths_12 rfl ?_
    exact Hk4 _ h

set_option maxHeartbeats 4000000 in
set_option maxRecDepth 20000 in
theorem ok_X10_saysTry {X : jX} {n : Nat} (hn : 179 ≤ n) {l1 : Int} {l2 : Int} {M : jM} {Mz : jM} (h : f_X10_saysTry l1 l2 M = some Mz) : jCt X n yX10_saysTry cX10_saysTry 4 (none) 14 [jA 166, jI l1, jI l2] M (none) Mz := by
  refine jCt_of (own := RX10) (ls := [jA 166, jI l1, jI l2, jN]) (by decide +kernel) rfl hn (Nat.le_of_ble_eq_true rfl) rfl ?_
  intro C hC hR
  unfold f_X10_saysTry at h
  refine x_aloadA_n (pc := 0) hC dX10_saysTry_0 rfl rfl k_166 (by decide) ?_
  refine x_bipush (pc := 1) hC dX10_saysTry_1 rfl ?_
  obtain ⟨M2, e1, h⟩ := jbV_some h
  refine x_cV (pc := 3) hC mv_X10_475 (ok_X10_says hn e1) rfl (Nat.le_of_ble_eq_true rfl) k_166 rfl (by decide) (jRo0 C) (Nat.le_of_ble_eq_true rfl) dX10_saysTry_3 rfl ?_
  refine x_iconst (pc := 6) hC dX10_saysTry_6 ?_
  refine x_istore_n (ls2 := [jA 166, jI l1, jI l2, jI 0]) (pc := 7) hC dX10_saysTry_7 rfl (by decide) rfl rfl rfl ?_
  refine jlp2_ind (P := fun (l3_3 : Int) (M4 : jM) => jG C X n 4 0 0 8 [jA 166, jI l1, jI l2, jI l3_3] [] M4) ?_ _ _ _ h
  intro self5 l3_3 M4 Hself5 h
  refine x_iload_n (pc := 8) hC dX10_saysTry_8 rfl rfl ?_
  refine x_aloadA_n (pc := 9) hC dX10_saysTry_9 rfl rfl k_166 (by decide) ?_
  refine x_iload_n (pc := 10) hC dX10_saysTry_10 rfl rfl ?_
  refine x_iload_n (pc := 11) hC dX10_saysTry_11 rfl rfl ?_
  obtain ⟨v7, e6, h⟩ := jbR_some h
  refine x_cV (pc := 12) hC mv_X10_325 (ok_X10_elementsOf hn e6) rfl (Nat.le_of_ble_eq_true rfl) k_166 rfl (by decide) (jRo0 C) (Nat.le_of_ble_eq_true rfl) dX10_saysTry_12 rfl ?_
  refine x_icmp_ge (tgt := 51) (pc := 15) hC dX10_saysTry_15 (by decide) (fun hc => ?_) (fun hc => ?_)
  · replace h := jit_pos hc h
    refine x_aloadA_n (pc := 51) hC dX10_saysTry_51 rfl rfl k_166 (by decide) ?_
    refine x_iload_n (pc := 52) hC dX10_saysTry_52 rfl rfl ?_
    refine x_iload_n (pc := 53) hC dX10_saysTry_53 rfl rfl ?_
    obtain ⟨v9, e8, h⟩ := jbR_some h
    refine x_cV (pc := 54) hC mv_X10_334 (ok_X10_callsOf hn e8) rfl (Nat.le_of_ble_eq_true rfl) k_166 rfl (by decide) (jRo0 C) (Nat.le_of_ble_eq_true rfl) dX10_saysTry_54 rfl ?_
    refine x_iconst (pc := 57) hC dX10_saysTry_57 ?_
    obtain ⟨v11, e10, h⟩ := jbR_some h
    refine x_cS (pc := 58) hC ms_X10_212 (ok_X10_isIn hn e10) rfl (Nat.le_of_ble_eq_true rfl) (jRo0 C) (Nat.le_of_ble_eq_true rfl) dX10_saysTry_58 rfl ?_
    obtain ⟨k13, Hk13, h⟩ := jk_some (P := fun k13 => ∀ (M12 : jM), k13 M12 = some Mz → jG C X n 4 0 0 70 [jA 166, jI l1, jI l2, jI l3_3] [] M12) h (by
      intro M12 h
      refine x_aloadA_n (pc := 70) hC dX10_saysTry_70 rfl rfl k_166 (by decide) ?_
      refine x_iload_n (pc := 71) hC dX10_saysTry_71 rfl rfl ?_
      refine x_iload_n (pc := 72) hC dX10_saysTry_72 rfl rfl ?_
      obtain ⟨v15, e14, h⟩ := jbR_some h
      refine x_cV (pc := 73) hC mv_X10_334 (ok_X10_callsOf hn e14) rfl (Nat.le_of_ble_eq_true rfl) k_166 rfl (by decide) (jRo0 C) (Nat.le_of_ble_eq_true rfl) dX10_saysTry_73 rfl ?_
      refine x_iconst (pc := 76) hC dX10_saysTry_76 ?_
      obtain ⟨v17, e16, h⟩ := jbR_some h
      refine x_cS (pc := 77) hC ms_X10_212 (ok_X10_isIn hn e16) rfl (Nat.le_of_ble_eq_true rfl) (jRo0 C) (Nat.le_of_ble_eq_true rfl) dX10_saysTry_77 rfl ?_
      obtain ⟨k19, Hk19, h⟩ := jk_some (P := fun k19 => ∀ (M18 : jM), k19 M18 = some Mz → jG C X n 4 0 0 89 [jA 166, jI l1, jI l2, jI l3_3] [] M18) h (by
        intro M18 h
        refine x_aloadA_n (pc := 89) hC dX10_saysTry_89 rfl rfl k_166 (by decide) ?_
        refine x_iload_n (pc := 90) hC dX10_saysTry_90 rfl rfl ?_
        refine x_iload_n (pc := 91) hC dX10_saysTry_91 rfl rfl ?_
        obtain ⟨v21, e20, h⟩ := jbR_some h
        refine x_cV (pc := 92) hC mv_X10_337 (ok_X10_isLate hn e20) rfl (Nat.le_of_ble_eq_true rfl) k_166 rfl (by decide) (jRo0 C) (Nat.le_of_ble_eq_true rfl) dX10_saysTry_92 rfl ?_
        obtain ⟨k23, Hk23, h⟩ := jk_some (P := fun k23 => ∀ (M22 : jM), k23 M22 = some Mz → jG C X n 4 0 0 104 [jA 166, jI l1, jI l2, jI l3_3] [] M22) h (by
          intro M22 h
          refine x_aloadA_n (pc := 104) hC dX10_saysTry_104 rfl rfl k_166 (by decide) ?_
          refine x_bipush (pc := 105) hC dX10_saysTry_105 rfl ?_
          obtain ⟨M25, e24, h⟩ := jbV_some h
          refine x_cV (pc := 107) hC mv_X10_475 (ok_X10_says hn e24) rfl (Nat.le_of_ble_eq_true rfl) k_166 rfl (by decide) (jRo0 C) (Nat.le_of_ble_eq_true rfl) dX10_saysTry_107 rfl ?_
          refine x_aloadA_n (pc := 110) hC dX10_saysTry_110 rfl rfl k_166 (by decide) ?_
          refine x_aloadA_n (pc := 111) hC dX10_saysTry_111 rfl rfl k_166 (by decide) ?_
          refine x_iload_n (pc := 112) hC dX10_saysTry_112 rfl rfl ?_
          refine x_iload_n (pc := 113) hC dX10_saysTry_113 rfl rfl ?_
          obtain ⟨v28, M27, e26, h⟩ := jbW_some h
          refine x_cV (pc := 114) hC mv_X10_349 (ok_X10_pointsAt hn e26) rfl (Nat.le_of_ble_eq_true rfl) k_166 rfl (by decide) (jRo0 C) (Nat.le_of_ble_eq_true rfl) dX10_saysTry_114 rfl ?_
          obtain ⟨M30, e29, h⟩ := jbV_some h
          refine x_cV (pc := 117) hC mv_X10_484 (ok_X10_saysHundredths hn e29) rfl (Nat.le_of_ble_eq_true rfl) k_166 rfl (by decide) (jRo0 C) (Nat.le_of_ble_eq_true rfl) dX10_saysTry_117 rfl ?_
          exact x_vret (pc := 120) hC hR dX10_saysTry_120 (jrR h))
        refine x_if_eq (tgt := 104) (pc := 95) hC dX10_saysTry_95 (by decide) (fun hc => ?_) (fun hc => ?_)
        · replace h := jit_pos hc h
          exact Hk23 _ h
        · replace h := jit_neg hc h
          refine x_aloadA_n (pc := 98) hC dX10_saysTry_98 rfl rfl k_166 (by decide) ?_
          refine x_bipush (pc := 99) hC dX10_saysTry_99 rfl ?_
          obtain ⟨M32, e31, h⟩ := jbV_some h
          refine x_cV (pc := 101) hC mv_X10_475 (ok_X10_says hn e31) rfl (Nat.le_of_ble_eq_true rfl) k_166 rfl (by decide) (jRo0 C) (Nat.le_of_ble_eq_true rfl) dX10_saysTry_101 rfl ?_
          exact Hk23 _ h)
      refine x_if_eq (tgt := 89) (pc := 80) hC dX10_saysTry_80 (by decide) (fun hc => ?_) (fun hc => ?_)
      · replace h := jit_pos hc h
        exact Hk19 _ h
      · replace h := jit_neg hc h
        refine x_aloadA_n (pc := 83) hC dX10_saysTry_83 rfl rfl k_166 (by decide) ?_
        refine x_bipush (pc := 84) hC dX10_saysTry_84 rfl ?_
        obtain ⟨M34, e33, h⟩ := jbV_some h
        refine x_cV (pc := 86) hC mv_X10_475 (ok_X10_says hn e33) rfl (Nat.le_of_ble_eq_true rfl) k_166 rfl (by decide) (jRo0 C) (Nat.le_of_ble_eq_true rfl) dX10_saysTry_86 rfl ?_
        exact Hk19 _ h)
    refine x_if_eq (tgt := 70) (pc := 61) hC dX10_saysTry_61 (by decide) (fun hc => ?_) (fun hc => ?_)
    · replace h := jit_pos hc h
      exact Hk13 _ h
    · replace h := jit_neg hc h
      refine x_aloadA_n (pc := 64) hC dX10_saysTry_64 rfl rfl k_166 (by decide) ?_
      refine x_bipush (pc := 65) hC dX10_saysTry_65 rfl ?_
      obtain ⟨M36, e35, h⟩ := jbV_some h
      refine x_cV (pc := 67) hC mv_X10_475 (ok_X10_says hn e35) rfl (Nat.le_of_ble_eq_true rfl) k_166 rfl (by decide) (jRo0 C) (Nat.le_of_ble_eq_true rfl) dX10_saysTry_67 rfl ?_
      exact Hk13 _ h
  · replace h := jit_neg hc h
    refine x_iload_n (pc := 18) hC dX10_saysTry_18 rfl rfl ?_
    obtain ⟨k38, Hk38, h⟩ := jk_some (P := fun k38 => ∀ (M37 : jM), k38 M37 = some Mz → jG C X n 4 0 0 28 [jA 166, jI l1, jI l2, jI l3_3] [] M37) h (by
      intro M37 h
      refine x_aloadA_n (pc := 28) hC dX10_saysTry_28 rfl rfl k_166 (by decide) ?_
      refine x_bipush (pc := 29) hC dX10_saysTry_29 rfl ?_
      refine x_bipush (pc := 31) hC dX10_saysTry_31 rfl ?_
      refine x_aloadA_n (pc := 33) hC dX10_saysTry_33 rfl rfl k_166 (by decide) ?_
      refine x_iload_n (pc := 34) hC dX10_saysTry_34 rfl rfl ?_
      refine x_iload_n (pc := 35) hC dX10_saysTry_35 rfl rfl ?_
      refine x_iload_n (pc := 36) hC dX10_saysTry_36 rfl rfl ?_
      obtain ⟨v40, e39, h⟩ := jbR_some h
      refine x_cV (pc := 37) hC mv_X10_293 (ok_X10_elementOf hn e39) rfl (Nat.le_of_ble_eq_true rfl) k_166 rfl (by decide) (jRo0 C) (Nat.le_of_ble_eq_true rfl) dX10_saysTry_37 rfl ?_
      refine x_imul (pc := 40) hC dX10_saysTry_40 ?_
      refine x_iadd (pc := 41) hC dX10_saysTry_41 ?_
      obtain ⟨M42, e41, h⟩ := jbV_some h
      refine x_cV (pc := 42) hC mv_X10_481 (ok_X10_saysName hn e41) rfl (Nat.le_of_ble_eq_true rfl) k_166 rfl (by decide) (jRo0 C) (Nat.le_of_ble_eq_true rfl) dX10_saysTry_42 rfl ?_
      obtain ⟨l3_43, el3_43, h⟩ := jlet_some h
      refine x_iinc (ls2 := [jA 166, jI l1, jI l2, jI l3_43]) (pc := 45) hC dX10_saysTry_45 rfl (by decide) rfl el3_43 rfl ?_
      refine x_goto (tgt := 8) (pc := 48) hC dX10_saysTry_48 (by decide) ?_
      exact Hself5 _ _ h)
    refine x_if_le (tgt := 28) (pc := 19) hC dX10_saysTry_19 (by decide) (fun hc => ?_) (fun hc => ?_)
    · replace h := jit_pos hc h
      exact Hk38 _ h
    · replace h := jit_neg hc h
      refine x_aloadA_n (pc := 22) hC dX10_saysTry_22 rfl rfl k_166 (by decide) ?_
      refine x_bipush (pc := 23) hC dX10_saysTry_23 rfl ?_
      obtain ⟨M45, e44, h⟩ := jbV_some h
      refine x_cV (pc := 25) hC mv_X10_475 (ok_X10_says hn e44) rfl (Nat.le_of_ble_eq_true rfl) k_166 rfl (by decide) (jRo0 C) (Nat.le_of_ble_eq_true rfl) dX10_saysTry_25 rfl ?_
      exact Hk38 _ h

set_option maxHeartbeats 4000000 in
set_option maxRecDepth 20000 in
theorem ok_X10_write {X : jX} {n : Nat} (hn : 179 ≤ n) {l1 : Int} {M : jM} {rz : Int} {Mz : jM} (h : f_X10_write l1 M = some (rz, Mz)) : jCt X n yX10_write cX10_write 3 (some .int) 15 [jA 166, jI l1] M (some (jI rz)) Mz := by
  refine jCt_of (own := RX10) (ls := [jA 166, jI l1, jN]) (by decide +kernel) rfl hn (Nat.le_of_ble_eq_true rfl) rfl ?_
  intro C hC hR
  unfold f_X10_write at h
  refine x_aloadA_n (pc := 0) hC dX10_write_0 rfl rfl k_166 (by decide) ?_
  refine x_iconst (pc := 1) hC dX10_write_1 ?_
  obtain ⟨M1, eM1, h⟩ := jlet_some h
  refine x_pi (pc := 2) (ji := 0) hC fl_X10_3 rfl ft10_0 k_166 dX10_write_2 eM1 ?_
  refine x_aloadA_n (pc := 5) hC dX10_write_5 rfl rfl k_166 (by decide) ?_
  obtain ⟨M3, e2, h⟩ := jbV_some h
  refine x_cV (pc := 6) hC mv_X10_408 (ok_X10_all hn e2) rfl (Nat.le_of_ble_eq_true rfl) k_166 rfl (by decide) (jRo0 C) (Nat.le_of_ble_eq_true rfl) dX10_write_6 rfl ?_
  refine x_aloadA_n (pc := 9) hC dX10_write_9 rfl rfl k_166 (by decide) ?_
  refine x_iload_n (pc := 10) hC dX10_write_10 rfl rfl ?_
  obtain ⟨v6, M5, e4, h⟩ := jbW_some h
  refine x_cV (pc := 11) hC mv_X10_411 (ok_X10_noSkater hn e4) rfl (Nat.le_of_ble_eq_true rfl) k_166 rfl (by decide) (jRo0 C) (Nat.le_of_ble_eq_true rfl) dX10_write_11 rfl ?_
  refine x_if_eq (tgt := 19) (pc := 14) hC dX10_write_14 (by decide) (fun hc => ?_) (fun hc => ?_)
  · replace h := jit_pos hc h
    refine x_aloadA_n (pc := 19) hC dX10_write_19 rfl rfl k_166 (by decide) ?_
    refine x_iconst (pc := 20) hC dX10_write_20 ?_
    obtain ⟨M7, eM7, h⟩ := jlet_some h
    refine x_pi (pc := 21) (ji := 31) hC fl_X10_472 rfl ft10_31 k_166 dX10_write_21 eM7 ?_
    refine x_aloadA_n (pc := 24) hC dX10_write_24 rfl rfl k_166 (by decide) ?_
    refine x_bipush (pc := 25) hC dX10_write_25 rfl ?_
    refine x_bipush (pc := 27) hC dX10_write_27 rfl ?_
    refine x_iload_n (pc := 29) hC dX10_write_29 rfl rfl ?_
    refine x_imul (pc := 30) hC dX10_write_30 ?_
    refine x_iadd (pc := 31) hC dX10_write_31 ?_
    obtain ⟨M9, e8, h⟩ := jbV_some h
    refine x_cV (pc := 32) hC mv_X10_481 (ok_X10_saysName hn e8) rfl (Nat.le_of_ble_eq_true rfl) k_166 rfl (by decide) (jRo0 C) (Nat.le_of_ble_eq_true rfl) dX10_write_32 rfl ?_
    refine x_aloadA_n (pc := 35) hC dX10_write_35 rfl rfl k_166 (by decide) ?_
    refine x_bipush (pc := 36) hC dX10_write_36 rfl ?_
    obtain ⟨M11, e10, h⟩ := jbV_some h
    refine x_cV (pc := 38) hC mv_X10_475 (ok_X10_says hn e10) rfl (Nat.le_of_ble_eq_true rfl) k_166 rfl (by decide) (jRo0 C) (Nat.le_of_ble_eq_true rfl) dX10_write_38 rfl ?_
    refine x_aloadA_n (pc := 41) hC dX10_write_41 rfl rfl k_166 (by decide) ?_
    refine x_aloadA_n (pc := 42) hC dX10_write_42 rfl rfl k_166 (by decide) ?_
    refine x_iload_n (pc := 43) hC dX10_write_43 rfl rfl ?_
    obtain ⟨v14, M13, e12, h⟩ := jbW_some h
    refine x_cV (pc := 44) hC mv_X10_399 (ok_X10_totalOf hn e12) rfl (Nat.le_of_ble_eq_true rfl) k_166 rfl (by decide) (jRo0 C) (Nat.le_of_ble_eq_true rfl) dX10_write_44 rfl ?_
    obtain ⟨M16, e15, h⟩ := jbV_some h
    refine x_cV (pc := 47) hC mv_X10_484 (ok_X10_saysHundredths hn e15) rfl (Nat.le_of_ble_eq_true rfl) k_166 rfl (by decide) (jRo0 C) (Nat.le_of_ble_eq_true rfl) dX10_write_47 rfl ?_
    refine x_iconst (pc := 50) hC dX10_write_50 ?_
    refine x_istore_n (ls2 := [jA 166, jI l1, jI 0]) (pc := 51) hC dX10_write_51 rfl (by decide) rfl rfl rfl ?_
    refine jlp2_ind (P := fun (l2_17 : Int) (M18 : jM) => jG C X n 3 0 0 52 [jA 166, jI l1, jI l2_17] [] M18) ?_ _ _ _ h
    intro self19 l2_17 M18 Hself19 h
    refine x_iload_n (pc := 52) hC dX10_write_52 rfl rfl ?_
    refine x_aloadA_n (pc := 53) hC dX10_write_53 rfl rfl k_166 (by decide) ?_
    refine x_gf (pc := 54) (b := 169) hC fl_X10_81 ft10_9 k_166 (by decide) (off := 3) (by decide +kernel) (by decide) dX10_write_54 ?_
    refine x_bipush (pc := 57) hC dX10_write_57 rfl ?_
    refine x_iload_n (pc := 59) hC dX10_write_59 rfl rfl ?_
    refine x_iadd (pc := 60) hC dX10_write_60 ?_
    obtain ⟨hb20, h⟩ := jck_some h
    refine x_iald (pc := 61) hC k_169 (by rw [l_169]; exact hb20) dX10_write_61 ?_
    refine x_icmp_ge (tgt := 86) (pc := 62) hC dX10_write_62 (by decide) (fun hc => ?_) (fun hc => ?_)
    · replace h := jit_pos hc h
      refine x_aloadA_n (pc := 86) hC dX10_write_86 rfl rfl k_166 (by decide) ?_
      refine x_gi (pc := 87) (ji := 31) hC fl_X10_472 rfl fn10_31 k_166 dX10_write_87 ?_
      exact x_iret (pc := 90) hC hR dX10_write_90 (jr1 h) (jr2 h)
    · replace h := jit_neg hc h
      refine x_aloadA_n (pc := 65) hC dX10_write_65 rfl rfl k_166 (by decide) ?_
      refine x_iload_n (pc := 66) hC dX10_write_66 rfl rfl ?_
      refine x_iload_n (pc := 67) hC dX10_write_67 rfl rfl ?_
      obtain ⟨v22, e21, h⟩ := jbR_some h
      refine x_cV (pc := 68) hC mv_X10_322 (ok_X10_is hn e21) rfl (Nat.le_of_ble_eq_true rfl) k_166 rfl (by decide) (jRo0 C) (Nat.le_of_ble_eq_true rfl) dX10_write_68 rfl ?_
      refine x_if_eq (tgt := 80) (pc := 71) hC dX10_write_71 (by decide) (fun hc => ?_) (fun hc => ?_)
      · replace h := jit_pos hc h
        obtain ⟨l2_23, el2_23, h⟩ := jlet_some h
        refine x_iinc (ls2 := [jA 166, jI l1, jI l2_23]) (pc := 80) hC dX10_write_80 rfl (by decide) rfl el2_23 rfl ?_
        refine x_goto (tgt := 52) (pc := 83) hC dX10_write_83 (by decide) ?_
        exact Hself19 _ _ h
      · replace h := jit_neg hc h
        refine x_aloadA_n (pc := 74) hC dX10_write_74 rfl rfl k_166 (by decide) ?_
        refine x_iload_n (pc := 75) hC dX10_write_75 rfl rfl ?_
        refine x_iload_n (pc := 76) hC dX10_write_76 rfl rfl ?_
        obtain ⟨M25, e24, h⟩ := jbV_some h
        refine x_cV (pc := 77) hC mv_X10_487 (ok_X10_saysTry hn e24) rfl (Nat.le_of_ble_eq_true rfl) k_166 rfl (by decide) (jRo0 C) (Nat.le_of_ble_eq_true rfl) dX10_write_77 rfl ?_
        obtain ⟨l2_26, el2_26, h⟩ := jlet_some h
        refine x_iinc (ls2 := [jA 166, jI l1, jI l2_26]) (pc := 80) hC dX10_write_80 rfl (by decide) rfl el2_26 rfl ?_
        refine x_goto (tgt := 52) (pc := 83) hC dX10_write_83 (by decide) ?_
        exact Hself19 _ _ h
  · replace h := jit_neg hc h
    refine x_iconst (pc := 17) hC dX10_write_17 ?_
    exact x_iret (pc := 18) hC hR dX10_write_18 (jr1 h) (jr2 h)

