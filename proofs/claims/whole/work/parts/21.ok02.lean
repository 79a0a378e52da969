/-! ===== the machine does what the functions say; by program ===== -/
set_option maxHeartbeats 4000000 in
set_option maxRecDepth 20000 in
theorem ok_X7_leadsBy {X : jX} {n : Nat} (hn : 179 ≤ n) {l1 : Int} {l2 : Int} {M : jM} {rz : Int} {Mz : jM} (h : f_X7_leadsBy l1 l2 M = some (rz, Mz)) : jCt X n yX7_leadsBy cX7_leadsBy 4 (some .boolean) 4 [jA 110, jI l1, jI l2] M (some (jI rz)) Mz := by
  refine jCt_of (own := RX7) (ls := [jA 110, jI l1, jI l2, jN]) (by decide +kernel) rfl hn (Nat.le_of_ble_eq_true rfl) rfl ?_
  intro C hC hR
  unfold f_X7_leadsBy at h
  refine x_aloadA_n (pc := 0) hC dX7_leadsBy_0 rfl rfl k_110 (by decide) ?_
  refine x_gf (pc := 1) (b := 111) hC fl_X7_11 ft7_1 k_110 (by decide) (off := 1) (by decide +kernel) (by decide) dX7_leadsBy_1 ?_
  refine x_iload_n (pc := 4) hC dX7_leadsBy_4 rfl rfl ?_
  obtain ⟨hb1, h⟩ := jck_some h
  refine x_aald15 (pc := 5) hC k_111 hb1 rfl dX7_leadsBy_5 ?_
  refine x_iload_n (pc := 6) hC dX7_leadsBy_6 rfl rfl ?_
  obtain ⟨M3, e2, h⟩ := jbV_some h
  refine x_cV (pc := 7) hC mv_X7_60 (ok_X8_judgeBy hn (jta k_111 hb1.1 hb1.2) e2) rfl (Nat.le_of_ble_eq_true rfl) (jta k_111 hb1.1 hb1.2) rfl (by decide) (jRo0 C) (Nat.le_of_ble_eq_true rfl) dX7_leadsBy_7 rfl ?_
  refine x_iconst (pc := 10) hC dX7_leadsBy_10 ?_
  refine x_istore_n (ls2 := [jA 110, jI l1, jI l2, jI 0]) (pc := 11) hC dX7_leadsBy_11 rfl (by decide) rfl rfl rfl ?_
  refine jlp2_ind (P := fun (l3_4 : Int) (M5 : jM) => jG C X n 4 0 0 12 [jA 110, jI l1, jI l2, jI l3_4] [] M5) ?_ _ _ _ h
  intro self6 l3_4 M5 Hself6 h
  refine x_iload_n (pc := 12) hC dX7_leadsBy_12 rfl rfl ?_
  refine x_aloadA_n (pc := 13) hC dX7_leadsBy_13 rfl rfl k_110 (by decide) ?_
  obtain ⟨v8, e7, h⟩ := jbR_some h
  refine x_cV (pc := 14) hC mv_X7_52 (ok_X7_skaters hn e7) rfl (Nat.le_of_ble_eq_true rfl) k_110 rfl (by decide) (jRo0 C) (Nat.le_of_ble_eq_true rfl) dX7_leadsBy_14 rfl ?_
  refine x_icmp_ge (tgt := 52) (pc := 17) hC dX7_leadsBy_17 (by decide) (fun hc => ?_) (fun hc => ?_)
  · replace h := jit_pos hc h
    refine x_iconst (pc := 52) hC dX7_leadsBy_52 ?_
    exact x_zret (pc := 53) hC hR dX7_leadsBy_53 (Or.inr jw1) (jr1 h) (jr2 h)
  · replace h := jit_neg hc h
    refine x_iload_n (pc := 20) hC dX7_leadsBy_20 rfl rfl ?_
    refine x_iload_n (pc := 21) hC dX7_leadsBy_21 rfl rfl ?_
    refine x_icmp_eq (tgt := 46) (pc := 22) hC dX7_leadsBy_22 (by decide) (fun hc => ?_) (fun hc => ?_)
    · replace h := jit_pos hc h
      obtain ⟨l3_9, el3_9, h⟩ := jlet_some h
      refine x_iinc (ls2 := [jA 110, jI l1, jI l2, jI l3_9]) (pc := 46) hC dX7_leadsBy_46 rfl (by decide) rfl el3_9 rfl ?_
      refine x_goto (tgt := 12) (pc := 49) hC dX7_leadsBy_49 (by decide) ?_
      exact Hself6 _ _ h
    · replace h := jit_neg hc h
      refine x_aloadA_n (pc := 25) hC dX7_leadsBy_25 rfl rfl k_110 (by decide) ?_
      refine x_gf (pc := 26) (b := 111) hC fl_X7_11 ft7_1 k_110 (by decide) (off := 1) (by decide +kernel) (by decide) dX7_leadsBy_26 ?_
      refine x_iload_n (pc := 29) hC dX7_leadsBy_29 rfl rfl ?_
      obtain ⟨hb10, h⟩ := jck_some h
      refine x_aald15 (pc := 30) hC k_111 hb10 rfl dX7_leadsBy_30 ?_
      refine x_iload_n (pc := 31) hC dX7_leadsBy_31 rfl rfl ?_
      obtain ⟨M12, e11, h⟩ := jbV_some h
      refine x_cV (pc := 32) hC mv_X7_60 (ok_X8_judgeBy hn (jta k_111 hb10.1 hb10.2) e11) rfl (Nat.le_of_ble_eq_true rfl) (jta k_111 hb10.1 hb10.2) rfl (by decide) (jRo0 C) (Nat.le_of_ble_eq_true rfl) dX7_leadsBy_32 rfl ?_
      refine x_aloadA_n (pc := 35) hC dX7_leadsBy_35 rfl rfl k_110 (by decide) ?_
      refine x_iload_n (pc := 36) hC dX7_leadsBy_36 rfl rfl ?_
      refine x_iload_n (pc := 37) hC dX7_leadsBy_37 rfl rfl ?_
      obtain ⟨v14, e13, h⟩ := jbR_some h
      refine x_cV (pc := 38) hC mv_X7_70 (ok_X7_isAhead hn e13) rfl (Nat.le_of_ble_eq_true rfl) k_110 rfl (by decide) (jRo0 C) (Nat.le_of_ble_eq_true rfl) dX7_leadsBy_38 rfl ?_
      refine x_if_eq (tgt := 46) (pc := 41) hC dX7_leadsBy_41 (by decide) (fun hc => ?_) (fun hc => ?_)
      · replace h := jit_pos hc h
        obtain ⟨l3_15, el3_15, h⟩ := jlet_some h
        refine x_iinc (ls2 := [jA 110, jI l1, jI l2, jI l3_15]) (pc := 46) hC dX7_leadsBy_46 rfl (by decide) rfl el3_15 rfl ?_
        refine x_goto (tgt := 12) (pc := 49) hC dX7_leadsBy_49 (by decide) ?_
        exact Hself6 _ _ h
      · replace h := jit_neg hc h
        refine x_iconst (pc := 44) hC dX7_leadsBy_44 ?_
        exact x_zret (pc := 45) hC hR dX7_leadsBy_45 (Or.inl jw0) (jr1 h) (jr2 h)

set_option maxHeartbeats 4000000 in
set_option maxRecDepth 20000 in
theorem ok_X7_leaning {X : jX} {n : Nat} (hn : 179 ≤ n) {l1 : Int} {M : jM} {rz : Int} (h : f_X7_leaning l1 M = some rz) : jCt X n yX7_leaning cX7_leaning 7 (some .int) 2 [jA 110, jI l1] M (some (jI rz)) M := by
  refine jCt_of (own := RX7) (ls := [jA 110, jI l1, jN, jN, jN, jN, jN]) (by decide +kernel) rfl hn (Nat.le_of_ble_eq_true rfl) rfl ?_
  intro C hC hR
  unfold f_X7_leaning at h
  refine x_aloadA_n (pc := 0) hC dX7_leaning_0 rfl rfl k_110 (by decide) ?_
  obtain ⟨hk1, h⟩ := jck_some h
  refine x_gr (pc := 1) (ji := 0) hC fl_X7_33 rfl ft7_0 k_110 dX7_leaning_1 ?_
  obtain ⟨v3, e2, h⟩ := jbR_some h
  refine x_cV (pc := 4) hC mv_X7_78 (ok_X1_everyJudge hn hk1 e2) rfl (Nat.le_of_ble_eq_true rfl) hk1 rfl (by decide) (jRo0 C) (Nat.le_of_ble_eq_true rfl) dX7_leaning_4 rfl ?_
  refine x_istore_n (ls2 := [jA 110, jI l1, jI v3, jN, jN, jN, jN]) (pc := 7) hC dX7_leaning_7 rfl (by decide) rfl rfl rfl ?_
  refine x_iconst (pc := 8) hC dX7_leaning_8 ?_
  refine x_istore_n (ls2 := [jA 110, jI l1, jI v3, jI 0, jN, jN, jN]) (pc := 9) hC dX7_leaning_9 rfl (by decide) rfl rfl rfl ?_
  refine x_iconst (pc := 10) hC dX7_leaning_10 ?_
  refine x_istore (ls2 := [jA 110, jI l1, jI v3, jI 0, jI 0, jN, jN]) (pc := 11) hC dX7_leaning_11 (by decide) rfl rfl rfl ?_
  refine jlp2_ind (P := fun (l3_4 : Int) (l4_5 : Int) => jG C X n 7 0 0 13 [jA 110, jI l1, jI v3, jI l3_4, jI l4_5, jN, jN] [] M) ?_ _ _ _ h
  intro self6 l3_4 l4_5 Hself6 h
  refine x_iload (pc := 13) hC dX7_leaning_13 rfl ?_
  refine x_aloadA_n (pc := 15) hC dX7_leaning_15 rfl rfl k_110 (by decide) ?_
  obtain ⟨v8, e7, h⟩ := jbR_some h
  refine x_cV (pc := 16) hC mv_X7_52 (ok_X7_skaters hn e7) rfl (Nat.le_of_ble_eq_true rfl) k_110 rfl (by decide) (jRo0 C) (Nat.le_of_ble_eq_true rfl) dX7_leaning_16 rfl ?_
  refine x_icmp_ge (tgt := 101) (pc := 19) hC dX7_leaning_19 (by decide) (fun hc => ?_) (fun hc => ?_)
  · replace h := jit_pos hc h
    refine x_iload_n (pc := 101) hC dX7_leaning_101 rfl rfl ?_
    exact x_iret (pc := 102) hC hR dX7_leaning_102 (jrR h) rfl
  · replace h := jit_neg hc h
    refine x_aloadA_n (pc := 22) hC dX7_leaning_22 rfl rfl k_110 (by decide) ?_
    refine x_gr (pc := 23) (ji := 0) hC fl_X7_33 rfl ft7_0 k_110 dX7_leaning_23 ?_
    refine x_gf (pc := 26) (b := ((M 110 0) + 16)) hC fl_X7_81 ft1_7 hk1 (by decide) (off := 16) (by decide +kernel) rfl dX7_leaning_26 ?_
    refine x_iload (pc := 29) hC dX7_leaning_29 rfl ?_
    obtain ⟨hb9, h⟩ := jck_some h
    refine x_aald14 (pc := 31) hC (ko1_7 hk1) hb9 rfl dX7_leaning_31 ?_
    refine x_astoreA (ls2 := [jA 110, jI l1, jI v3, jI l3_4, jI l4_5, jA (((M 110 0) + 16) + 1 + 6 * jw l4_5), jN]) (pc := 32) hC dX7_leaning_32 (by decide) rfl (jsk (ko1_7 hk1) hb9.1 hb9.2) (by decide) rfl ?_
    refine x_iconst (pc := 34) hC dX7_leaning_34 ?_
    refine x_istore (ls2 := [jA 110, jI l1, jI v3, jI l3_4, jI l4_5, jA (((M 110 0) + 16) + 1 + 6 * jw l4_5), jI 0]) (pc := 35) hC dX7_leaning_35 (by decide) rfl rfl rfl ?_
    refine jlp2_ind (P := fun (l3_10 : Int) (l6_11 : Int) => jG C X n 7 0 0 37 [jA 110, jI l1, jI v3, jI l3_10, jI l4_5, jA (((M 110 0) + 16) + 1 + 6 * jw l4_5), jI l6_11] [] M) ?_ _ _ _ h
    intro self12 l3_10 l6_11 Hself12 h
    refine x_iload (pc := 37) hC dX7_leaning_37 rfl ?_
    refine x_aloadA (pc := 39) hC dX7_leaning_39 rfl (jsk (ko1_7 hk1) hb9.1 hb9.2) (by decide) ?_
    refine x_gi (pc := 41) (ji := 0) hC fl_X7_85 rfl fn6_0 (jsk (ko1_7 hk1) hb9.1 hb9.2) dX7_leaning_41 ?_
    refine x_icmp_ge (tgt := 95) (pc := 44) hC dX7_leaning_44 (by decide) (fun hc => ?_) (fun hc => ?_)
    · replace h := jit_pos hc h
      obtain ⟨l4_13, el4_13, h⟩ := jlet_some h
      refine x_iinc (ls2 := [jA 110, jI l1, jI v3, jI l3_10, jI l4_13, jA (((M 110 0) + 16) + 1 + 6 * jw l4_5), jI l6_11]) (pc := 95) hC dX7_leaning_95 rfl (by decide) rfl el4_13 rfl ?_
      refine x_goto (tgt := 13) (pc := 98) hC dX7_leaning_98 (by decide) ?_
      refine x_kill 5 (ls2 := [jA 110, jI l1, jI v3, jI l3_10, jI l4_13, jN, jI l6_11]) rfl ?_
      refine x_kill 6 (ls2 := [jA 110, jI l1, jI v3, jI l3_10, jI l4_13, jN, jN]) rfl ?_
      exact Hself6 _ _ h
    · replace h := jit_neg hc h
      refine x_aloadA (pc := 47) hC dX7_leaning_47 rfl (jsk (ko1_7 hk1) hb9.1 hb9.2) (by decide) ?_
      refine x_iload (pc := 49) hC dX7_leaning_49 rfl ?_
      obtain ⟨v15, e14, h⟩ := jbR_some h
      refine x_cV (pc := 51) hC mv_X7_90 (ok_X6_has hn (jsk (ko1_7 hk1) hb9.1 hb9.2) e14) rfl (Nat.le_of_ble_eq_true rfl) (jsk (ko1_7 hk1) hb9.1 hb9.2) rfl (by decide) (jRo0 C) (Nat.le_of_ble_eq_true rfl) dX7_leaning_51 rfl ?_
      refine x_if_eq (tgt := 89) (pc := 54) hC dX7_leaning_54 (by decide) (fun hc => ?_) (fun hc => ?_)
      · replace h := jit_pos hc h
        obtain ⟨l6_16, el6_16, h⟩ := jlet_some h
        refine x_iinc (ls2 := [jA 110, jI l1, jI v3, jI l3_10, jI l4_5, jA (((M 110 0) + 16) + 1 + 6 * jw l4_5), jI l6_16]) (pc := 89) hC dX7_leaning_89 rfl (by decide) rfl el6_16 rfl ?_
        refine x_goto (tgt := 37) (pc := 92) hC dX7_leaning_92 (by decide) ?_
        exact Hself12 _ _ h
      · replace h := jit_neg hc h
        refine x_iload_n (pc := 57) hC dX7_leaning_57 rfl rfl ?_
        refine x_bipush (pc := 58) hC dX7_leaning_58 rfl ?_
        refine x_aloadA (pc := 60) hC dX7_leaning_60 rfl (jsk (ko1_7 hk1) hb9.1 hb9.2) (by decide) ?_
        refine x_gf (pc := 62) (b := ((((M 110 0) + 16) + 1 + 6 * jw l4_5) + 5)) hC fl_X7_94 ft6_7 (jsk (ko1_7 hk1) hb9.1 hb9.2) (by decide) (off := 5) (by decide +kernel) rfl dX7_leaning_62 ?_
        refine x_iload (pc := 65) hC dX7_leaning_65 rfl ?_
        refine x_iload_n (pc := 67) hC dX7_leaning_67 rfl rfl ?_
        obtain ⟨v18, e17, h⟩ := jbR_some h
        refine x_cS (pc := 68) hC ms_X7_97 (ok_X9_voteOfGrade hn e17) rfl (Nat.le_of_ble_eq_true rfl) (jRo0 C) (Nat.le_of_ble_eq_true rfl) dX7_leaning_68 rfl ?_
        obtain ⟨hb19, h⟩ := jck_some h
        refine x_iald (pc := 71) hC (ko6_7 (jsk (ko1_7 hk1) hb9.1 hb9.2)) (by rw [lo6_7 (jsk (ko1_7 hk1) hb9.1 hb9.2)]; exact hb19) dX7_leaning_71 ?_
        refine x_imul (pc := 72) hC dX7_leaning_72 ?_
        refine x_aloadA_n (pc := 73) hC dX7_leaning_73 rfl rfl k_110 (by decide) ?_
        refine x_gf (pc := 74) (b := 111) hC fl_X7_11 ft7_1 k_110 (by decide) (off := 1) (by decide +kernel) (by decide) dX7_leaning_74 ?_
        refine x_iload (pc := 77) hC dX7_leaning_77 rfl ?_
        obtain ⟨hb20, h⟩ := jck_some h
        refine x_aald15 (pc := 79) hC k_111 hb20 rfl dX7_leaning_79 ?_
        refine x_iload (pc := 80) hC dX7_leaning_80 rfl ?_
        refine x_iload_n (pc := 82) hC dX7_leaning_82 rfl rfl ?_
        obtain ⟨v22, e21, h⟩ := jbR_some h
        refine x_cV (pc := 83) hC mv_X7_101 (ok_X8_trimmed hn (jta k_111 hb20.1 hb20.2) e21) rfl (Nat.le_of_ble_eq_true rfl) (jta k_111 hb20.1 hb20.2) rfl (by decide) (jRo0 C) (Nat.le_of_ble_eq_true rfl) dX7_leaning_83 rfl ?_
        refine x_isub (pc := 86) hC dX7_leaning_86 ?_
        refine x_iadd (pc := 87) hC dX7_leaning_87 ?_
        obtain ⟨l3_23, el3_23, h⟩ := jlet_some h
        refine x_istore_n (ls2 := [jA 110, jI l1, jI v3, jI l3_23, jI l4_5, jA (((M 110 0) + 16) + 1 + 6 * jw l4_5), jI l6_11]) (pc := 88) hC dX7_leaning_88 rfl (by decide) rfl el3_23 rfl ?_
        obtain ⟨l6_24, el6_24, h⟩ := jlet_some h
        refine x_iinc (ls2 := [jA 110, jI l1, jI v3, jI l3_23, jI l4_5, jA (((M 110 0) + 16) + 1 + 6 * jw l4_5), jI l6_24]) (pc := 89) hC dX7_leaning_89 rfl (by decide) rfl el6_24 rfl ?_
        refine x_goto (tgt := 37) (pc := 92) hC dX7_leaning_92 (by decide) ?_
        exact Hself12 _ _ h

set_option maxHeartbeats 4000000 in
set_option maxRecDepth 20000 in
theorem ok_X7_farthestLeaning {X : jX} {n : Nat} (hn : 179 ≤ n) {M : jM} {rz : Int} (h : f_X7_farthestLeaning M = some rz) : jCt X n yX7_farthestLeaning cX7_farthestLeaning 5 (some .int) 3 [jA 110] M (some (jI rz)) M := by
  refine jCt_of (own := RX7) (ls := [jA 110, jN, jN, jN, jN]) (by decide +kernel) rfl hn (Nat.le_of_ble_eq_true rfl) rfl ?_
  intro C hC hR
  unfold f_X7_farthestLeaning at h
  refine x_iconst (pc := 0) hC dX7_farthestLeaning_0 ?_
  refine x_istore_n (ls2 := [jA 110, jI 0, jN, jN, jN]) (pc := 1) hC dX7_farthestLeaning_1 rfl (by decide) rfl rfl rfl ?_
  refine x_iconst (pc := 2) hC dX7_farthestLeaning_2 ?_
  refine x_istore_n (ls2 := [jA 110, jI 0, jI 0, jN, jN]) (pc := 3) hC dX7_farthestLeaning_3 rfl (by decide) rfl rfl rfl ?_
  refine x_iconst (pc := 4) hC dX7_farthestLeaning_4 ?_
  refine x_istore_n (ls2 := [jA 110, jI 0, jI 0, jI 0, jN]) (pc := 5) hC dX7_farthestLeaning_5 rfl (by decide) rfl rfl rfl ?_
  refine jlp3_ind (P := fun (l1_1 : Int) (l2_2 : Int) (l3_3 : Int) => jG C X n 5 0 0 6 [jA 110, jI l1_1, jI l2_2, jI l3_3, jN] [] M) ?_ _ _ _ _ h
  intro self4 l1_1 l2_2 l3_3 Hself4 h
  refine x_iload_n (pc := 6) hC dX7_farthestLeaning_6 rfl rfl ?_
  refine x_aloadA_n (pc := 7) hC dX7_farthestLeaning_7 rfl rfl k_110 (by decide) ?_
  obtain ⟨hk5, h⟩ := jck_some h
  refine x_gr (pc := 8) (ji := 0) hC fl_X7_33 rfl ft7_0 k_110 dX7_farthestLeaning_8 ?_
  refine x_gi (pc := 11) (ji := 0) hC fl_X7_104 rfl fn1_0 hk5 dX7_farthestLeaning_11 ?_
  refine x_icmp_ge (tgt := 44) (pc := 14) hC dX7_farthestLeaning_14 (by decide) (fun hc => ?_) (fun hc => ?_)
  · replace h := jit_pos hc h
    refine x_iload_n (pc := 44) hC dX7_farthestLeaning_44 rfl rfl ?_
    exact x_iret (pc := 45) hC hR dX7_farthestLeaning_45 (jrR h) rfl
  · replace h := jit_neg hc h
    refine x_aloadA_n (pc := 17) hC dX7_farthestLeaning_17 rfl rfl k_110 (by decide) ?_
    refine x_iload_n (pc := 18) hC dX7_farthestLeaning_18 rfl rfl ?_
    obtain ⟨v7, e6, h⟩ := jbR_some h
    refine x_cV (pc := 19) hC mv_X7_107 (ok_X7_leaning hn e6) rfl (Nat.le_of_ble_eq_true rfl) k_110 rfl (by decide) (jRo0 C) (Nat.le_of_ble_eq_true rfl) dX7_farthestLeaning_19 rfl ?_
    obtain ⟨v9, e8, h⟩ := jbR_some h
    refine x_cS (pc := 22) hC ms_X7_110 (ok_J9_abs_0f7a4 hn e8) rfl (Nat.le_of_ble_eq_true rfl) (jRo0 C) (Nat.le_of_ble_eq_true rfl) dX7_farthestLeaning_22 rfl ?_
    refine x_istore (ls2 := [jA 110, jI l1_1, jI l2_2, jI l3_3, jI v9]) (pc := 25) hC dX7_farthestLeaning_25 (by decide) rfl rfl rfl ?_
    refine x_iload (pc := 27) hC dX7_farthestLeaning_27 rfl ?_
    refine x_iload_n (pc := 29) hC dX7_farthestLeaning_29 rfl rfl ?_
    refine x_icmp_le (tgt := 38) (pc := 30) hC dX7_farthestLeaning_30 (by decide) (fun hc => ?_) (fun hc => ?_)
    · replace h := jit_pos hc h
      obtain ⟨l3_10, el3_10, h⟩ := jlet_some h
      refine x_iinc (ls2 := [jA 110, jI l1_1, jI l2_2, jI l3_10, jI v9]) (pc := 38) hC dX7_farthestLeaning_38 rfl (by decide) rfl el3_10 rfl ?_
      refine x_goto (tgt := 6) (pc := 41) hC dX7_farthestLeaning_41 (by decide) ?_
      refine x_kill 4 (ls2 := [jA 110, jI l1_1, jI l2_2, jI l3_10, jN]) rfl ?_
      exact Hself4 _ _ _ h
    · replace h := jit_neg hc h
      refine x_iload (pc := 33) hC dX7_farthestLeaning_33 rfl ?_
      refine x_istore_n (ls2 := [jA 110, jI l1_1, jI v9, jI l3_3, jI v9]) (pc := 35) hC dX7_farthestLeaning_35 rfl (by decide) rfl rfl rfl ?_
      refine x_iload_n (pc := 36) hC dX7_farthestLeaning_36 rfl rfl ?_
      refine x_istore_n (ls2 := [jA 110, jI l3_3, jI v9, jI l3_3, jI v9]) (pc := 37) hC dX7_farthestLeaning_37 rfl (by decide) rfl rfl rfl ?_
      obtain ⟨l3_11, el3_11, h⟩ := jlet_some h
      refine x_iinc (ls2 := [jA 110, jI l3_3, jI v9, jI l3_11, jI v9]) (pc := 38) hC dX7_farthestLeaning_38 rfl (by decide) rfl el3_11 rfl ?_
      refine x_goto (tgt := 6) (pc := 41) hC dX7_farthestLeaning_41 (by decide) ?_
      refine x_kill 4 (ls2 := [jA 110, jI l3_3, jI v9, jI l3_11, jN]) rfl ?_
      exact Hself4 _ _ _ h

set_option maxHeartbeats 4000000 in
set_option maxRecDepth 20000 in
theorem ok_X7_turnedPairs {X : jX} {n : Nat} (hn : 179 ≤ n) {l1 : Int} {M : jM} {rz : Int} {Mz : jM} (h : f_X7_turnedPairs l1 M = some (rz, Mz)) : jCt X n yX7_turnedPairs cX7_turnedPairs 5 (some .int) 5 [jA 110, jI l1] M (some (jI rz)) Mz := by
  refine jCt_of (own := RX7) (ls := [jA 110, jI l1, jN, jN, jN]) (by decide +kernel) rfl hn (Nat.le_of_ble_eq_true rfl) rfl ?_
  intro C hC hR
  unfold f_X7_turnedPairs at h
  refine x_iconst (pc := 0) hC dX7_turnedPairs_0 ?_
  refine x_istore_n (ls2 := [jA 110, jI l1, jI 0, jN, jN]) (pc := 1) hC dX7_turnedPairs_1 rfl (by decide) rfl rfl rfl ?_
  refine jlp2_ind (P := fun (l2_1 : Int) (M2 : jM) => jG C X n 5 0 0 2 [jA 110, jI l1, jI l2_1, jN, jN] [] M2) ?_ _ _ _ h
  intro self3 l2_1 M2 Hself3 h
  refine x_iload_n (pc := 2) hC dX7_turnedPairs_2 rfl rfl ?_
  refine x_aloadA_n (pc := 3) hC dX7_turnedPairs_3 rfl rfl k_110 (by decide) ?_
  obtain ⟨v5, e4, h⟩ := jbR_some h
  refine x_cV (pc := 4) hC mv_X7_52 (ok_X7_skaters hn e4) rfl (Nat.le_of_ble_eq_true rfl) k_110 rfl (by decide) (jRo0 C) (Nat.le_of_ble_eq_true rfl) dX7_turnedPairs_4 rfl ?_
  refine x_icmp_ge (tgt := 27) (pc := 7) hC dX7_turnedPairs_7 (by decide) (fun hc => ?_) (fun hc => ?_)
  · replace h := jit_pos hc h
    refine x_aloadA_n (pc := 27) hC dX7_turnedPairs_27 rfl rfl k_110 (by decide) ?_
    refine x_iload_n (pc := 28) hC dX7_turnedPairs_28 rfl rfl ?_
    obtain ⟨M7, e6, h⟩ := jbV_some h
    refine x_cV (pc := 29) hC mv_X7_115 (ok_X7_judgeBy hn e6) rfl (Nat.le_of_ble_eq_true rfl) k_110 rfl (by decide) (jRo0 C) (Nat.le_of_ble_eq_true rfl) dX7_turnedPairs_29 rfl ?_
    refine x_iconst (pc := 32) hC dX7_turnedPairs_32 ?_
    refine x_istore_n (ls2 := [jA 110, jI l1, jI 0, jN, jN]) (pc := 33) hC dX7_turnedPairs_33 rfl (by decide) rfl rfl rfl ?_
    refine x_iconst (pc := 34) hC dX7_turnedPairs_34 ?_
    refine x_istore_n (ls2 := [jA 110, jI l1, jI 0, jI 0, jN]) (pc := 35) hC dX7_turnedPairs_35 rfl (by decide) rfl rfl rfl ?_
    refine jlp2_ind (P := fun (l2_8 : Int) (l3_9 : Int) => jG C X n 5 0 0 36 [jA 110, jI l1, jI l2_8, jI l3_9, jN] [] M7) ?_ _ _ _ h
    intro self10 l2_8 l3_9 Hself10 h
    refine x_iload_n (pc := 36) hC dX7_turnedPairs_36 rfl rfl ?_
    refine x_aloadA_n (pc := 37) hC dX7_turnedPairs_37 rfl rfl k_110 (by decide) ?_
    obtain ⟨v12, e11, h⟩ := jbR_some h
    refine x_cV (pc := 38) hC mv_X7_52 (ok_X7_skaters hn e11) rfl (Nat.le_of_ble_eq_true rfl) k_110 rfl (by decide) (jRo0 C) (Nat.le_of_ble_eq_true rfl) dX7_turnedPairs_38 rfl ?_
    refine x_icmp_ge (tgt := 104) (pc := 41) hC dX7_turnedPairs_41 (by decide) (fun hc => ?_) (fun hc => ?_)
    · replace h := jit_pos hc h
      refine x_iload_n (pc := 104) hC dX7_turnedPairs_104 rfl rfl ?_
      exact x_iret (pc := 105) hC hR dX7_turnedPairs_105 (jr1 h) (jr2 h)
    · replace h := jit_neg hc h
      refine x_iload_n (pc := 44) hC dX7_turnedPairs_44 rfl rfl ?_
      refine x_iconst (pc := 45) hC dX7_turnedPairs_45 ?_
      refine x_iadd (pc := 46) hC dX7_turnedPairs_46 ?_
      obtain ⟨l4_13, el4_13, h⟩ := jlet_some h
      refine x_istore (ls2 := [jA 110, jI l1, jI l2_8, jI l3_9, jI l4_13]) (pc := 47) hC dX7_turnedPairs_47 (by decide) rfl el4_13 rfl ?_
      refine jlp2_ind (P := fun (l2_14 : Int) (l4_15 : Int) => jG C X n 5 0 0 49 [jA 110, jI l1, jI l2_14, jI l3_9, jI l4_15] [] M7) ?_ _ _ _ h
      intro self16 l2_14 l4_15 Hself16 h
      refine x_iload (pc := 49) hC dX7_turnedPairs_49 rfl ?_
      refine x_aloadA_n (pc := 51) hC dX7_turnedPairs_51 rfl rfl k_110 (by decide) ?_
      obtain ⟨v18, e17, h⟩ := jbR_some h
      refine x_cV (pc := 52) hC mv_X7_52 (ok_X7_skaters hn e17) rfl (Nat.le_of_ble_eq_true rfl) k_110 rfl (by decide) (jRo0 C) (Nat.le_of_ble_eq_true rfl) dX7_turnedPairs_52 rfl ?_
      refine x_icmp_ge (tgt := 98) (pc := 55) hC dX7_turnedPairs_55 (by decide) (fun hc => ?_) (fun hc => ?_)
      · replace h := jit_pos hc h
        obtain ⟨l3_19, el3_19, h⟩ := jlet_some h
        refine x_iinc (ls2 := [jA 110, jI l1, jI l2_14, jI l3_19, jI l4_15]) (pc := 98) hC dX7_turnedPairs_98 rfl (by decide) rfl el3_19 rfl ?_
        refine x_goto (tgt := 36) (pc := 101) hC dX7_turnedPairs_101 (by decide) ?_
        refine x_kill 4 (ls2 := [jA 110, jI l1, jI l2_14, jI l3_19, jN]) rfl ?_
        exact Hself10 _ _ h
      · replace h := jit_neg hc h
        refine x_aloadA_n (pc := 58) hC dX7_turnedPairs_58 rfl rfl k_110 (by decide) ?_
        refine x_gf (pc := 59) (b := 112) hC fl_X7_17 ft7_2 k_110 (by decide) (off := 2) (by decide +kernel) (by decide) dX7_turnedPairs_59 ?_
        refine x_iload_n (pc := 62) hC dX7_turnedPairs_62 rfl rfl ?_
        obtain ⟨hb20, h⟩ := jck_some h
        refine x_iald (pc := 63) hC k_112 (by rw [l_112]; exact hb20) dX7_turnedPairs_63 ?_
        refine x_aloadA_n (pc := 64) hC dX7_turnedPairs_64 rfl rfl k_110 (by decide) ?_
        refine x_gf (pc := 65) (b := 112) hC fl_X7_17 ft7_2 k_110 (by decide) (off := 2) (by decide +kernel) (by decide) dX7_turnedPairs_65 ?_
        refine x_iload (pc := 68) hC dX7_turnedPairs_68 rfl ?_
        obtain ⟨hb21, h⟩ := jck_some h
        refine x_iald (pc := 70) hC k_112 (by rw [l_112]; exact hb21) dX7_turnedPairs_70 ?_
        obtain ⟨k23, Hk23, h⟩ := jk_some (P := fun k23 => ∀ (s0_22 : Int), k23 s0_22 = some (rz, Mz) → jG C X n 5 0 0 79 [jA 110, jI l1, jI l2_14, jI l3_9, jI l4_15] [jI s0_22] M7) h (by
          intro s0_22 h
          refine x_aloadA_n (pc := 79) hC dX7_turnedPairs_79 rfl rfl k_110 (by decide) ?_
          refine x_iload_n (pc := 80) hC dX7_turnedPairs_80 rfl rfl ?_
          refine x_iload (pc := 81) hC dX7_turnedPairs_81 rfl ?_
          obtain ⟨v25, e24, h⟩ := jbR_some h
          refine x_cV (pc := 83) hC mv_X7_70 (ok_X7_isAhead hn e24) rfl (Nat.le_of_ble_eq_true rfl) k_110 rfl (by decide) (jRo0 C) (Nat.le_of_ble_eq_true rfl) dX7_turnedPairs_83 rfl ?_
          refine x_icmp_eq (tgt := 92) (pc := 86) hC dX7_turnedPairs_86 (by decide) (fun hc => ?_) (fun hc => ?_)
          · replace h := jit_pos hc h
            obtain ⟨l4_26, el4_26, h⟩ := jlet_some h
            refine x_iinc (ls2 := [jA 110, jI l1, jI l2_14, jI l3_9, jI l4_26]) (pc := 92) hC dX7_turnedPairs_92 rfl (by decide) rfl el4_26 rfl ?_
            refine x_goto (tgt := 49) (pc := 95) hC dX7_turnedPairs_95 (by decide) ?_
            exact Hself16 _ _ h
          · replace h := jit_neg hc h
            obtain ⟨l2_27, el2_27, h⟩ := jlet_some h
            refine x_iinc (ls2 := [jA 110, jI l1, jI l2_27, jI l3_9, jI l4_15]) (pc := 89) hC dX7_turnedPairs_89 rfl (by decide) rfl el2_27 rfl ?_
            obtain ⟨l4_28, el4_28, h⟩ := jlet_some h
            refine x_iinc (ls2 := [jA 110, jI l1, jI l2_27, jI l3_9, jI l4_28]) (pc := 92) hC dX7_turnedPairs_92 rfl (by decide) rfl el4_28 rfl ?_
            refine x_goto (tgt := 49) (pc := 95) hC dX7_turnedPairs_95 (by decide) ?_
            exact Hself16 _ _ h)
        refine x_icmp_ge (tgt := 78) (pc := 71) hC dX7_turnedPairs_71 (by decide) (fun hc => ?_) (fun hc => ?_)
        · replace h := jit_pos hc h
          refine x_iconst (pc := 78) hC dX7_turnedPairs_78 ?_
          exact Hk23 _ h
        · replace h := jit_neg hc h
          refine x_iconst (pc := 74) hC dX7_turnedPairs_74 ?_
          refine x_goto (tgt := 79) (pc := 75) hC dX7_turnedPairs_75 (by decide) ?_
          exact Hk23 _ h
  · replace h := jit_neg hc h
    refine x_aloadA_n (pc := 10) hC dX7_turnedPairs_10 rfl rfl k_110 (by decide) ?_
    refine x_gf (pc := 11) (b := 112) hC fl_X7_17 ft7_2 k_110 (by decide) (off := 2) (by decide +kernel) (by decide) dX7_turnedPairs_11 ?_
    refine x_iload_n (pc := 14) hC dX7_turnedPairs_14 rfl rfl ?_
    refine x_aloadA_n (pc := 15) hC dX7_turnedPairs_15 rfl rfl k_110 (by decide) ?_
    refine x_iload_n (pc := 16) hC dX7_turnedPairs_16 rfl rfl ?_
    obtain ⟨v30, e29, h⟩ := jbR_some h
    refine x_cV (pc := 17) hC mv_X7_74 (ok_X7_rankOf hn e29) rfl (Nat.le_of_ble_eq_true rfl) k_110 rfl (by decide) (jRo0 C) (Nat.le_of_ble_eq_true rfl) dX7_turnedPairs_17 rfl ?_
    obtain ⟨hb31, h⟩ := jck_some h
    obtain ⟨M32, eM32, h⟩ := jlet_some h
    refine x_iast (pc := 20) hC k_112 (by rw [l_112]; exact hb31) dX7_turnedPairs_20 eM32 ?_
    obtain ⟨l2_33, el2_33, h⟩ := jlet_some h
    refine x_iinc (ls2 := [jA 110, jI l1, jI l2_33, jN, jN]) (pc := 21) hC dX7_turnedPairs_21 rfl (by decide) rfl el2_33 rfl ?_
    refine x_goto (tgt := 2) (pc := 24) hC dX7_turnedPairs_24 (by decide) ?_
    exact Hself3 _ _ h

set_option maxHeartbeats 4000000 in
set_option maxRecDepth 20000 in
theorem ok_X7_backersFor {X : jX} {n : Nat} (hn : 179 ≤ n) {l1 : Int} {l2 : Int} {M : jM} {rz : Int} (h : f_X7_backersFor l1 l2 M = some rz) : jCt X n yX7_backersFor cX7_backersFor 5 (some .int) 0 [jA 110, jI l1, jI l2] M (some (jI rz)) M := by
  refine jCt_of (own := RX7) (ls := [jA 110, jI l1, jI l2, jN, jN]) (by decide +kernel) rfl hn (Nat.le_of_ble_eq_true rfl) rfl ?_
  intro C hC hR
  unfold f_X7_backersFor at h
  refine x_iconst (pc := 0) hC dX7_backersFor_0 ?_
  refine x_istore_n (ls2 := [jA 110, jI l1, jI l2, jI 0, jN]) (pc := 1) hC dX7_backersFor_1 rfl (by decide) rfl rfl rfl ?_
  refine x_iconst (pc := 2) hC dX7_backersFor_2 ?_
  refine x_istore (ls2 := [jA 110, jI l1, jI l2, jI 0, jI 0]) (pc := 3) hC dX7_backersFor_3 (by decide) rfl rfl rfl ?_
  refine jlp2_ind (P := fun (l3_1 : Int) (l4_2 : Int) => jG C X n 5 0 0 5 [jA 110, jI l1, jI l2, jI l3_1, jI l4_2] [] M) ?_ _ _ _ h
  intro self3 l3_1 l4_2 Hself3 h
  refine x_iload (pc := 5) hC dX7_backersFor_5 rfl ?_
  refine x_aloadA_n (pc := 7) hC dX7_backersFor_7 rfl rfl k_110 (by decide) ?_
  obtain ⟨hk4, h⟩ := jck_some h
  refine x_gr (pc := 8) (ji := 0) hC fl_X7_33 rfl ft7_0 k_110 dX7_backersFor_8 ?_
  refine x_gi (pc := 11) (ji := 0) hC fl_X7_104 rfl fn1_0 hk4 dX7_backersFor_11 ?_
  refine x_icmp_ge (tgt := 42) (pc := 14) hC dX7_backersFor_14 (by decide) (fun hc => ?_) (fun hc => ?_)
  · replace h := jit_pos hc h
    refine x_iload_n (pc := 42) hC dX7_backersFor_42 rfl rfl ?_
    exact x_iret (pc := 43) hC hR dX7_backersFor_43 (jrR h) rfl
  · replace h := jit_neg hc h
    refine x_aloadA_n (pc := 17) hC dX7_backersFor_17 rfl rfl k_110 (by decide) ?_
    refine x_gf (pc := 18) (b := 113) hC fl_X7_21 ft7_3 k_110 (by decide) (off := 3) (by decide +kernel) (by decide) dX7_backersFor_18 ?_
    refine x_iload_n (pc := 21) hC dX7_backersFor_21 rfl rfl ?_
    refine x_bipush (pc := 22) hC dX7_backersFor_22 rfl ?_
    refine x_imul (pc := 24) hC dX7_backersFor_24 ?_
    refine x_iload (pc := 25) hC dX7_backersFor_25 rfl ?_
    refine x_iadd (pc := 27) hC dX7_backersFor_27 ?_
    obtain ⟨hb5, h⟩ := jck_some h
    refine x_iald (pc := 28) hC k_113 (by rw [l_113]; exact hb5) dX7_backersFor_28 ?_
    refine x_iload_n (pc := 29) hC dX7_backersFor_29 rfl rfl ?_
    refine x_icmp_gt (tgt := 36) (pc := 30) hC dX7_backersFor_30 (by decide) (fun hc => ?_) (fun hc => ?_)
    · replace h := jit_pos hc h
      obtain ⟨l4_6, el4_6, h⟩ := jlet_some h
      refine x_iinc (ls2 := [jA 110, jI l1, jI l2, jI l3_1, jI l4_6]) (pc := 36) hC dX7_backersFor_36 rfl (by decide) rfl el4_6 rfl ?_
      refine x_goto (tgt := 5) (pc := 39) hC dX7_backersFor_39 (by decide) ?_
      exact Hself3 _ _ h
    · replace h := jit_neg hc h
      obtain ⟨l3_7, el3_7, h⟩ := jlet_some h
      refine x_iinc (ls2 := [jA 110, jI l1, jI l2, jI l3_7, jI l4_2]) (pc := 33) hC dX7_backersFor_33 rfl (by decide) rfl el3_7 rfl ?_
      obtain ⟨l4_8, el4_8, h⟩ := jlet_some h
      refine x_iinc (ls2 := [jA 110, jI l1, jI l2, jI l3_7, jI l4_8]) (pc := 36) hC dX7_backersFor_36 rfl (by decide) rfl el4_8 rfl ?_
      refine x_goto (tgt := 5) (pc := 39) hC dX7_backersFor_39 (by decide) ?_
      exact Hself3 _ _ h

set_option maxHeartbeats 4000000 in
set_option maxRecDepth 20000 in
theorem ok_X7_findMajority {X : jX} {n : Nat} (hn : 179 ≤ n) {l1 : Int} {M : jM} {Mz : jM} (h : f_X7_findMajority l1 M = some Mz) : jCt X n yX7_findMajority cX7_findMajority 4 (none) 1 [jA 110, jI l1] M (none) Mz := by
  refine jCt_of (own := RX7) (ls := [jA 110, jI l1, jN, jN]) (by decide +kernel) rfl hn (Nat.le_of_ble_eq_true rfl) rfl ?_
  intro C hC hR
  unfold f_X7_findMajority at h
  refine x_aloadA_n (pc := 0) hC dX7_findMajority_0 rfl rfl k_110 (by decide) ?_
  refine x_gf (pc := 1) (b := 116) hC fl_X7_30 ft7_6 k_110 (by decide) (off := 6) (by decide +kernel) (by decide) dX7_findMajority_1 ?_
  refine x_iload_n (pc := 4) hC dX7_findMajority_4 rfl rfl ?_
  refine x_iconst (pc := 5) hC dX7_findMajority_5 ?_
  obtain ⟨hb1, h⟩ := jck_some h
  obtain ⟨M2, eM2, h⟩ := jlet_some h
  refine x_iast (pc := 6) hC k_116 (by rw [l_116]; exact hb1) dX7_findMajority_6 eM2 ?_
  refine x_iconst (pc := 7) hC dX7_findMajority_7 ?_
  refine x_istore_n (ls2 := [jA 110, jI l1, jI 0, jN]) (pc := 8) hC dX7_findMajority_8 rfl (by decide) rfl rfl rfl ?_
  refine jlp2_ind (P := fun (l2_3 : Int) (M4 : jM) => jG C X n 4 0 0 9 [jA 110, jI l1, jI l2_3, jN] [] M4) ?_ _ _ _ h
  intro self5 l2_3 M4 Hself5 h
  refine x_iload_n (pc := 9) hC dX7_findMajority_9 rfl rfl ?_
  refine x_aloadA_n (pc := 10) hC dX7_findMajority_10 rfl rfl k_110 (by decide) ?_
  obtain ⟨hk6, h⟩ := jck_some h
  refine x_gr (pc := 11) (ji := 0) hC fl_X7_33 rfl ft7_0 k_110 dX7_findMajority_11 ?_
  refine x_gi (pc := 14) (ji := 0) hC fl_X7_104 rfl fn1_0 hk6 dX7_findMajority_14 ?_
  refine x_icmp_ge (tgt := 46) (pc := 17) hC dX7_findMajority_17 (by decide) (fun hc => ?_) (fun hc => ?_)
  · replace h := jit_pos hc h
    refine x_iconst (pc := 46) hC dX7_findMajority_46 ?_
    refine x_istore_n (ls2 := [jA 110, jI l1, jI 0, jN]) (pc := 47) hC dX7_findMajority_47 rfl (by decide) rfl rfl rfl ?_
    refine jlp1_ind (P := fun (l2_7 : Int) => jG C X n 4 0 0 48 [jA 110, jI l1, jI l2_7, jN] [] M4) ?_ _ _ h
    intro self8 l2_7 Hself8 h
    refine x_iload_n (pc := 48) hC dX7_findMajority_48 rfl rfl ?_
    refine x_aloadA_n (pc := 49) hC dX7_findMajority_49 rfl rfl k_110 (by decide) ?_
    obtain ⟨v10, e9, h⟩ := jbR_some h
    refine x_cV (pc := 50) hC mv_X7_52 (ok_X7_skaters hn e9) rfl (Nat.le_of_ble_eq_true rfl) k_110 rfl (by decide) (jRo0 C) (Nat.le_of_ble_eq_true rfl) dX7_findMajority_50 rfl ?_
    refine x_icmp_ge (tgt := 97) (pc := 53) hC dX7_findMajority_53 (by decide) (fun hc => ?_) (fun hc => ?_)
    · replace h := jit_pos hc h
      exact x_vret (pc := 97) hC hR dX7_findMajority_97 (jrR h)
    · replace h := jit_neg hc h
      refine x_aloadA_n (pc := 56) hC dX7_findMajority_56 rfl rfl k_110 (by decide) ?_
      refine x_iload_n (pc := 57) hC dX7_findMajority_57 rfl rfl ?_
      refine x_iload_n (pc := 58) hC dX7_findMajority_58 rfl rfl ?_
      obtain ⟨v12, e11, h⟩ := jbR_some h
      refine x_cV (pc := 59) hC mv_X7_119 (ok_X7_backersFor hn e11) rfl (Nat.le_of_ble_eq_true rfl) k_110 rfl (by decide) (jRo0 C) (Nat.le_of_ble_eq_true rfl) dX7_findMajority_59 rfl ?_
      refine x_istore_n (ls2 := [jA 110, jI l1, jI l2_7, jI v12]) (pc := 62) hC dX7_findMajority_62 rfl (by decide) rfl rfl rfl ?_
      refine x_iconst (pc := 63) hC dX7_findMajority_63 ?_
      refine x_iload_n (pc := 64) hC dX7_findMajority_64 rfl rfl ?_
      refine x_imul (pc := 65) hC dX7_findMajority_65 ?_
      refine x_aloadA_n (pc := 66) hC dX7_findMajority_66 rfl rfl k_110 (by decide) ?_
      refine x_gr (pc := 67) (ji := 0) hC fl_X7_33 rfl ft7_0 k_110 dX7_findMajority_67 ?_
      refine x_gi (pc := 70) (ji := 0) hC fl_X7_104 rfl fn1_0 hk6 dX7_findMajority_70 ?_
      refine x_icmp_le (tgt := 91) (pc := 73) hC dX7_findMajority_73 (by decide) (fun hc => ?_) (fun hc => ?_)
      · replace h := jit_pos hc h
        obtain ⟨l2_13, el2_13, h⟩ := jlet_some h
        refine x_iinc (ls2 := [jA 110, jI l1, jI l2_13, jI v12]) (pc := 91) hC dX7_findMajority_91 rfl (by decide) rfl el2_13 rfl ?_
        refine x_goto (tgt := 48) (pc := 94) hC dX7_findMajority_94 (by decide) ?_
        refine x_kill 3 (ls2 := [jA 110, jI l1, jI l2_13, jN]) rfl ?_
        exact Hself8 _ h
      · replace h := jit_neg hc h
        refine x_aloadA_n (pc := 76) hC dX7_findMajority_76 rfl rfl k_110 (by decide) ?_
        refine x_gf (pc := 77) (b := 114) hC fl_X7_24 ft7_4 k_110 (by decide) (off := 4) (by decide +kernel) (by decide) dX7_findMajority_77 ?_
        refine x_iload_n (pc := 80) hC dX7_findMajority_80 rfl rfl ?_
        refine x_iload_n (pc := 81) hC dX7_findMajority_81 rfl rfl ?_
        obtain ⟨hb14, h⟩ := jck_some h
        obtain ⟨M15, eM15, h⟩ := jlet_some h
        refine x_iast (pc := 82) hC k_114 (by rw [l_114]; exact hb14) dX7_findMajority_82 eM15 ?_
        refine x_aloadA_n (pc := 83) hC dX7_findMajority_83 rfl rfl k_110 (by decide) ?_
        refine x_gf (pc := 84) (b := 115) hC fl_X7_27 ft7_5 k_110 (by decide) (off := 5) (by decide +kernel) (by decide) dX7_findMajority_84 ?_
        refine x_iload_n (pc := 87) hC dX7_findMajority_87 rfl rfl ?_
        refine x_iload_n (pc := 88) hC dX7_findMajority_88 rfl rfl ?_
        obtain ⟨hb16, h⟩ := jck_some h
        obtain ⟨M17, eM17, h⟩ := jlet_some h
        refine x_iast (pc := 89) hC k_115 (by rw [l_115]; exact hb16) dX7_findMajority_89 eM17 ?_
        exact x_vret (pc := 90) hC hR dX7_findMajority_90 (jrR h)
  · replace h := jit_neg hc h
    refine x_aloadA_n (pc := 20) hC dX7_findMajority_20 rfl rfl k_110 (by decide) ?_
    refine x_gf (pc := 21) (b := 116) hC fl_X7_30 ft7_6 k_110 (by decide) (off := 6) (by decide +kernel) (by decide) dX7_findMajority_21 ?_
    refine x_iload_n (pc := 24) hC dX7_findMajority_24 rfl rfl ?_
    refine x_dup2 (pc := 25) hC dX7_findMajority_25 (show (1 : Nat) ≠ 3 by decide) (show (2 : Nat) ≠ 3 by decide) ?_
    obtain ⟨hb18, h⟩ := jck_some h
    refine x_iald (pc := 26) hC k_116 (by rw [l_116]; exact hb18) dX7_findMajority_26 ?_
    refine x_aloadA_n (pc := 27) hC dX7_findMajority_27 rfl rfl k_110 (by decide) ?_
    refine x_gf (pc := 28) (b := 113) hC fl_X7_21 ft7_3 k_110 (by decide) (off := 3) (by decide +kernel) (by decide) dX7_findMajority_28 ?_
    refine x_iload_n (pc := 31) hC dX7_findMajority_31 rfl rfl ?_
    refine x_bipush (pc := 32) hC dX7_findMajority_32 rfl ?_
    refine x_imul (pc := 34) hC dX7_findMajority_34 ?_
    refine x_iload_n (pc := 35) hC dX7_findMajority_35 rfl rfl ?_
    refine x_iadd (pc := 36) hC dX7_findMajority_36 ?_
    obtain ⟨hb19, h⟩ := jck_some h
    refine x_iald (pc := 37) hC k_113 (by rw [l_113]; exact hb19) dX7_findMajority_37 ?_
    refine x_iadd (pc := 38) hC dX7_findMajority_38 ?_
    obtain ⟨hb20, h⟩ := jck_some h
    obtain ⟨M21, eM21, h⟩ := jlet_some h
    refine x_iast (pc := 39) hC k_116 (by rw [l_116]; exact hb20) dX7_findMajority_39 eM21 ?_
    obtain ⟨l2_22, el2_22, h⟩ := jlet_some h
    refine x_iinc (ls2 := [jA 110, jI l1, jI l2_22, jN]) (pc := 40) hC dX7_findMajority_40 rfl (by decide) rfl el2_22 rfl ?_
    refine x_goto (tgt := 9) (pc := 43) hC dX7_findMajority_43 (by decide) ?_
    exact Hself5 _ _ h

set_option maxHeartbeats 4000000 in
set_option maxRecDepth 20000 in
theorem ok_X7_findMajorities {X : jX} {n : Nat} (hn : 179 ≤ n) {M : jM} {Mz : jM} (h : f_X7_findMajorities M = some Mz) : jCt X n yX7_findMajorities cX7_findMajorities 3 (none) 5 [jA 110] M (none) Mz := by
  refine jCt_of (own := RX7) (ls := [jA 110, jN, jN]) (by decide +kernel) rfl hn (Nat.le_of_ble_eq_true rfl) rfl ?_
  intro C hC hR
  unfold f_X7_findMajorities at h
  refine x_iconst (pc := 0) hC dX7_findMajorities_0 ?_
  refine x_istore_n (ls2 := [jA 110, jI 0, jN]) (pc := 1) hC dX7_findMajorities_1 rfl (by decide) rfl rfl rfl ?_
  refine jlp2_ind (P := fun (l1_1 : Int) (M2 : jM) => jG C X n 3 0 0 2 [jA 110, jI l1_1, jN] [] M2) ?_ _ _ _ h
  intro self3 l1_1 M2 Hself3 h
  refine x_iload_n (pc := 2) hC dX7_findMajorities_2 rfl rfl ?_
  refine x_aloadA_n (pc := 3) hC dX7_findMajorities_3 rfl rfl k_110 (by decide) ?_
  obtain ⟨hk4, h⟩ := jck_some h
  refine x_gr (pc := 4) (ji := 0) hC fl_X7_33 rfl ft7_0 k_110 dX7_findMajorities_4 ?_
  refine x_gi (pc := 7) (ji := 0) hC fl_X7_104 rfl fn1_0 hk4 dX7_findMajorities_7 ?_
  refine x_icmp_ge (tgt := 58) (pc := 10) hC dX7_findMajorities_10 (by decide) (fun hc => ?_) (fun hc => ?_)
  · replace h := jit_pos hc h
    refine x_iconst (pc := 58) hC dX7_findMajorities_58 ?_
    refine x_istore_n (ls2 := [jA 110, jI 0, jN]) (pc := 59) hC dX7_findMajorities_59 rfl (by decide) rfl rfl rfl ?_
    refine jlp2_ind (P := fun (l1_5 : Int) (M6 : jM) => jG C X n 3 0 0 60 [jA 110, jI l1_5, jN] [] M6) ?_ _ _ _ h
    intro self7 l1_5 M6 Hself7 h
    refine x_iload_n (pc := 60) hC dX7_findMajorities_60 rfl rfl ?_
    refine x_aloadA_n (pc := 61) hC dX7_findMajorities_61 rfl rfl k_110 (by decide) ?_
    obtain ⟨v9, e8, h⟩ := jbR_some h
    refine x_cV (pc := 62) hC mv_X7_52 (ok_X7_skaters hn e8) rfl (Nat.le_of_ble_eq_true rfl) k_110 rfl (by decide) (jRo0 C) (Nat.le_of_ble_eq_true rfl) dX7_findMajorities_62 rfl ?_
    refine x_icmp_ge (tgt := 79) (pc := 65) hC dX7_findMajorities_65 (by decide) (fun hc => ?_) (fun hc => ?_)
    · replace h := jit_pos hc h
      exact x_vret (pc := 79) hC hR dX7_findMajorities_79 (jrR h)
    · replace h := jit_neg hc h
      refine x_aloadA_n (pc := 68) hC dX7_findMajorities_68 rfl rfl k_110 (by decide) ?_
      refine x_iload_n (pc := 69) hC dX7_findMajorities_69 rfl rfl ?_
      obtain ⟨M11, e10, h⟩ := jbV_some h
      refine x_cV (pc := 70) hC mv_X7_116 (ok_X7_findMajority hn e10) rfl (Nat.le_of_ble_eq_true rfl) k_110 rfl (by decide) (jRo0 C) (Nat.le_of_ble_eq_true rfl) dX7_findMajorities_70 rfl ?_
      obtain ⟨l1_12, el1_12, h⟩ := jlet_some h
      refine x_iinc (ls2 := [jA 110, jI l1_12, jN]) (pc := 73) hC dX7_findMajorities_73 rfl (by decide) rfl el1_12 rfl ?_
      refine x_goto (tgt := 60) (pc := 76) hC dX7_findMajorities_76 (by decide) ?_
      exact Hself7 _ _ h
  · replace h := jit_neg hc h
    refine x_aloadA_n (pc := 13) hC dX7_findMajorities_13 rfl rfl k_110 (by decide) ?_
    refine x_iconst (pc := 14) hC dX7_findMajorities_14 ?_
    refine x_iload_n (pc := 15) hC dX7_findMajorities_15 rfl rfl ?_
    refine x_ishl (pc := 16) hC dX7_findMajorities_16 ?_
    obtain ⟨M14, e13, h⟩ := jbV_some h
    refine x_cV (pc := 17) hC mv_X7_115 (ok_X7_judgeBy hn e13) rfl (Nat.le_of_ble_eq_true rfl) k_110 rfl (by decide) (jRo0 C) (Nat.le_of_ble_eq_true rfl) dX7_findMajorities_17 rfl ?_
    refine x_iconst (pc := 20) hC dX7_findMajorities_20 ?_
    refine x_istore_n (ls2 := [jA 110, jI l1_1, jI 0]) (pc := 21) hC dX7_findMajorities_21 rfl (by decide) rfl rfl rfl ?_
    refine jlp2_ind (P := fun (l2_15 : Int) (M16 : jM) => jG C X n 3 0 0 22 [jA 110, jI l1_1, jI l2_15] [] M16) ?_ _ _ _ h
    intro self17 l2_15 M16 Hself17 h
    refine x_iload_n (pc := 22) hC dX7_findMajorities_22 rfl rfl ?_
    refine x_aloadA_n (pc := 23) hC dX7_findMajorities_23 rfl rfl k_110 (by decide) ?_
    obtain ⟨v19, e18, h⟩ := jbR_some h
    refine x_cV (pc := 24) hC mv_X7_52 (ok_X7_skaters hn e18) rfl (Nat.le_of_ble_eq_true rfl) k_110 rfl (by decide) (jRo0 C) (Nat.le_of_ble_eq_true rfl) dX7_findMajorities_24 rfl ?_
    refine x_icmp_ge (tgt := 52) (pc := 27) hC dX7_findMajorities_27 (by decide) (fun hc => ?_) (fun hc => ?_)
    · replace h := jit_pos hc h
      obtain ⟨l1_20, el1_20, h⟩ := jlet_some h
      refine x_iinc (ls2 := [jA 110, jI l1_20, jI l2_15]) (pc := 52) hC dX7_findMajorities_52 rfl (by decide) rfl el1_20 rfl ?_
      refine x_goto (tgt := 2) (pc := 55) hC dX7_findMajorities_55 (by decide) ?_
      refine x_kill 2 (ls2 := [jA 110, jI l1_20, jN]) rfl ?_
      exact Hself3 _ _ h
    · replace h := jit_neg hc h
      refine x_aloadA_n (pc := 30) hC dX7_findMajorities_30 rfl rfl k_110 (by decide) ?_
      refine x_gf (pc := 31) (b := 113) hC fl_X7_21 ft7_3 k_110 (by decide) (off := 3) (by decide +kernel) (by decide) dX7_findMajorities_31 ?_
      refine x_iload_n (pc := 34) hC dX7_findMajorities_34 rfl rfl ?_
      refine x_bipush (pc := 35) hC dX7_findMajorities_35 rfl ?_
      refine x_imul (pc := 37) hC dX7_findMajorities_37 ?_
      refine x_iload_n (pc := 38) hC dX7_findMajorities_38 rfl rfl ?_
      refine x_iadd (pc := 39) hC dX7_findMajorities_39 ?_
      refine x_aloadA_n (pc := 40) hC dX7_findMajorities_40 rfl rfl k_110 (by decide) ?_
      refine x_iload_n (pc := 41) hC dX7_findMajorities_41 rfl rfl ?_
      obtain ⟨v22, e21, h⟩ := jbR_some h
      refine x_cV (pc := 42) hC mv_X7_74 (ok_X7_rankOf hn e21) rfl (Nat.le_of_ble_eq_true rfl) k_110 rfl (by decide) (jRo0 C) (Nat.le_of_ble_eq_true rfl) dX7_findMajorities_42 rfl ?_
      obtain ⟨hb23, h⟩ := jck_some h
      obtain ⟨M24, eM24, h⟩ := jlet_some h
      refine x_iast (pc := 45) hC k_113 (by rw [l_113]; exact hb23) dX7_findMajorities_45 eM24 ?_
      obtain ⟨l2_25, el2_25, h⟩ := jlet_some h
      refine x_iinc (ls2 := [jA 110, jI l1_1, jI l2_25]) (pc := 46) hC dX7_findMajorities_46 rfl (by decide) rfl el2_25 rfl ?_
      refine x_goto (tgt := 22) (pc := 49) hC dX7_findMajorities_49 (by decide) ?_
      exact Hself17 _ _ h

set_option maxHeartbeats 4000000 in
set_option maxRecDepth 20000 in
theorem ok_X7_isAheadByMajorities {X : jX} {n : Nat} (hn : 179 ≤ n) {l1 : Int} {l2 : Int} {M : jM} {rz : Int} (h : f_X7_isAheadByMajorities l1 l2 M = some rz) : jCt X n yX7_isAheadByMajorities cX7_isAheadByMajorities 3 (some .boolean) 0 [jA 110, jI l1, jI l2] M (some (jI rz)) M := by
  refine jCt_of (own := RX7) (ls := [jA 110, jI l1, jI l2]) (by decide +kernel) rfl hn (Nat.le_of_ble_eq_true rfl) rfl ?_
  intro C hC hR
  unfold f_X7_isAheadByMajorities at h
  refine x_aloadA_n (pc := 0) hC dX7_isAheadByMajorities_0 rfl rfl k_110 (by decide) ?_
  refine x_gf (pc := 1) (b := 114) hC fl_X7_24 ft7_4 k_110 (by decide) (off := 4) (by decide +kernel) (by decide) dX7_isAheadByMajorities_1 ?_
  refine x_iload_n (pc := 4) hC dX7_isAheadByMajorities_4 rfl rfl ?_
  obtain ⟨hb1, h⟩ := jck_some h
  refine x_iald (pc := 5) hC k_114 (by rw [l_114]; exact hb1) dX7_isAheadByMajorities_5 ?_
  refine x_aloadA_n (pc := 6) hC dX7_isAheadByMajorities_6 rfl rfl k_110 (by decide) ?_
  refine x_gf (pc := 7) (b := 114) hC fl_X7_24 ft7_4 k_110 (by decide) (off := 4) (by decide +kernel) (by decide) dX7_isAheadByMajorities_7 ?_
  refine x_iload_n (pc := 10) hC dX7_isAheadByMajorities_10 rfl rfl ?_
  obtain ⟨hb2, h⟩ := jck_some h
  refine x_iald (pc := 11) hC k_114 (by rw [l_114]; exact hb2) dX7_isAheadByMajorities_11 ?_
  refine x_icmp_eq (tgt := 36) (pc := 12) hC dX7_isAheadByMajorities_12 (by decide) (fun hc => ?_) (fun hc => ?_)
  · replace h := jit_pos hc h
    refine x_aloadA_n (pc := 36) hC dX7_isAheadByMajorities_36 rfl rfl k_110 (by decide) ?_
    refine x_gf (pc := 37) (b := 115) hC fl_X7_27 ft7_5 k_110 (by decide) (off := 5) (by decide +kernel) (by decide) dX7_isAheadByMajorities_37 ?_
    refine x_iload_n (pc := 40) hC dX7_isAheadByMajorities_40 rfl rfl ?_
    obtain ⟨hb3, h⟩ := jck_some h
    refine x_iald (pc := 41) hC k_115 (by rw [l_115]; exact hb3) dX7_isAheadByMajorities_41 ?_
    refine x_aloadA_n (pc := 42) hC dX7_isAheadByMajorities_42 rfl rfl k_110 (by decide) ?_
    refine x_gf (pc := 43) (b := 115) hC fl_X7_27 ft7_5 k_110 (by decide) (off := 5) (by decide +kernel) (by decide) dX7_isAheadByMajorities_43 ?_
    refine x_iload_n (pc := 46) hC dX7_isAheadByMajorities_46 rfl rfl ?_
    obtain ⟨hb4, h⟩ := jck_some h
    refine x_iald (pc := 47) hC k_115 (by rw [l_115]; exact hb4) dX7_isAheadByMajorities_47 ?_
    refine x_icmp_eq (tgt := 72) (pc := 48) hC dX7_isAheadByMajorities_48 (by decide) (fun hc => ?_) (fun hc => ?_)
    · replace h := jit_pos hc h
      refine x_aloadA_n (pc := 72) hC dX7_isAheadByMajorities_72 rfl rfl k_110 (by decide) ?_
      refine x_gf (pc := 73) (b := 116) hC fl_X7_30 ft7_6 k_110 (by decide) (off := 6) (by decide +kernel) (by decide) dX7_isAheadByMajorities_73 ?_
      refine x_iload_n (pc := 76) hC dX7_isAheadByMajorities_76 rfl rfl ?_
      obtain ⟨hb5, h⟩ := jck_some h
      refine x_iald (pc := 77) hC k_116 (by rw [l_116]; exact hb5) dX7_isAheadByMajorities_77 ?_
      refine x_aloadA_n (pc := 78) hC dX7_isAheadByMajorities_78 rfl rfl k_110 (by decide) ?_
      refine x_gf (pc := 79) (b := 116) hC fl_X7_30 ft7_6 k_110 (by decide) (off := 6) (by decide +kernel) (by decide) dX7_isAheadByMajorities_79 ?_
      refine x_iload_n (pc := 82) hC dX7_isAheadByMajorities_82 rfl rfl ?_
      obtain ⟨hb6, h⟩ := jck_some h
      refine x_iald (pc := 83) hC k_116 (by rw [l_116]; exact hb6) dX7_isAheadByMajorities_83 ?_
      refine x_icmp_eq (tgt := 108) (pc := 84) hC dX7_isAheadByMajorities_84 (by decide) (fun hc => ?_) (fun hc => ?_)
      · replace h := jit_pos hc h
        refine x_iload_n (pc := 108) hC dX7_isAheadByMajorities_108 rfl rfl ?_
        refine x_iload_n (pc := 109) hC dX7_isAheadByMajorities_109 rfl rfl ?_
        refine x_icmp_ge (tgt := 117) (pc := 110) hC dX7_isAheadByMajorities_110 (by decide) (fun hc => ?_) (fun hc => ?_)
        · replace h := jit_pos hc h
          refine x_iconst (pc := 117) hC dX7_isAheadByMajorities_117 ?_
          exact x_zret (pc := 118) hC hR dX7_isAheadByMajorities_118 (Or.inl jw0) (jrR h) rfl
        · replace h := jit_neg hc h
          refine x_iconst (pc := 113) hC dX7_isAheadByMajorities_113 ?_
          refine x_goto (tgt := 118) (pc := 114) hC dX7_isAheadByMajorities_114 (by decide) ?_
          exact x_zret (pc := 118) hC hR dX7_isAheadByMajorities_118 (Or.inr jw1) (jrR h) rfl
      · replace h := jit_neg hc h
        refine x_aloadA_n (pc := 87) hC dX7_isAheadByMajorities_87 rfl rfl k_110 (by decide) ?_
        refine x_gf (pc := 88) (b := 116) hC fl_X7_30 ft7_6 k_110 (by decide) (off := 6) (by decide +kernel) (by decide) dX7_isAheadByMajorities_88 ?_
        refine x_iload_n (pc := 91) hC dX7_isAheadByMajorities_91 rfl rfl ?_
        obtain ⟨hb7, h⟩ := jck_some h
        refine x_iald (pc := 92) hC k_116 (by rw [l_116]; exact hb7) dX7_isAheadByMajorities_92 ?_
        refine x_aloadA_n (pc := 93) hC dX7_isAheadByMajorities_93 rfl rfl k_110 (by decide) ?_
        refine x_gf (pc := 94) (b := 116) hC fl_X7_30 ft7_6 k_110 (by decide) (off := 6) (by decide +kernel) (by decide) dX7_isAheadByMajorities_94 ?_
        refine x_iload_n (pc := 97) hC dX7_isAheadByMajorities_97 rfl rfl ?_
        obtain ⟨hb8, h⟩ := jck_some h
        refine x_iald (pc := 98) hC k_116 (by rw [l_116]; exact hb8) dX7_isAheadByMajorities_98 ?_
        refine x_icmp_ge (tgt := 106) (pc := 99) hC dX7_isAheadByMajorities_99 (by decide) (fun hc => ?_) (fun hc => ?_)
        · replace h := jit_pos hc h
          refine x_iconst (pc := 106) hC dX7_isAheadByMajorities_106 ?_
          exact x_zret (pc := 107) hC hR dX7_isAheadByMajorities_107 (Or.inl jw0) (jrR h) rfl
        · replace h := jit_neg hc h
          refine x_iconst (pc := 102) hC dX7_isAheadByMajorities_102 ?_
          refine x_goto (tgt := 107) (pc := 103) hC dX7_isAheadByMajorities_103 (by decide) ?_
          exact x_zret (pc := 107) hC hR dX7_isAheadByMajorities_107 (Or.inr jw1) (jrR h) rfl
    · replace h := jit_neg hc h
      refine x_aloadA_n (pc := 51) hC dX7_isAheadByMajorities_51 rfl rfl k_110 (by decide) ?_
      refine x_gf (pc := 52) (b := 115) hC fl_X7_27 ft7_5 k_110 (by decide) (off := 5) (by decide +kernel) (by decide) dX7_isAheadByMajorities_52 ?_
      refine x_iload_n (pc := 55) hC dX7_isAheadByMajorities_55 rfl rfl ?_
      obtain ⟨hb9, h⟩ := jck_some h
      refine x_iald (pc := 56) hC k_115 (by rw [l_115]; exact hb9) dX7_isAheadByMajorities_56 ?_
      refine x_aloadA_n (pc := 57) hC dX7_isAheadByMajorities_57 rfl rfl k_110 (by decide) ?_
      refine x_gf (pc := 58) (b := 115) hC fl_X7_27 ft7_5 k_110 (by decide) (off := 5) (by decide +kernel) (by decide) dX7_isAheadByMajorities_58 ?_
      refine x_iload_n (pc := 61) hC dX7_isAheadByMajorities_61 rfl rfl ?_
      obtain ⟨hb10, h⟩ := jck_some h
      refine x_iald (pc := 62) hC k_115 (by rw [l_115]; exact hb10) dX7_isAheadByMajorities_62 ?_
      refine x_icmp_le (tgt := 70) (pc := 63) hC dX7_isAheadByMajorities_63 (by decide) (fun hc => ?_) (fun hc => ?_)
      · replace h := jit_pos hc h
        refine x_iconst (pc := 70) hC dX7_isAheadByMajorities_70 ?_
        exact x_zret (pc := 71) hC hR dX7_isAheadByMajorities_71 (Or.inl jw0) (jrR h) rfl
      · replace h := jit_neg hc h
        refine x_iconst (pc := 66) hC dX7_isAheadByMajorities_66 ?_
        refine x_goto (tgt := 71) (pc := 67) hC dX7_isAheadByMajorities_67 (by decide) ?_
        exact x_zret (pc := 71) hC hR dX7_isAheadByMajorities_71 (Or.inr jw1) (jrR h) rfl
  · replace h := jit_neg hc h
    refine x_aloadA_n (pc := 15) hC dX7_isAheadByMajorities_15 rfl rfl k_110 (by decide) ?_
    refine x_gf (pc := 16) (b := 114) hC fl_X7_24 ft7_4 k_110 (by decide) (off := 4) (by decide +kernel) (by decide) dX7_isAheadByMajorities_16 ?_
    refine x_iload_n (pc := 19) hC dX7_isAheadByMajorities_19 rfl rfl ?_
    obtain ⟨hb11, h⟩ := jck_some h
    refine x_iald (pc := 20) hC k_114 (by rw [l_114]; exact hb11) dX7_isAheadByMajorities_20 ?_
    refine x_aloadA_n (pc := 21) hC dX7_isAheadByMajorities_21 rfl rfl k_110 (by decide) ?_
    refine x_gf (pc := 22) (b := 114) hC fl_X7_24 ft7_4 k_110 (by decide) (off := 4) (by decide +kernel) (by decide) dX7_isAheadByMajorities_22 ?_
    refine x_iload_n (pc := 25) hC dX7_isAheadByMajorities_25 rfl rfl ?_
    obtain ⟨hb12, h⟩ := jck_some h
    refine x_iald (pc := 26) hC k_114 (by rw [l_114]; exact hb12) dX7_isAheadByMajorities_26 ?_
    refine x_icmp_ge (tgt := 34) (pc := 27) hC dX7_isAheadByMajorities_27 (by decide) (fun hc => ?_) (fun hc => ?_)
    · replace h := jit_pos hc h
      refine x_iconst (pc := 34) hC dX7_isAheadByMajorities_34 ?_
      exact x_zret (pc := 35) hC hR dX7_isAheadByMajorities_35 (Or.inl jw0) (jrR h) rfl
    · replace h := jit_neg hc h
      refine x_iconst (pc := 30) hC dX7_isAheadByMajorities_30 ?_
      refine x_goto (tgt := 35) (pc := 31) hC dX7_isAheadByMajorities_31 (by decide) ?_
      exact x_zret (pc := 35) hC hR dX7_isAheadByMajorities_35 (Or.inr jw1) (jrR h) rfl

set_option maxHeartbeats 4000000 in
set_option maxRecDepth 20000 in
theorem ok_X7_skaterByMajorities {X : jX} {n : Nat} (hn : 179 ≤ n) {l1 : Int} {M : jM} {rz : Int} (h : f_X7_skaterByMajorities l1 M = some rz) : jCt X n yX7_skaterByMajorities cX7_skaterByMajorities 5 (some .int) 1 [jA 110, jI l1] M (some (jI rz)) M := by
  refine jCt_of (own := RX7) (ls := [jA 110, jI l1, jN, jN, jN]) (by decide +kernel) rfl hn (Nat.le_of_ble_eq_true rfl) rfl ?_
  intro C hC hR
  unfold f_X7_skaterByMajorities at h
  refine x_iconst (pc := 0) hC dX7_skaterByMajorities_0 ?_
  refine x_istore_n (ls2 := [jA 110, jI l1, jI 0, jN, jN]) (pc := 1) hC dX7_skaterByMajorities_1 rfl (by decide) rfl rfl rfl ?_
  refine jlp1_ind (P := fun (l2_1 : Int) => jG C X n 5 0 0 2 [jA 110, jI l1, jI l2_1, jN, jN] [] M) ?_ _ _ h
  intro self2 l2_1 Hself2 h
  refine x_iload_n (pc := 2) hC dX7_skaterByMajorities_2 rfl rfl ?_
  refine x_aloadA_n (pc := 3) hC dX7_skaterByMajorities_3 rfl rfl k_110 (by decide) ?_
  obtain ⟨v4, e3, h⟩ := jbR_some h
  refine x_cV (pc := 4) hC mv_X7_52 (ok_X7_skaters hn e3) rfl (Nat.le_of_ble_eq_true rfl) k_110 rfl (by decide) (jRo0 C) (Nat.le_of_ble_eq_true rfl) dX7_skaterByMajorities_4 rfl ?_
  refine x_icmp_ge (tgt := 62) (pc := 7) hC dX7_skaterByMajorities_7 (by decide) (fun hc => ?_) (fun hc => ?_)
  · replace h := jit_pos hc h
    refine x_iconst (pc := 62) hC dX7_skaterByMajorities_62 ?_
    exact x_iret (pc := 63) hC hR dX7_skaterByMajorities_63 (jrR h) rfl
  · replace h := jit_neg hc h
    refine x_iconst (pc := 10) hC dX7_skaterByMajorities_10 ?_
    refine x_istore_n (ls2 := [jA 110, jI l1, jI l2_1, jI 0, jN]) (pc := 11) hC dX7_skaterByMajorities_11 rfl (by decide) rfl rfl rfl ?_
    refine x_iconst (pc := 12) hC dX7_skaterByMajorities_12 ?_
    refine x_istore (ls2 := [jA 110, jI l1, jI l2_1, jI 0, jI 0]) (pc := 13) hC dX7_skaterByMajorities_13 (by decide) rfl rfl rfl ?_
    refine jlp2_ind (P := fun (l3_5 : Int) (l4_6 : Int) => jG C X n 5 0 0 15 [jA 110, jI l1, jI l2_1, jI l3_5, jI l4_6] [] M) ?_ _ _ _ h
    intro self7 l3_5 l4_6 Hself7 h
    refine x_iload (pc := 15) hC dX7_skaterByMajorities_15 rfl ?_
    refine x_aloadA_n (pc := 17) hC dX7_skaterByMajorities_17 rfl rfl k_110 (by decide) ?_
    obtain ⟨v9, e8, h⟩ := jbR_some h
    refine x_cV (pc := 18) hC mv_X7_52 (ok_X7_skaters hn e8) rfl (Nat.le_of_ble_eq_true rfl) k_110 rfl (by decide) (jRo0 C) (Nat.le_of_ble_eq_true rfl) dX7_skaterByMajorities_18 rfl ?_
    refine x_icmp_ge (tgt := 49) (pc := 21) hC dX7_skaterByMajorities_21 (by decide) (fun hc => ?_) (fun hc => ?_)
    · replace h := jit_pos hc h
      refine x_iload_n (pc := 49) hC dX7_skaterByMajorities_49 rfl rfl ?_
      refine x_iload_n (pc := 50) hC dX7_skaterByMajorities_50 rfl rfl ?_
      refine x_icmp_ne (tgt := 56) (pc := 51) hC dX7_skaterByMajorities_51 (by decide) (fun hc => ?_) (fun hc => ?_)
      · replace h := jit_neg hc h
        obtain ⟨l2_10, el2_10, h⟩ := jlet_some h
        refine x_iinc (ls2 := [jA 110, jI l1, jI l2_10, jI l3_5, jI l4_6]) (pc := 56) hC dX7_skaterByMajorities_56 rfl (by decide) rfl el2_10 rfl ?_
        refine x_goto (tgt := 2) (pc := 59) hC dX7_skaterByMajorities_59 (by decide) ?_
        refine x_kill 3 (ls2 := [jA 110, jI l1, jI l2_10, jN, jI l4_6]) rfl ?_
        refine x_kill 4 (ls2 := [jA 110, jI l1, jI l2_10, jN, jN]) rfl ?_
        exact Hself2 _ h
      · replace h := jit_pos hc h
        refine x_iload_n (pc := 54) hC dX7_skaterByMajorities_54 rfl rfl ?_
        exact x_iret (pc := 55) hC hR dX7_skaterByMajorities_55 (jrR h) rfl
    · replace h := jit_neg hc h
      refine x_iload (pc := 24) hC dX7_skaterByMajorities_24 rfl ?_
      refine x_iload_n (pc := 26) hC dX7_skaterByMajorities_26 rfl rfl ?_
      refine x_icmp_eq (tgt := 43) (pc := 27) hC dX7_skaterByMajorities_27 (by decide) (fun hc => ?_) (fun hc => ?_)
      · replace h := jit_pos hc h
        obtain ⟨l4_11, el4_11, h⟩ := jlet_some h
        refine x_iinc (ls2 := [jA 110, jI l1, jI l2_1, jI l3_5, jI l4_11]) (pc := 43) hC dX7_skaterByMajorities_43 rfl (by decide) rfl el4_11 rfl ?_
        refine x_goto (tgt := 15) (pc := 46) hC dX7_skaterByMajorities_46 (by decide) ?_
        exact Hself7 _ _ h
      · replace h := jit_neg hc h
        refine x_aloadA_n (pc := 30) hC dX7_skaterByMajorities_30 rfl rfl k_110 (by decide) ?_
        refine x_iload (pc := 31) hC dX7_skaterByMajorities_31 rfl ?_
        refine x_iload_n (pc := 33) hC dX7_skaterByMajorities_33 rfl rfl ?_
        obtain ⟨v13, e12, h⟩ := jbR_some h
        refine x_cV (pc := 34) hC mv_X7_122 (ok_X7_isAheadByMajorities hn e12) rfl (Nat.le_of_ble_eq_true rfl) k_110 rfl (by decide) (jRo0 C) (Nat.le_of_ble_eq_true rfl) dX7_skaterByMajorities_34 rfl ?_
        refine x_if_eq (tgt := 43) (pc := 37) hC dX7_skaterByMajorities_37 (by decide) (fun hc => ?_) (fun hc => ?_)
        · replace h := jit_pos hc h
          obtain ⟨l4_14, el4_14, h⟩ := jlet_some h
          refine x_iinc (ls2 := [jA 110, jI l1, jI l2_1, jI l3_5, jI l4_14]) (pc := 43) hC dX7_skaterByMajorities_43 rfl (by decide) rfl el4_14 rfl ?_
          refine x_goto (tgt := 15) (pc := 46) hC dX7_skaterByMajorities_46 (by decide) ?_
          exact Hself7 _ _ h
        · replace h := jit_neg hc h
          obtain ⟨l3_15, el3_15, h⟩ := jlet_some h
          refine x_iinc (ls2 := [jA 110, jI l1, jI l2_1, jI l3_15, jI l4_6]) (pc := 40) hC dX7_skaterByMajorities_40 rfl (by decide) rfl el3_15 rfl ?_
          obtain ⟨l4_16, el4_16, h⟩ := jlet_some h
          refine x_iinc (ls2 := [jA 110, jI l1, jI l2_1, jI l3_15, jI l4_16]) (pc := 43) hC dX7_skaterByMajorities_43 rfl (by decide) rfl el4_16 rfl ?_
          refine x_goto (tgt := 15) (pc := 46) hC dX7_skaterByMajorities_46 (by decide) ?_
          exact Hself7 _ _ h

set_option maxHeartbeats 4000000 in
set_option maxRecDepth 20000 in
theorem ok_X8_regrade {X : jX} {n : Nat} (hn : 179 ≤ n) {t : Int} {l1 : Int} {l2 : Int} {l3 : Int} {M : jM} {Mz : jM} (ht : jkd t = 8) (h : f_X8_regrade t l1 l2 l3 M = some Mz) : jCt X n yX8_regrade cX8_regrade 4 (none) 2 [jA t, jI l1, jI l2, jI l3] M (none) Mz := by
  refine jCt_of (own := RX8) (ls := [jA t, jI l1, jI l2, jI l3]) (by decide +kernel) rfl hn (Nat.le_of_ble_eq_true rfl) rfl ?_
  intro C hC hR
  unfold f_X8_regrade at h
  refine x_aloadA_n (pc := 0) hC dX8_regrade_0 rfl rfl ht (by decide) ?_
  refine x_dup (pc := 1) hC dX8_regrade_1 (show (2 : Nat) ≠ 3 by decide) ?_
  refine x_gi (pc := 2) (ji := 6) hC fl_X8_24 rfl fn8_6 ht dX8_regrade_2 ?_
  refine x_aloadA_n (pc := 5) hC dX8_regrade_5 rfl rfl ht (by decide) ?_
  refine x_iload_n (pc := 6) hC dX8_regrade_6 rfl rfl ?_
  refine x_iload_n (pc := 7) hC dX8_regrade_7 rfl rfl ?_
  obtain ⟨v2, e1, h⟩ := jbR_some h
  refine x_cV (pc := 8) hC mv_X8_164 (ok_X8_gainBy hn ht e1) rfl (Nat.le_of_ble_eq_true rfl) ht rfl (by decide) (jRo0 C) (Nat.le_of_ble_eq_true rfl) dX8_regrade_8 rfl ?_
  refine x_aloadA_n (pc := 11) hC dX8_regrade_11 rfl rfl ht (by decide) ?_
  refine x_iload_n (pc := 12) hC dX8_regrade_12 rfl rfl ?_
  refine x_iload_n (pc := 13) hC dX8_regrade_13 rfl rfl ?_
  obtain ⟨v4, e3, h⟩ := jbR_some h
  refine x_cV (pc := 14) hC mv_X8_164 (ok_X8_gainBy hn ht e3) rfl (Nat.le_of_ble_eq_true rfl) ht rfl (by decide) (jRo0 C) (Nat.le_of_ble_eq_true rfl) dX8_regrade_14 rfl ?_
  refine x_isub (pc := 17) hC dX8_regrade_17 ?_
  refine x_iadd (pc := 18) hC dX8_regrade_18 ?_
  obtain ⟨M5, eM5, h⟩ := jlet_some h
  refine x_pi (pc := 19) (ji := 6) hC fl_X8_24 rfl ft8_6 ht dX8_regrade_19 eM5 ?_
  refine x_aloadA_n (pc := 22) hC dX8_regrade_22 rfl rfl ht (by decide) ?_
  obtain ⟨M7, e6, h⟩ := jbV_some h
  refine x_cV (pc := 23) hC mv_X8_161 (ok_X8_sumUp hn ht e6) rfl (Nat.le_of_ble_eq_true rfl) ht rfl (by decide) (jRo0 C) (Nat.le_of_ble_eq_true rfl) dX8_regrade_23 rfl ?_
  exact x_vret (pc := 26) hC hR dX8_regrade_26 (jrR h)

set_option maxHeartbeats 4000000 in
set_option maxRecDepth 20000 in
theorem ok_X7_leastGradeAhead {X : jX} {n : Nat} (hn : 179 ≤ n) {l1 : Int} {l2 : Int} {l3 : Int} {M : jM} {rz : Int} {Mz : jM} (h : f_X7_leastGradeAhead l1 l2 l3 M = some (rz, Mz)) : jCt X n yX7_leastGradeAhead cX7_leastGradeAhead 6 (some .int) 3 [jA 110, jI l1, jI l2, jI l3] M (some (jI rz)) Mz := by
  refine jCt_of (own := RX7) (ls := [jA 110, jI l1, jI l2, jI l3, jN, jN]) (by decide +kernel) rfl hn (Nat.le_of_ble_eq_true rfl) rfl ?_
  intro C hC hR
  unfold f_X7_leastGradeAhead at h
  refine x_aloadA_n (pc := 0) hC dX7_leastGradeAhead_0 rfl rfl k_110 (by decide) ?_
  refine x_gf (pc := 1) (b := 111) hC fl_X7_11 ft7_1 k_110 (by decide) (off := 1) (by decide +kernel) (by decide) dX7_leastGradeAhead_1 ?_
  refine x_iload_n (pc := 4) hC dX7_leastGradeAhead_4 rfl rfl ?_
  obtain ⟨hb1, h⟩ := jck_some h
  refine x_aald15 (pc := 5) hC k_111 hb1 rfl dX7_leastGradeAhead_5 ?_
  refine x_iload_n (pc := 6) hC dX7_leastGradeAhead_6 rfl rfl ?_
  refine x_aloadA_n (pc := 7) hC dX7_leastGradeAhead_7 rfl rfl k_110 (by decide) ?_
  obtain ⟨hk2, h⟩ := jck_some h
  refine x_gr (pc := 8) (ji := 0) hC fl_X7_33 rfl ft7_0 k_110 dX7_leastGradeAhead_8 ?_
  obtain ⟨v4, e3, h⟩ := jbR_some h
  refine x_cV (pc := 11) hC mv_X7_78 (ok_X1_everyJudge hn hk2 e3) rfl (Nat.le_of_ble_eq_true rfl) hk2 rfl (by decide) (jRo0 C) (Nat.le_of_ble_eq_true rfl) dX7_leastGradeAhead_11 rfl ?_
  obtain ⟨v6, e5, h⟩ := jbR_some h
  refine x_cV (pc := 14) hC mv_X7_101 (ok_X8_trimmed hn (jta k_111 hb1.1 hb1.2) e5) rfl (Nat.le_of_ble_eq_true rfl) (jta k_111 hb1.1 hb1.2) rfl (by decide) (jRo0 C) (Nat.le_of_ble_eq_true rfl) dX7_leastGradeAhead_14 rfl ?_
  refine x_istore (ls2 := [jA 110, jI l1, jI l2, jI l3, jI v6, jN]) (pc := 17) hC dX7_leastGradeAhead_17 (by decide) rfl rfl rfl ?_
  refine x_bipush (pc := 19) hC dX7_leastGradeAhead_19 rfl ?_
  refine x_istore (ls2 := [jA 110, jI l1, jI l2, jI l3, jI v6, jI (-5)]) (pc := 21) hC dX7_leastGradeAhead_21 (by decide) rfl rfl rfl ?_
  refine jlp3_ind (P := fun (l4_7 : Int) (l5_8 : Int) (M9 : jM) => jG C X n 6 0 0 23 [jA 110, jI l1, jI l2, jI l3, jI l4_7, jI l5_8] [] M9) ?_ _ _ _ _ h
  intro self10 l4_7 l5_8 M9 Hself10 h
  refine x_iload (pc := 23) hC dX7_leastGradeAhead_23 rfl ?_
  refine x_iconst (pc := 25) hC dX7_leastGradeAhead_25 ?_
  refine x_icmp_gt (tgt := 71) (pc := 26) hC dX7_leastGradeAhead_26 (by decide) (fun hc => ?_) (fun hc => ?_)
  · replace h := jit_pos hc h
    refine x_bipush (pc := 71) hC dX7_leastGradeAhead_71 rfl ?_
    exact x_iret (pc := 73) hC hR dX7_leastGradeAhead_73 (jr1 h) (jr2 h)
  · replace h := jit_neg hc h
    refine x_aloadA_n (pc := 29) hC dX7_leastGradeAhead_29 rfl rfl k_110 (by decide) ?_
    refine x_gf (pc := 30) (b := 111) hC fl_X7_11 ft7_1 k_110 (by decide) (off := 1) (by decide +kernel) (by decide) dX7_leastGradeAhead_30 ?_
    refine x_iload_n (pc := 33) hC dX7_leastGradeAhead_33 rfl rfl ?_
    obtain ⟨hb11, h⟩ := jck_some h
    refine x_aald15 (pc := 34) hC k_111 hb11 rfl dX7_leastGradeAhead_34 ?_
    refine x_iload_n (pc := 35) hC dX7_leastGradeAhead_35 rfl rfl ?_
    refine x_iload (pc := 36) hC dX7_leastGradeAhead_36 rfl ?_
    refine x_bipush (pc := 38) hC dX7_leastGradeAhead_38 rfl ?_
    refine x_iload (pc := 40) hC dX7_leastGradeAhead_40 rfl ?_
    refine x_imul (pc := 42) hC dX7_leastGradeAhead_42 ?_
    obtain ⟨M13, e12, h⟩ := jbV_some h
    refine x_cV (pc := 43) hC mv_X7_125 (ok_X8_regrade hn (jta k_111 hb11.1 hb11.2) e12) rfl (Nat.le_of_ble_eq_true rfl) (jta k_111 hb11.1 hb11.2) rfl (by decide) (jRo0 C) (Nat.le_of_ble_eq_true rfl) dX7_leastGradeAhead_43 rfl ?_
    refine x_aloadA_n (pc := 46) hC dX7_leastGradeAhead_46 rfl rfl k_110 (by decide) ?_
    refine x_iload_n (pc := 47) hC dX7_leastGradeAhead_47 rfl rfl ?_
    refine x_iload_n (pc := 48) hC dX7_leastGradeAhead_48 rfl rfl ?_
    obtain ⟨v15, e14, h⟩ := jbR_some h
    refine x_cV (pc := 49) hC mv_X7_70 (ok_X7_isAhead hn e14) rfl (Nat.le_of_ble_eq_true rfl) k_110 rfl (by decide) (jRo0 C) (Nat.le_of_ble_eq_true rfl) dX7_leastGradeAhead_49 rfl ?_
    refine x_if_eq (tgt := 58) (pc := 52) hC dX7_leastGradeAhead_52 (by decide) (fun hc => ?_) (fun hc => ?_)
    · replace h := jit_pos hc h
      refine x_bipush (pc := 58) hC dX7_leastGradeAhead_58 rfl ?_
      refine x_iload (pc := 60) hC dX7_leastGradeAhead_60 rfl ?_
      refine x_imul (pc := 62) hC dX7_leastGradeAhead_62 ?_
      obtain ⟨l4_16, el4_16, h⟩ := jlet_some h
      refine x_istore (ls2 := [jA 110, jI l1, jI l2, jI l3, jI l4_16, jI l5_8]) (pc := 63) hC dX7_leastGradeAhead_63 (by decide) rfl el4_16 rfl ?_
      obtain ⟨l5_17, el5_17, h⟩ := jlet_some h
      refine x_iinc (ls2 := [jA 110, jI l1, jI l2, jI l3, jI l4_16, jI l5_17]) (pc := 65) hC dX7_leastGradeAhead_65 rfl (by decide) rfl el5_17 rfl ?_
      refine x_goto (tgt := 23) (pc := 68) hC dX7_leastGradeAhead_68 (by decide) ?_
      exact Hself10 _ _ _ h
    · replace h := jit_neg hc h
      refine x_iload (pc := 55) hC dX7_leastGradeAhead_55 rfl ?_
      exact x_iret (pc := 57) hC hR dX7_leastGradeAhead_57 (jr1 h) (jr2 h)

set_option maxHeartbeats 4000000 in
set_option maxRecDepth 20000 in
theorem ok_X8_greatestBonus {X : jX} {n : Nat} (hn : 179 ≤ n) {t : Int} {l1 : Int} {M : jM} {rz : Int} (ht : jkd t = 8) (h : f_X8_greatestBonus t l1 M = some rz) : jCt X n yX8_greatestBonus cX8_greatestBonus 5 (some .int) 1 [jA t, jI l1] M (some (jI rz)) M := by
  refine jCt_of (own := RX8) (ls := [jA t, jI l1, jN, jN, jN]) (by decide +kernel) rfl hn (Nat.le_of_ble_eq_true rfl) rfl ?_
  intro C hC hR
  unfold f_X8_greatestBonus at h
  refine x_iconst (pc := 0) hC dX8_greatestBonus_0 ?_
  refine x_istore_n (ls2 := [jA t, jI l1, jI (-1), jN, jN]) (pc := 1) hC dX8_greatestBonus_1 rfl (by decide) rfl rfl rfl ?_
  refine x_iconst (pc := 2) hC dX8_greatestBonus_2 ?_
  refine x_istore_n (ls2 := [jA t, jI l1, jI (-1), jI 0, jN]) (pc := 3) hC dX8_greatestBonus_3 rfl (by decide) rfl rfl rfl ?_
  refine jlp2_ind (P := fun (l2_1 : Int) (l3_2 : Int) => jG C X n 5 0 0 4 [jA t, jI l1, jI l2_1, jI l3_2, jN] [] M) ?_ _ _ _ h
  intro self3 l2_1 l3_2 Hself3 h
  refine x_iload_n (pc := 4) hC dX8_greatestBonus_4 rfl rfl ?_
  refine x_aloadA_n (pc := 5) hC dX8_greatestBonus_5 rfl rfl ht (by decide) ?_
  obtain ⟨hk4, h⟩ := jck_some h
  refine x_gr (pc := 6) (ji := 1) hC fl_X8_64 rfl ft8_1 ht dX8_greatestBonus_6 ?_
  refine x_gi (pc := 9) (ji := 0) hC fl_X8_79 rfl fn6_0 hk4 dX8_greatestBonus_9 ?_
  refine x_icmp_ge (tgt := 69) (pc := 12) hC dX8_greatestBonus_12 (by decide) (fun hc => ?_) (fun hc => ?_)
  · replace h := jit_pos hc h
    refine x_iload_n (pc := 69) hC dX8_greatestBonus_69 rfl rfl ?_
    exact x_iret (pc := 70) hC hR dX8_greatestBonus_70 (jrR h) rfl
  · replace h := jit_neg hc h
    refine x_iload_n (pc := 15) hC dX8_greatestBonus_15 rfl rfl ?_
    refine x_iload_n (pc := 16) hC dX8_greatestBonus_16 rfl rfl ?_
    refine x_ishr (pc := 17) hC dX8_greatestBonus_17 ?_
    refine x_iconst (pc := 18) hC dX8_greatestBonus_18 ?_
    refine x_iand (pc := 19) hC dX8_greatestBonus_19 ?_
    obtain ⟨k6, Hk6, h⟩ := jk_some (P := fun k6 => ∀ (s0_5 : Int), k6 s0_5 = some rz → jG C X n 5 0 0 36 [jA t, jI l1, jI l2_1, jI l3_2, jN] [jI s0_5] M) h (by
      intro s0_5 h
      refine x_istore (ls2 := [jA t, jI l1, jI l2_1, jI l3_2, jI s0_5]) (pc := 36) hC dX8_greatestBonus_36 (by decide) rfl rfl rfl ?_
      refine x_iload (pc := 38) hC dX8_greatestBonus_38 rfl ?_
      refine x_if_eq (tgt := 63) (pc := 40) hC dX8_greatestBonus_40 (by decide) (fun hc => ?_) (fun hc => ?_)
      · replace h := jit_pos hc h
        obtain ⟨l3_7, el3_7, h⟩ := jlet_some h
        refine x_iinc (ls2 := [jA t, jI l1, jI l2_1, jI l3_7, jI s0_5]) (pc := 63) hC dX8_greatestBonus_63 rfl (by decide) rfl el3_7 rfl ?_
        refine x_goto (tgt := 4) (pc := 66) hC dX8_greatestBonus_66 (by decide) ?_
        refine x_kill 4 (ls2 := [jA t, jI l1, jI l2_1, jI l3_7, jN]) rfl ?_
        exact Hself3 _ _ h
      · replace h := jit_neg hc h
        refine x_iload_n (pc := 43) hC dX8_greatestBonus_43 rfl rfl ?_
        refine x_iconst (pc := 44) hC dX8_greatestBonus_44 ?_
        obtain ⟨k8, Hk8, h⟩ := jk_some (P := fun k8 => k8 = some rz → jG C X n 5 0 0 61 [jA t, jI l1, jI l2_1, jI l3_2, jI s0_5] [] M) h (by
          intro h
          refine x_iload_n (pc := 61) hC dX8_greatestBonus_61 rfl rfl ?_
          refine x_istore_n (ls2 := [jA t, jI l1, jI l3_2, jI l3_2, jI s0_5]) (pc := 62) hC dX8_greatestBonus_62 rfl (by decide) rfl rfl rfl ?_
          obtain ⟨l3_9, el3_9, h⟩ := jlet_some h
          refine x_iinc (ls2 := [jA t, jI l1, jI l3_2, jI l3_9, jI s0_5]) (pc := 63) hC dX8_greatestBonus_63 rfl (by decide) rfl el3_9 rfl ?_
          refine x_goto (tgt := 4) (pc := 66) hC dX8_greatestBonus_66 (by decide) ?_
          refine x_kill 4 (ls2 := [jA t, jI l1, jI l3_2, jI l3_9, jN]) rfl ?_
          exact Hself3 _ _ h)
        refine x_icmp_eq (tgt := 61) (pc := 45) hC dX8_greatestBonus_45 (by decide) (fun hc => ?_) (fun hc => ?_)
        · replace h := jit_pos hc h
          exact Hk8 h
        · replace h := jit_neg hc h
          refine x_aloadA_n (pc := 48) hC dX8_greatestBonus_48 rfl rfl ht (by decide) ?_
          refine x_iload_n (pc := 49) hC dX8_greatestBonus_49 rfl rfl ?_
          obtain ⟨v11, e10, h⟩ := jbR_some h
          refine x_cV (pc := 50) hC mv_X8_170 (ok_X8_bonusOf hn ht e10) rfl (Nat.le_of_ble_eq_true rfl) ht rfl (by decide) (jRo0 C) (Nat.le_of_ble_eq_true rfl) dX8_greatestBonus_50 rfl ?_
          refine x_aloadA_n (pc := 53) hC dX8_greatestBonus_53 rfl rfl ht (by decide) ?_
          refine x_iload_n (pc := 54) hC dX8_greatestBonus_54 rfl rfl ?_
          obtain ⟨v13, e12, h⟩ := jbR_some h
          refine x_cV (pc := 55) hC mv_X8_170 (ok_X8_bonusOf hn ht e12) rfl (Nat.le_of_ble_eq_true rfl) ht rfl (by decide) (jRo0 C) (Nat.le_of_ble_eq_true rfl) dX8_greatestBonus_55 rfl ?_
          refine x_icmp_le (tgt := 63) (pc := 58) hC dX8_greatestBonus_58 (by decide) (fun hc => ?_) (fun hc => ?_)
          · replace h := jit_pos hc h
            obtain ⟨l3_14, el3_14, h⟩ := jlet_some h
            refine x_iinc (ls2 := [jA t, jI l1, jI l2_1, jI l3_14, jI s0_5]) (pc := 63) hC dX8_greatestBonus_63 rfl (by decide) rfl el3_14 rfl ?_
            refine x_goto (tgt := 4) (pc := 66) hC dX8_greatestBonus_66 (by decide) ?_
            refine x_kill 4 (ls2 := [jA t, jI l1, jI l2_1, jI l3_14, jN]) rfl ?_
            exact Hself3 _ _ h
          · replace h := jit_neg hc h
            exact Hk8 h)
    obtain ⟨k15, Hk15, h⟩ := jk_some (P := fun k15 => k15 = some rz → jG C X n 5 0 0 35 [jA t, jI l1, jI l2_1, jI l3_2, jN] [] M) h (by
      intro h
      refine x_iconst (pc := 35) hC dX8_greatestBonus_35 ?_
      exact Hk6 _ h)
    refine x_if_eq (tgt := 35) (pc := 20) hC dX8_greatestBonus_20 (by decide) (fun hc => ?_) (fun hc => ?_)
    · replace h := jit_pos hc h
      exact Hk15 h
    · replace h := jit_neg hc h
      refine x_aloadA_n (pc := 23) hC dX8_greatestBonus_23 rfl rfl ht (by decide) ?_
      refine x_iload_n (pc := 24) hC dX8_greatestBonus_24 rfl rfl ?_
      obtain ⟨v17, e16, h⟩ := jbR_some h
      refine x_cV (pc := 25) hC mv_X8_122 (ok_X8_beginsWithJump hn ht e16) rfl (Nat.le_of_ble_eq_true rfl) ht rfl (by decide) (jRo0 C) (Nat.le_of_ble_eq_true rfl) dX8_greatestBonus_25 rfl ?_
      refine x_if_eq (tgt := 35) (pc := 28) hC dX8_greatestBonus_28 (by decide) (fun hc => ?_) (fun hc => ?_)
      · replace h := jit_pos hc h
        exact Hk15 h
      · replace h := jit_neg hc h
        refine x_iconst (pc := 31) hC dX8_greatestBonus_31 ?_
        refine x_goto (tgt := 36) (pc := 32) hC dX8_greatestBonus_32 (by decide) ?_
        exact Hk6 _ h

set_option maxHeartbeats 4000000 in
set_option maxRecDepth 20000 in
theorem ok_X8_bestLate {X : jX} {n : Nat} (hn : 179 ≤ n) {t : Int} {l1 : Int} {M : jM} {rz : Int} (ht : jkd t = 8) (h : f_X8_bestLate t l1 M = some rz) : jCt X n yX8_bestLate cX8_bestLate 5 (some .int) 2 [jA t, jI l1] M (some (jI rz)) M := by
  refine jCt_of (own := RX8) (ls := [jA t, jI l1, jN, jN, jN]) (by decide +kernel) rfl hn (Nat.le_of_ble_eq_true rfl) rfl ?_
  intro C hC hR
  unfold f_X8_bestLate at h
  refine x_iconst (pc := 0) hC dX8_bestLate_0 ?_
  refine x_istore_n (ls2 := [jA t, jI l1, jI 0, jN, jN]) (pc := 1) hC dX8_bestLate_1 rfl (by decide) rfl rfl rfl ?_
  refine x_iconst (pc := 2) hC dX8_bestLate_2 ?_
  refine x_istore_n (ls2 := [jA t, jI l1, jI 0, jI 0, jN]) (pc := 3) hC dX8_bestLate_3 rfl (by decide) rfl rfl rfl ?_
  refine jlp2_ind (P := fun (l2_1 : Int) (l3_2 : Int) => jG C X n 5 0 0 4 [jA t, jI l1, jI l2_1, jI l3_2, jN] [] M) ?_ _ _ _ h
  intro self3 l2_1 l3_2 Hself3 h
  refine x_iload_n (pc := 4) hC dX8_bestLate_4 rfl rfl ?_
  refine x_iload_n (pc := 5) hC dX8_bestLate_5 rfl rfl ?_
  refine x_icmp_ge (tgt := 44) (pc := 6) hC dX8_bestLate_6 (by decide) (fun hc => ?_) (fun hc => ?_)
  · replace h := jit_pos hc h
    refine x_iload_n (pc := 44) hC dX8_bestLate_44 rfl rfl ?_
    exact x_iret (pc := 45) hC hR dX8_bestLate_45 (jrR h) rfl
  · replace h := jit_neg hc h
    refine x_aloadA_n (pc := 9) hC dX8_bestLate_9 rfl rfl ht (by decide) ?_
    refine x_aloadA_n (pc := 10) hC dX8_bestLate_10 rfl rfl ht (by decide) ?_
    refine x_gi (pc := 11) (ji := 2) hC fl_X8_9 rfl fn8_2 ht dX8_bestLate_11 ?_
    refine x_iload_n (pc := 14) hC dX8_bestLate_14 rfl rfl ?_
    refine x_iconst (pc := 15) hC dX8_bestLate_15 ?_
    refine x_ixor (pc := 16) hC dX8_bestLate_16 ?_
    refine x_iand (pc := 17) hC dX8_bestLate_17 ?_
    obtain ⟨v5, e4, h⟩ := jbR_some h
    refine x_cV (pc := 18) hC mv_X8_187 (ok_X8_greatestBonus hn ht e4) rfl (Nat.le_of_ble_eq_true rfl) ht rfl (by decide) (jRo0 C) (Nat.le_of_ble_eq_true rfl) dX8_bestLate_18 rfl ?_
    refine x_istore (ls2 := [jA t, jI l1, jI l2_1, jI l3_2, jI v5]) (pc := 21) hC dX8_bestLate_21 (by decide) rfl rfl rfl ?_
    refine x_iload (pc := 23) hC dX8_bestLate_23 rfl ?_
    refine x_iconst (pc := 25) hC dX8_bestLate_25 ?_
    refine x_icmp_ne (tgt := 31) (pc := 26) hC dX8_bestLate_26 (by decide) (fun hc => ?_) (fun hc => ?_)
    · replace h := jit_neg hc h
      refine x_iload_n (pc := 31) hC dX8_bestLate_31 rfl rfl ?_
      refine x_iconst (pc := 32) hC dX8_bestLate_32 ?_
      refine x_iload (pc := 33) hC dX8_bestLate_33 rfl ?_
      refine x_ishl (pc := 35) hC dX8_bestLate_35 ?_
      refine x_ior (pc := 36) hC dX8_bestLate_36 ?_
      obtain ⟨l2_6, el2_6, h⟩ := jlet_some h
      refine x_istore_n (ls2 := [jA t, jI l1, jI l2_6, jI l3_2, jI v5]) (pc := 37) hC dX8_bestLate_37 rfl (by decide) rfl el2_6 rfl ?_
      obtain ⟨l3_7, el3_7, h⟩ := jlet_some h
      refine x_iinc (ls2 := [jA t, jI l1, jI l2_6, jI l3_7, jI v5]) (pc := 38) hC dX8_bestLate_38 rfl (by decide) rfl el3_7 rfl ?_
      refine x_goto (tgt := 4) (pc := 41) hC dX8_bestLate_41 (by decide) ?_
      refine x_kill 4 (ls2 := [jA t, jI l1, jI l2_6, jI l3_7, jN]) rfl ?_
      exact Hself3 _ _ h
    · replace h := jit_pos hc h
      refine x_iload_n (pc := 29) hC dX8_bestLate_29 rfl rfl ?_
      exact x_iret (pc := 30) hC hR dX8_bestLate_30 (jrR h) rfl

set_option maxHeartbeats 4000000 in
set_option maxRecDepth 20000 in
theorem ok_X9_tapeNumber {X : jX} {n : Nat} (hn : 179 ≤ n) {l1 : Int} {M : jM} {Mz : jM} (h : f_X9_tapeNumber l1 M = some Mz) : jCt X n yX9_tapeNumber cX9_tapeNumber 3 (none) 0 [jA 1, jI l1] M (none) Mz := by
  refine jCt_of (own := RX9) (ls := [jA 1, jI l1, jN]) (by decide +kernel) rfl hn (Nat.le_of_ble_eq_true rfl) rfl ?_
  intro C hC hR
  unfold f_X9_tapeNumber at h
  refine x_bipush (pc := 0) hC dX9_tapeNumber_0 rfl ?_
  refine x_istore_n (ls2 := [jA 1, jI l1, jI 24]) (pc := 2) hC dX9_tapeNumber_2 rfl (by decide) rfl rfl rfl ?_
  refine jlp2_ind (P := fun (l2_1 : Int) (M2 : jM) => jG C X n 3 0 0 3 [jA 1, jI l1, jI l2_1] [] M2) ?_ _ _ _ h
  intro self3 l2_1 M2 Hself3 h
  refine x_iload_n (pc := 3) hC dX9_tapeNumber_3 rfl rfl ?_
  refine x_if_lt (tgt := 51) (pc := 4) hC dX9_tapeNumber_4 (by decide) (fun hc => ?_) (fun hc => ?_)
  · replace h := jit_pos hc h
    exact x_vret (pc := 51) hC hR dX9_tapeNumber_51 (jrR h)
  · replace h := jit_neg hc h
    refine x_aloadA_n (pc := 7) hC dX9_tapeNumber_7 rfl rfl k_1 (by decide) ?_
    refine x_gi (pc := 8) (ji := 1) hC fl_X9_13 rfl fn9_1 k_1 dX9_tapeNumber_8 ?_
    refine x_aloadA_n (pc := 11) hC dX9_tapeNumber_11 rfl rfl k_1 (by decide) ?_
    refine x_gf (pc := 12) (b := 2) hC fl_X9_9 ft9_0 k_1 (by decide) (off := 1) (by decide +kernel) (by decide) dX9_tapeNumber_12 ?_
    refine x_alenL (pc := 15) hC k_2 l_2 dX9_tapeNumber_15 ?_
    refine x_icmp_ge (tgt := 51) (pc := 16) hC dX9_tapeNumber_16 (by decide) (fun hc => ?_) (fun hc => ?_)
    · replace h := jit_pos hc h
      exact x_vret (pc := 51) hC hR dX9_tapeNumber_51 (jrR h)
    · replace h := jit_neg hc h
      refine x_aloadA_n (pc := 19) hC dX9_tapeNumber_19 rfl rfl k_1 (by decide) ?_
      refine x_gf (pc := 20) (b := 2) hC fl_X9_9 ft9_0 k_1 (by decide) (off := 1) (by decide +kernel) (by decide) dX9_tapeNumber_20 ?_
      refine x_aloadA_n (pc := 23) hC dX9_tapeNumber_23 rfl rfl k_1 (by decide) ?_
      refine x_gi (pc := 24) (ji := 1) hC fl_X9_13 rfl fn9_1 k_1 dX9_tapeNumber_24 ?_
      refine x_iload_n (pc := 27) hC dX9_tapeNumber_27 rfl rfl ?_
      refine x_iload_n (pc := 28) hC dX9_tapeNumber_28 rfl rfl ?_
      refine x_iushr (pc := 29) hC dX9_tapeNumber_29 ?_
      refine x_sipush (pc := 30) hC dX9_tapeNumber_30 rfl ?_
      refine x_iand (pc := 33) hC dX9_tapeNumber_33 ?_
      obtain ⟨hb4, h⟩ := jck_some h
      obtain ⟨M5, eM5, h⟩ := jlet_some h
      refine x_iast (pc := 34) hC k_2 (by rw [l_2]; exact hb4) dX9_tapeNumber_34 eM5 ?_
      refine x_aloadA_n (pc := 35) hC dX9_tapeNumber_35 rfl rfl k_1 (by decide) ?_
      refine x_dup (pc := 36) hC dX9_tapeNumber_36 (show (2 : Nat) ≠ 3 by decide) ?_
      refine x_gi (pc := 37) (ji := 1) hC fl_X9_13 rfl fn9_1 k_1 dX9_tapeNumber_37 ?_
      refine x_iconst (pc := 40) hC dX9_tapeNumber_40 ?_
      refine x_iadd (pc := 41) hC dX9_tapeNumber_41 ?_
      obtain ⟨M6, eM6, h⟩ := jlet_some h
      refine x_pi (pc := 42) (ji := 1) hC fl_X9_13 rfl ft9_1 k_1 dX9_tapeNumber_42 eM6 ?_
      obtain ⟨l2_7, el2_7, h⟩ := jlet_some h
      refine x_iinc (ls2 := [jA 1, jI l1, jI l2_7]) (pc := 45) hC dX9_tapeNumber_45 rfl (by decide) rfl el2_7 rfl ?_
      refine x_goto (tgt := 3) (pc := 48) hC dX9_tapeNumber_48 (by decide) ?_
      exact Hself3 _ _ h

set_option maxHeartbeats 4000000 in
set_option maxRecDepth 20000 in
theorem ok_X9_feed {X : jX} {n : Nat} (hn : 179 ≤ n) {l1 : Int} {l2 : Int} {l3 : Int} {l4 : Int} {l5 : Int} {M : jM} {rz : Int} {Mz : jM} (h : f_X9_feed l1 l2 l3 l4 l5 M = some (rz, Mz)) : jCt X n yX9_feed cX9_feed 6 (some .int) 1 [jA 1, jI l1, jI l2, jI l3, jI l4, jI l5] M (some (jI rz)) Mz := by
  refine jCt_of (own := RX9) (ls := [jA 1, jI l1, jI l2, jI l3, jI l4, jI l5]) (by decide +kernel) rfl hn (Nat.le_of_ble_eq_true rfl) rfl ?_
  intro C hC hR
  unfold f_X9_feed at h
  refine x_aloadA_n (pc := 0) hC dX9_feed_0 rfl rfl k_1 (by decide) ?_
  refine x_gi (pc := 1) (ji := 1) hC fl_X9_13 rfl fn9_1 k_1 dX9_feed_1 ?_
  refine x_bipush (pc := 4) hC dX9_feed_4 rfl ?_
  refine x_iadd (pc := 6) hC dX9_feed_6 ?_
  refine x_sipush (pc := 7) hC dX9_feed_7 rfl ?_
  refine x_icmp_le (tgt := 15) (pc := 10) hC dX9_feed_10 (by decide) (fun hc => ?_) (fun hc => ?_)
  · replace h := jit_pos hc h
    refine x_aloadA_n (pc := 15) hC dX9_feed_15 rfl rfl k_1 (by decide) ?_
    refine x_iload_n (pc := 16) hC dX9_feed_16 rfl rfl ?_
    obtain ⟨M2, e1, h⟩ := jbV_some h
    refine x_cV (pc := 17) hC mv_X9_62 (ok_X9_tapeNumber hn e1) rfl (Nat.le_of_ble_eq_true rfl) k_1 rfl (by decide) (jRo0 C) (Nat.le_of_ble_eq_true rfl) dX9_feed_17 rfl ?_
    refine x_aloadA_n (pc := 20) hC dX9_feed_20 rfl rfl k_1 (by decide) ?_
    refine x_iload_n (pc := 21) hC dX9_feed_21 rfl rfl ?_
    obtain ⟨M4, e3, h⟩ := jbV_some h
    refine x_cV (pc := 22) hC mv_X9_62 (ok_X9_tapeNumber hn e3) rfl (Nat.le_of_ble_eq_true rfl) k_1 rfl (by decide) (jRo0 C) (Nat.le_of_ble_eq_true rfl) dX9_feed_22 rfl ?_
    refine x_aloadA_n (pc := 25) hC dX9_feed_25 rfl rfl k_1 (by decide) ?_
    refine x_iload_n (pc := 26) hC dX9_feed_26 rfl rfl ?_
    obtain ⟨M6, e5, h⟩ := jbV_some h
    refine x_cV (pc := 27) hC mv_X9_62 (ok_X9_tapeNumber hn e5) rfl (Nat.le_of_ble_eq_true rfl) k_1 rfl (by decide) (jRo0 C) (Nat.le_of_ble_eq_true rfl) dX9_feed_27 rfl ?_
    refine x_aloadA_n (pc := 30) hC dX9_feed_30 rfl rfl k_1 (by decide) ?_
    refine x_iload (pc := 31) hC dX9_feed_31 rfl ?_
    obtain ⟨M8, e7, h⟩ := jbV_some h
    refine x_cV (pc := 33) hC mv_X9_62 (ok_X9_tapeNumber hn e7) rfl (Nat.le_of_ble_eq_true rfl) k_1 rfl (by decide) (jRo0 C) (Nat.le_of_ble_eq_true rfl) dX9_feed_33 rfl ?_
    refine x_aloadA_n (pc := 36) hC dX9_feed_36 rfl rfl k_1 (by decide) ?_
    refine x_iload (pc := 37) hC dX9_feed_37 rfl ?_
    obtain ⟨M10, e9, h⟩ := jbV_some h
    refine x_cV (pc := 39) hC mv_X9_62 (ok_X9_tapeNumber hn e9) rfl (Nat.le_of_ble_eq_true rfl) k_1 rfl (by decide) (jRo0 C) (Nat.le_of_ble_eq_true rfl) dX9_feed_39 rfl ?_
    refine x_aloadA_n (pc := 42) hC dX9_feed_42 rfl rfl k_1 (by decide) ?_
    refine x_gi (pc := 43) (ji := 1) hC fl_X9_13 rfl fn9_1 k_1 dX9_feed_43 ?_
    exact x_iret (pc := 46) hC hR dX9_feed_46 (jr1 h) (jr2 h)
  · replace h := jit_neg hc h
    refine x_iconst (pc := 13) hC dX9_feed_13 ?_
    exact x_iret (pc := 14) hC hR dX9_feed_14 (jr1 h) (jr2 h)

set_option maxHeartbeats 4000000 in
set_option maxRecDepth 20000 in
theorem ok_X9_end {X : jX} {n : Nat} (hn : 179 ≤ n) {l1 : Int} {M : jM} {rz : Int} {Mz : jM} (h : f_X9_end l1 M = some (rz, Mz)) : jCt X n yX9_end cX9_end 2 (some .boolean) 0 [jA 1, jI l1] M (some (jI rz)) Mz := by
  refine jCt_of (own := RX9) (ls := [jA 1, jI l1]) (by decide +kernel) rfl hn (Nat.le_of_ble_eq_true rfl) rfl ?_
  intro C hC hR
  unfold f_X9_end at h
  refine x_iload_n (pc := 0) hC dX9_end_0 rfl rfl ?_
  refine x_if_lt (tgt := 12) (pc := 1) hC dX9_end_1 (by decide) (fun hc => ?_) (fun hc => ?_)
  · replace h := jit_pos hc h
    refine x_iconst (pc := 12) hC dX9_end_12 ?_
    exact x_zret (pc := 13) hC hR dX9_end_13 (Or.inl jw0) (jr1 h) (jr2 h)
  · replace h := jit_neg hc h
    refine x_iload_n (pc := 4) hC dX9_end_4 rfl rfl ?_
    refine x_aloadA_n (pc := 5) hC dX9_end_5 rfl rfl k_1 (by decide) ?_
    refine x_gi (pc := 6) (ji := 1) hC fl_X9_13 rfl fn9_1 k_1 dX9_end_6 ?_
    refine x_icmp_le (tgt := 14) (pc := 9) hC dX9_end_9 (by decide) (fun hc => ?_) (fun hc => ?_)
    · replace h := jit_pos hc h
      refine x_aloadA_n (pc := 14) hC dX9_end_14 rfl rfl k_1 (by decide) ?_
      refine x_iload_n (pc := 15) hC dX9_end_15 rfl rfl ?_
      obtain ⟨M1, eM1, h⟩ := jlet_some h
      refine x_pi (pc := 16) (ji := 1) hC fl_X9_13 rfl ft9_1 k_1 dX9_end_16 eM1 ?_
      refine x_iconst (pc := 19) hC dX9_end_19 ?_
      exact x_zret (pc := 20) hC hR dX9_end_20 (Or.inr jw1) (jr1 h) (jr2 h)
    · replace h := jit_neg hc h
      refine x_iconst (pc := 12) hC dX9_end_12 ?_
      exact x_zret (pc := 13) hC hR dX9_end_13 (Or.inl jw0) (jr1 h) (jr2 h)

set_option maxHeartbeats 4000000 in
set_option maxRecDepth 20000 in
theorem ok_X9_fault {X : jX} {n : Nat} (hn : 179 ≤ n) {M : jM} {rz : Int} (h : f_X9_fault M = some rz) : jCt X n yX9_fault cX9_fault 1 (some .int) 0 [jA 1] M (some (jI rz)) M := by
  refine jCt_of (own := RX9) (ls := [jA 1]) (by decide +kernel) rfl hn (Nat.le_of_ble_eq_true rfl) rfl ?_
  intro C hC hR
  unfold f_X9_fault at h
  refine x_aloadA_n (pc := 0) hC dX9_fault_0 rfl rfl k_1 (by decide) ?_
  refine x_gi (pc := 1) (ji := 2) hC fl_X9_17 rfl fn9_2 k_1 dX9_fault_1 ?_
  exact x_iret (pc := 4) hC hR dX9_fault_4 (jrR h) rfl

set_option maxHeartbeats 4000000 in
set_option maxRecDepth 20000 in
theorem ok_X9_tallied {X : jX} {n : Nat} (hn : 179 ≤ n) {l1 : Int} {M : jM} {rz : Int} {Mz : jM} (h : f_X9_tallied l1 M = some (rz, Mz)) : jCt X n yX9_tallied cX9_tallied 3 (some (.object "IceJudge$Tally")) 5 [jA 1, jI l1] M (some (jA rz)) Mz := by
  refine jCt_of (own := RX9) (ls := [jA 1, jI l1, jN]) (by decide +kernel) rfl hn (Nat.le_of_ble_eq_true rfl) rfl ?_
  intro C hC hR
  unfold f_X9_tallied at h
  refine x_aloadA_n (pc := 0) hC dX9_tallied_0 rfl rfl k_1 (by decide) ?_
  refine x_gf (pc := 1) (b := 110) hC fl_X9_44 ft9_6 k_1 (by decide) (off := 109) (by decide +kernel) (by decide) dX9_tallied_1 ?_
  refine x_gf (pc := 4) (b := 111) hC fl_X9_336 ft7_1 k_110 (by decide) (off := 1) (by decide +kernel) (by decide) dX9_tallied_4 ?_
  refine x_iload_n (pc := 7) hC dX9_tallied_7 rfl rfl ?_
  obtain ⟨hb1, h⟩ := jck_some h
  refine x_aald15 (pc := 8) hC k_111 hb1 rfl dX9_tallied_8 ?_
  refine x_astoreA_n (ls2 := [jA 1, jI l1, jA (111 + 6 + 7 * jw l1)]) (pc := 9) hC dX9_tallied_9 rfl (by decide) rfl (jta k_111 hb1.1 hb1.2) (by decide) rfl ?_
  refine x_aloadA_n (pc := 10) hC dX9_tallied_10 rfl rfl (jta k_111 hb1.1 hb1.2) (by decide) ?_
  refine x_aloadA_n (pc := 11) hC dX9_tallied_11 rfl rfl k_1 (by decide) ?_
  obtain ⟨hk2, h⟩ := jck_some h
  refine x_gr (pc := 12) (ji := 3) hC fl_X9_23 rfl ft9_3 k_1 dX9_tallied_12 ?_
  refine x_iload_n (pc := 15) hC dX9_tallied_15 rfl rfl ?_
  refine x_sipush (pc := 16) hC dX9_tallied_16 rfl ?_
  refine x_bipush (pc := 19) hC dX9_tallied_19 rfl ?_
  obtain ⟨M4, e3, h⟩ := jbV_some h
  refine x_cV (pc := 21) hC mv_X9_340 (ok_X8_weigh hn (jta k_111 hb1.1 hb1.2) hk2 e3) rfl (Nat.le_of_ble_eq_true rfl) (jta k_111 hb1.1 hb1.2) rfl (by decide) (jRo0 C) (Nat.le_of_ble_eq_true rfl) dX9_tallied_21 rfl ?_
  refine x_aloadA_n (pc := 24) hC dX9_tallied_24 rfl rfl (jta k_111 hb1.1 hb1.2) (by decide) ?_
  exact x_aret (pc := 25) hC hR dX9_tallied_25 (jr1 h) (jr2 h)

set_option maxHeartbeats 4000000 in
set_option maxRecDepth 20000 in
theorem ok_X9_everyJudge {X : jX} {n : Nat} (hn : 179 ≤ n) {M : jM} {rz : Int} (h : f_X9_everyJudge M = some rz) : jCt X n yX9_everyJudge cX9_everyJudge 1 (some .int) 1 [jA 1] M (some (jI rz)) M := by
  refine jCt_of (own := RX9) (ls := [jA 1]) (by decide +kernel) rfl hn (Nat.le_of_ble_eq_true rfl) rfl ?_
  intro C hC hR
  unfold f_X9_everyJudge at h
  refine x_aloadA_n (pc := 0) hC dX9_everyJudge_0 rfl rfl k_1 (by decide) ?_
  obtain ⟨hk1, h⟩ := jck_some h
  refine x_gr (pc := 1) (ji := 3) hC fl_X9_23 rfl ft9_3 k_1 dX9_everyJudge_1 ?_
  obtain ⟨v3, e2, h⟩ := jbR_some h
  refine x_cV (pc := 4) hC mv_X9_374 (ok_X1_everyJudge hn hk1 e2) rfl (Nat.le_of_ble_eq_true rfl) hk1 rfl (by decide) (jRo0 C) (Nat.le_of_ble_eq_true rfl) dX9_everyJudge_4 rfl ?_
  exact x_iret (pc := 7) hC hR dX9_everyJudge_7 (jrR h) rfl

set_option maxHeartbeats 4000000 in
set_option maxRecDepth 20000 in
theorem ok_X9_voteOfMark {X : jX} {n : Nat} (hn : 179 ≤ n) {l0 : Int} {l1 : Int} {M : jM} {rz : Int} (h : f_X9_voteOfMark l0 l1 = some rz) : jCt X n yX9_voteOfMark cX9_voteOfMark 2 (some .int) 0 [jI l0, jI l1] M (some (jI rz)) M := by
  refine jCt_of (own := RX9) (ls := [jI l0, jI l1]) (by decide +kernel) rfl hn (Nat.le_of_ble_eq_true rfl) rfl ?_
  intro C hC hR
  unfold f_X9_voteOfMark at h
  refine x_bipush (pc := 0) hC dX9_voteOfMark_0 rfl ?_
  refine x_iload_n (pc := 2) hC dX9_voteOfMark_2 rfl rfl ?_
  refine x_iadd (pc := 3) hC dX9_voteOfMark_3 ?_
  refine x_bipush (pc := 4) hC dX9_voteOfMark_4 rfl ?_
  refine x_imul (pc := 6) hC dX9_voteOfMark_6 ?_
  refine x_iload_n (pc := 7) hC dX9_voteOfMark_7 rfl rfl ?_
  refine x_iadd (pc := 8) hC dX9_voteOfMark_8 ?_
  exact x_iret (pc := 9) hC hR dX9_voteOfMark_9 (jrR h) rfl

set_option maxHeartbeats 4000000 in
set_option maxRecDepth 20000 in
theorem ok_X9_ranked {X : jX} {n : Nat} (hn : 179 ≤ n) {l1 : Int} {M : jM} {rz : Int} {Mz : jM} (h : f_X9_ranked l1 M = some (rz, Mz)) : jCt X n yX9_ranked cX9_ranked 2 (some .int) 6 [jA 1, jI l1] M (some (jI rz)) Mz := by
  refine jCt_of (own := RX9) (ls := [jA 1, jI l1]) (by decide +kernel) rfl hn (Nat.le_of_ble_eq_true rfl) rfl ?_
  intro C hC hR
  unfold f_X9_ranked at h
  refine x_aloadA_n (pc := 0) hC dX9_ranked_0 rfl rfl k_1 (by decide) ?_
  refine x_gf (pc := 1) (b := 110) hC fl_X9_44 ft9_6 k_1 (by decide) (off := 109) (by decide +kernel) (by decide) dX9_ranked_1 ?_
  refine x_aloadA_n (pc := 4) hC dX9_ranked_4 rfl rfl k_1 (by decide) ?_
  obtain ⟨hk1, h⟩ := jck_some h
  refine x_gr (pc := 5) (ji := 3) hC fl_X9_23 rfl ft9_3 k_1 dX9_ranked_5 ?_
  refine x_sipush (pc := 8) hC dX9_ranked_8 rfl ?_
  obtain ⟨M3, e2, h⟩ := jbV_some h
  refine x_cV (pc := 11) hC mv_X9_215 (ok_X7_weigh hn hk1 e2) rfl (Nat.le_of_ble_eq_true rfl) k_110 rfl (by decide) (jRo0 C) (Nat.le_of_ble_eq_true rfl) dX9_ranked_11 rfl ?_
  refine x_aloadA_n (pc := 14) hC dX9_ranked_14 rfl rfl k_1 (by decide) ?_
  refine x_gf (pc := 15) (b := 110) hC fl_X9_44 ft9_6 k_1 (by decide) (off := 109) (by decide +kernel) (by decide) dX9_ranked_15 ?_
  refine x_iload_n (pc := 18) hC dX9_ranked_18 rfl rfl ?_
  obtain ⟨v5, e4, h⟩ := jbR_some h
  refine x_cV (pc := 19) hC mv_X9_222 (ok_X7_skaterAt hn e4) rfl (Nat.le_of_ble_eq_true rfl) k_110 rfl (by decide) (jRo0 C) (Nat.le_of_ble_eq_true rfl) dX9_ranked_19 rfl ?_
  exact x_iret (pc := 22) hC hR dX9_ranked_22 (jr1 h) (jr2 h)

set_option maxHeartbeats 4000000 in
set_option maxRecDepth 20000 in
theorem ok_X9_tellVote {X : jX} {n : Nat} (hn : 179 ≤ n) {l1 : Int} {l2 : Int} {l3 : Int} {M : jM} {rz : Int} {Mz : jM} (h : f_X9_tellVote l1 l2 l3 M = some (rz, Mz)) : jCt X n yX9_tellVote cX9_tellVote 6 (some .int) 2 [jA 1, jI l1, jI l2, jI l3] M (some (jI rz)) Mz := by
  refine jCt_of (own := RX9) (ls := [jA 1, jI l1, jI l2, jI l3, jN, jN]) (by decide +kernel) rfl hn (Nat.le_of_ble_eq_true rfl) rfl ?_
  intro C hC hR
  unfold f_X9_tellVote at h
  refine x_aloadA_n (pc := 0) hC dX9_tellVote_0 rfl rfl k_1 (by decide) ?_
  obtain ⟨hk1, h⟩ := jck_some h
  refine x_gr (pc := 1) (ji := 3) hC fl_X9_23 rfl ft9_3 k_1 dX9_tellVote_1 ?_
  refine x_gf (pc := 4) (b := ((M 1 3) + 16)) hC fl_X9_117 ft1_7 hk1 (by decide) (off := 16) (by decide +kernel) rfl dX9_tellVote_4 ?_
  refine x_iload_n (pc := 7) hC dX9_tellVote_7 rfl rfl ?_
  obtain ⟨hb2, h⟩ := jck_some h
  refine x_aald14 (pc := 8) hC (ko1_7 hk1) hb2 rfl dX9_tellVote_8 ?_
  refine x_gf (pc := 9) (b := ((((M 1 3) + 16) + 1 + 6 * jw l1) + 5)) hC fl_X9_167 ft6_7 (jsk (ko1_7 hk1) hb2.1 hb2.2) (by decide) (off := 5) (by decide +kernel) rfl dX9_tellVote_9 ?_
  refine x_astoreA (ls2 := [jA 1, jI l1, jI l2, jI l3, jA ((((M 1 3) + 16) + 1 + 6 * jw l1) + 5), jN]) (pc := 12) hC dX9_tellVote_12 (by decide) rfl (ko6_7 (jsk (ko1_7 hk1) hb2.1 hb2.2)) (by decide) rfl ?_
  refine x_aloadA (pc := 14) hC dX9_tellVote_14 rfl (ko6_7 (jsk (ko1_7 hk1) hb2.1 hb2.2)) (by decide) ?_
  refine x_iload_n (pc := 16) hC dX9_tellVote_16 rfl rfl ?_
  obtain ⟨hb3, h⟩ := jck_some h
  refine x_iald (pc := 17) hC (ko6_7 (jsk (ko1_7 hk1) hb2.1 hb2.2)) (by rw [lo6_7 (jsk (ko1_7 hk1) hb2.1 hb2.2)]; exact hb3) dX9_tellVote_17 ?_
  obtain ⟨l5_4, el5_4, h⟩ := jlet_some h
  refine x_istore (ls2 := [jA 1, jI l1, jI l2, jI l3, jA ((((M 1 3) + 16) + 1 + 6 * jw l1) + 5), jI l5_4]) (pc := 18) hC dX9_tellVote_18 (by decide) rfl el5_4 rfl ?_
  refine x_aloadA_n (pc := 20) hC dX9_tellVote_20 rfl rfl k_1 (by decide) ?_
  refine x_gf (pc := 21) (b := 159) hC fl_X9_51 ft9_7 k_1 (by decide) (off := 158) (by decide +kernel) (by decide) dX9_tellVote_21 ?_
  refine x_iconst (pc := 24) hC dX9_tellVote_24 ?_
  refine x_iload_n (pc := 25) hC dX9_tellVote_25 rfl rfl ?_
  refine x_iload_n (pc := 26) hC dX9_tellVote_26 rfl rfl ?_
  refine x_iload (pc := 27) hC dX9_tellVote_27 rfl ?_
  obtain ⟨M6, e5, h⟩ := jbV_some h
  refine x_cV (pc := 29) hC mv_X9_235 (ok_X0_keep hn e5) rfl (Nat.le_of_ble_eq_true rfl) k_159 rfl (by decide) (jRo0 C) (Nat.le_of_ble_eq_true rfl) dX9_tellVote_29 rfl ?_
  refine x_aloadA (pc := 32) hC dX9_tellVote_32 rfl (ko6_7 (jsk (ko1_7 hk1) hb2.1 hb2.2)) (by decide) ?_
  refine x_iload_n (pc := 34) hC dX9_tellVote_34 rfl rfl ?_
  refine x_iload_n (pc := 35) hC dX9_tellVote_35 rfl rfl ?_
  obtain ⟨hb7, h⟩ := jck_some h
  obtain ⟨M8, eM8, h⟩ := jlet_some h
  refine x_iast (pc := 36) hC (ko6_7 (jsk (ko1_7 hk1) hb2.1 hb2.2)) (by rw [lo6_7 (jsk (ko1_7 hk1) hb2.1 hb2.2)]; exact hb7) dX9_tellVote_36 eM8 ?_
  refine x_iload (pc := 37) hC dX9_tellVote_37 rfl ?_
  exact x_iret (pc := 39) hC hR dX9_tellVote_39 (jr1 h) (jr2 h)

set_option maxHeartbeats 4000000 in
set_option maxRecDepth 20000 in
theorem ok_X9_undo {X : jX} {n : Nat} (hn : 179 ≤ n) {M : jM} {rz : Int} {Mz : jM} (h : f_X9_undo M = some (rz, Mz)) : jCt X n yX9_undo cX9_undo 1 (some .int) 1 [jA 1] M (some (jI rz)) Mz := by
  refine jCt_of (own := RX9) (ls := [jA 1]) (by decide +kernel) rfl hn (Nat.le_of_ble_eq_true rfl) rfl ?_
  intro C hC hR
  unfold f_X9_undo at h
  refine x_aloadA_n (pc := 0) hC dX9_undo_0 rfl rfl k_1 (by decide) ?_
  refine x_gf (pc := 1) (b := 159) hC fl_X9_51 ft9_7 k_1 (by decide) (off := 158) (by decide +kernel) (by decide) dX9_undo_1 ?_
  refine x_aloadA_n (pc := 4) hC dX9_undo_4 rfl rfl k_1 (by decide) ?_
  obtain ⟨hk1, h⟩ := jck_some h
  refine x_gr (pc := 5) (ji := 3) hC fl_X9_23 rfl ft9_3 k_1 dX9_undo_5 ?_
  obtain ⟨v4, M3, e2, h⟩ := jbW_some h
  refine x_cV (pc := 8) hC mv_X9_260 (ok_X0_takeBack hn hk1 e2) rfl (Nat.le_of_ble_eq_true rfl) k_159 rfl (by decide) (jRo0 C) (Nat.le_of_ble_eq_true rfl) dX9_undo_8 rfl ?_
  refine x_if_eq (tgt := 24) (pc := 11) hC dX9_undo_11 (by decide) (fun hc => ?_) (fun hc => ?_)
  · replace h := jit_pos hc h
    refine x_iconst (pc := 24) hC dX9_undo_24 ?_
    exact x_iret (pc := 25) hC hR dX9_undo_25 (jr1 h) (jr2 h)
  · replace h := jit_neg hc h
    refine x_aloadA_n (pc := 14) hC dX9_undo_14 rfl rfl k_1 (by decide) ?_
    refine x_gf (pc := 15) (b := 159) hC fl_X9_51 ft9_7 k_1 (by decide) (off := 158) (by decide +kernel) (by decide) dX9_undo_15 ?_
    refine x_gi (pc := 18) (ji := 0) hC fl_X9_264 rfl fn0_0 k_159 dX9_undo_18 ?_
    refine x_goto (tgt := 25) (pc := 21) hC dX9_undo_21 (by decide) ?_
    exact x_iret (pc := 25) hC hR dX9_undo_25 (jr1 h) (jr2 h)

set_option maxHeartbeats 4000000 in
set_option maxRecDepth 20000 in
theorem ok_X9_odd {X : jX} {n : Nat} (hn : 179 ≤ n) {M : jM} {rz : Int} {Mz : jM} (h : f_X9_odd M = some (rz, Mz)) : jCt X n yX9_odd cX9_odd 1 (some .int) 6 [jA 1] M (some (jI rz)) Mz := by
  refine jCt_of (own := RX9) (ls := [jA 1]) (by decide +kernel) rfl hn (Nat.le_of_ble_eq_true rfl) rfl ?_
  intro C hC hR
  unfold f_X9_odd at h
  refine x_aloadA_n (pc := 0) hC dX9_odd_0 rfl rfl k_1 (by decide) ?_
  refine x_gf (pc := 1) (b := 110) hC fl_X9_44 ft9_6 k_1 (by decide) (off := 109) (by decide +kernel) (by decide) dX9_odd_1 ?_
  refine x_aloadA_n (pc := 4) hC dX9_odd_4 rfl rfl k_1 (by decide) ?_
  obtain ⟨hk1, h⟩ := jck_some h
  refine x_gr (pc := 5) (ji := 3) hC fl_X9_23 rfl ft9_3 k_1 dX9_odd_5 ?_
  refine x_sipush (pc := 8) hC dX9_odd_8 rfl ?_
  obtain ⟨M3, e2, h⟩ := jbV_some h
  refine x_cV (pc := 11) hC mv_X9_215 (ok_X7_weigh hn hk1 e2) rfl (Nat.le_of_ble_eq_true rfl) k_110 rfl (by decide) (jRo0 C) (Nat.le_of_ble_eq_true rfl) dX9_odd_11 rfl ?_
  refine x_aloadA_n (pc := 14) hC dX9_odd_14 rfl rfl k_1 (by decide) ?_
  refine x_gf (pc := 15) (b := 110) hC fl_X9_44 ft9_6 k_1 (by decide) (off := 109) (by decide +kernel) (by decide) dX9_odd_15 ?_
  obtain ⟨v5, e4, h⟩ := jbR_some h
  refine x_cV (pc := 18) hC mv_X9_268 (ok_X7_farthestLeaning hn e4) rfl (Nat.le_of_ble_eq_true rfl) k_110 rfl (by decide) (jRo0 C) (Nat.le_of_ble_eq_true rfl) dX9_odd_18 rfl ?_
  exact x_iret (pc := 21) hC hR dX9_odd_21 (jr1 h) (jr2 h)

set_option maxHeartbeats 4000000 in
set_option maxRecDepth 20000 in
theorem ok_X9_totalBy {X : jX} {n : Nat} (hn : 179 ≤ n) {l1 : Int} {l2 : Int} {M : jM} {rz : Int} {Mz : jM} (h : f_X9_totalBy l1 l2 M = some (rz, Mz)) : jCt X n yX9_totalBy cX9_totalBy 4 (some .int) 6 [jA 1, jI l1, jI l2] M (some (jI rz)) Mz := by
  refine jCt_of (own := RX9) (ls := [jA 1, jI l1, jI l2, jN]) (by decide +kernel) rfl hn (Nat.le_of_ble_eq_true rfl) rfl ?_
  intro C hC hR
  unfold f_X9_totalBy at h
  refine x_aloadA_n (pc := 0) hC dX9_totalBy_0 rfl rfl k_1 (by decide) ?_
  refine x_iload_n (pc := 1) hC dX9_totalBy_1 rfl rfl ?_
  obtain ⟨v3, M2, e1, h⟩ := jbW_some h
  refine x_cV (pc := 2) hC mv_X9_121 (ok_X9_tallied hn e1) rfl (Nat.le_of_ble_eq_true rfl) k_1 rfl (by decide) (jRo0 C) (Nat.le_of_ble_eq_true rfl) dX9_totalBy_2 rfl ?_
  obtain ⟨hk4, h⟩ := jck_some h
  refine x_astoreA_n (ls2 := [jA 1, jI l1, jI l2, jA v3]) (pc := 5) hC dX9_totalBy_5 rfl (by decide) rfl hk4 (by decide) rfl ?_
  refine x_aloadA_n (pc := 6) hC dX9_totalBy_6 rfl rfl hk4 (by decide) ?_
  refine x_iload_n (pc := 7) hC dX9_totalBy_7 rfl rfl ?_
  obtain ⟨M6, e5, h⟩ := jbV_some h
  refine x_cV (pc := 8) hC mv_X9_375 (ok_X8_judgeBy hn hk4 e5) rfl (Nat.le_of_ble_eq_true rfl) hk4 rfl (by decide) (jRo0 C) (Nat.le_of_ble_eq_true rfl) dX9_totalBy_8 rfl ?_
  refine x_aloadA_n (pc := 11) hC dX9_totalBy_11 rfl rfl hk4 (by decide) ?_
  refine x_gi (pc := 12) (ji := 8) hC fl_X9_199 rfl fn8_8 hk4 dX9_totalBy_12 ?_
  exact x_iret (pc := 15) hC hR dX9_totalBy_15 (jr1 h) (jr2 h)

set_option maxHeartbeats 4000000 in
set_option maxRecDepth 20000 in
theorem ok_X9_major {X : jX} {n : Nat} (hn : 179 ≤ n) {l1 : Int} {M : jM} {rz : Int} {Mz : jM} (h : f_X9_major l1 M = some (rz, Mz)) : jCt X n yX9_major cX9_major 2 (some .int) 6 [jA 1, jI l1] M (some (jI rz)) Mz := by
  refine jCt_of (own := RX9) (ls := [jA 1, jI l1]) (by decide +kernel) rfl hn (Nat.le_of_ble_eq_true rfl) rfl ?_
  intro C hC hR
  unfold f_X9_major at h
  refine x_aloadA_n (pc := 0) hC dX9_major_0 rfl rfl k_1 (by decide) ?_
  refine x_gf (pc := 1) (b := 110) hC fl_X9_44 ft9_6 k_1 (by decide) (off := 109) (by decide +kernel) (by decide) dX9_major_1 ?_
  refine x_aloadA_n (pc := 4) hC dX9_major_4 rfl rfl k_1 (by decide) ?_
  obtain ⟨hk1, h⟩ := jck_some h
  refine x_gr (pc := 5) (ji := 3) hC fl_X9_23 rfl ft9_3 k_1 dX9_major_5 ?_
  refine x_sipush (pc := 8) hC dX9_major_8 rfl ?_
  obtain ⟨M3, e2, h⟩ := jbV_some h
  refine x_cV (pc := 11) hC mv_X9_215 (ok_X7_weigh hn hk1 e2) rfl (Nat.le_of_ble_eq_true rfl) k_110 rfl (by decide) (jRo0 C) (Nat.le_of_ble_eq_true rfl) dX9_major_11 rfl ?_
  refine x_aloadA_n (pc := 14) hC dX9_major_14 rfl rfl k_1 (by decide) ?_
  refine x_gf (pc := 15) (b := 110) hC fl_X9_44 ft9_6 k_1 (by decide) (off := 109) (by decide +kernel) (by decide) dX9_major_15 ?_
  obtain ⟨M5, e4, h⟩ := jbV_some h
  refine x_cV (pc := 18) hC mv_X9_283 (ok_X7_findMajorities hn e4) rfl (Nat.le_of_ble_eq_true rfl) k_110 rfl (by decide) (jRo0 C) (Nat.le_of_ble_eq_true rfl) dX9_major_18 rfl ?_
  refine x_aloadA_n (pc := 21) hC dX9_major_21 rfl rfl k_1 (by decide) ?_
  refine x_gf (pc := 22) (b := 110) hC fl_X9_44 ft9_6 k_1 (by decide) (off := 109) (by decide +kernel) (by decide) dX9_major_22 ?_
  refine x_iload_n (pc := 25) hC dX9_major_25 rfl rfl ?_
  obtain ⟨v7, e6, h⟩ := jbR_some h
  refine x_cV (pc := 26) hC mv_X9_289 (ok_X7_skaterByMajorities hn e6) rfl (Nat.le_of_ble_eq_true rfl) k_110 rfl (by decide) (jRo0 C) (Nat.le_of_ble_eq_true rfl) dX9_major_26 rfl ?_
  exact x_iret (pc := 29) hC hR dX9_major_29 (jr1 h) (jr2 h)

set_option maxHeartbeats 4000000 in
set_option maxRecDepth 20000 in
theorem ok_X9_judgeOutside {X : jX} {n : Nat} (hn : 179 ≤ n) {l1 : Int} {l2 : Int} {M : jM} {rz : Int} (h : f_X9_judgeOutside l1 l2 M = some rz) : jCt X n yX9_judgeOutside cX9_judgeOutside 5 (some .int) 0 [jA 1, jI l1, jI l2] M (some (jI rz)) M := by
  refine jCt_of (own := RX9) (ls := [jA 1, jI l1, jI l2, jN, jN]) (by decide +kernel) rfl hn (Nat.le_of_ble_eq_true rfl) rfl ?_
  intro C hC hR
  unfold f_X9_judgeOutside at h
  refine x_iconst (pc := 0) hC dX9_judgeOutside_0 ?_
  refine x_istore_n (ls2 := [jA 1, jI l1, jI l2, jI 0, jN]) (pc := 1) hC dX9_judgeOutside_1 rfl (by decide) rfl rfl rfl ?_
  refine x_iconst (pc := 2) hC dX9_judgeOutside_2 ?_
  refine x_istore (ls2 := [jA 1, jI l1, jI l2, jI 0, jI 0]) (pc := 3) hC dX9_judgeOutside_3 (by decide) rfl rfl rfl ?_
  refine jlp2_ind (P := fun (l3_1 : Int) (l4_2 : Int) => jG C X n 5 0 0 5 [jA 1, jI l1, jI l2, jI l3_1, jI l4_2] [] M) ?_ _ _ _ h
  intro self3 l3_1 l4_2 Hself3 h
  refine x_iload (pc := 5) hC dX9_judgeOutside_5 rfl ?_
  refine x_aloadA_n (pc := 7) hC dX9_judgeOutside_7 rfl rfl k_1 (by decide) ?_
  obtain ⟨hk4, h⟩ := jck_some h
  refine x_gr (pc := 8) (ji := 3) hC fl_X9_23 rfl ft9_3 k_1 dX9_judgeOutside_8 ?_
  refine x_gi (pc := 11) (ji := 0) hC fl_X9_295 rfl fn1_0 hk4 dX9_judgeOutside_11 ?_
  refine x_icmp_ge (tgt := 43) (pc := 14) hC dX9_judgeOutside_14 (by decide) (fun hc => ?_) (fun hc => ?_)
  · replace h := jit_pos hc h
    refine x_iconst (pc := 43) hC dX9_judgeOutside_43 ?_
    exact x_iret (pc := 44) hC hR dX9_judgeOutside_44 (jrR h) rfl
  · replace h := jit_neg hc h
    refine x_iload_n (pc := 17) hC dX9_judgeOutside_17 rfl rfl ?_
    refine x_iload (pc := 18) hC dX9_judgeOutside_18 rfl ?_
    refine x_ishr (pc := 20) hC dX9_judgeOutside_20 ?_
    refine x_iconst (pc := 21) hC dX9_judgeOutside_21 ?_
    refine x_iand (pc := 22) hC dX9_judgeOutside_22 ?_
    refine x_if_ne (tgt := 37) (pc := 23) hC dX9_judgeOutside_23 (by decide) (fun hc => ?_) (fun hc => ?_)
    · replace h := jit_neg hc h
      obtain ⟨l4_5, el4_5, h⟩ := jlet_some h
      refine x_iinc (ls2 := [jA 1, jI l1, jI l2, jI l3_1, jI l4_5]) (pc := 37) hC dX9_judgeOutside_37 rfl (by decide) rfl el4_5 rfl ?_
      refine x_goto (tgt := 5) (pc := 40) hC dX9_judgeOutside_40 (by decide) ?_
      exact Hself3 _ _ h
    · replace h := jit_pos hc h
      refine x_iload_n (pc := 26) hC dX9_judgeOutside_26 rfl rfl ?_
      refine x_iload_n (pc := 27) hC dX9_judgeOutside_27 rfl rfl ?_
      refine x_icmp_ne (tgt := 34) (pc := 28) hC dX9_judgeOutside_28 (by decide) (fun hc => ?_) (fun hc => ?_)
      · replace h := jit_neg hc h
        obtain ⟨l3_6, el3_6, h⟩ := jlet_some h
        refine x_iinc (ls2 := [jA 1, jI l1, jI l2, jI l3_6, jI l4_2]) (pc := 34) hC dX9_judgeOutside_34 rfl (by decide) rfl el3_6 rfl ?_
        obtain ⟨l4_7, el4_7, h⟩ := jlet_some h
        refine x_iinc (ls2 := [jA 1, jI l1, jI l2, jI l3_6, jI l4_7]) (pc := 37) hC dX9_judgeOutside_37 rfl (by decide) rfl el4_7 rfl ?_
        refine x_goto (tgt := 5) (pc := 40) hC dX9_judgeOutside_40 (by decide) ?_
        exact Hself3 _ _ h
      · replace h := jit_pos hc h
        refine x_iload (pc := 31) hC dX9_judgeOutside_31 rfl ?_
        exact x_iret (pc := 33) hC hR dX9_judgeOutside_33 (jrR h) rfl

set_option maxHeartbeats 4000000 in
set_option maxRecDepth 20000 in
theorem ok_X9_octet {X : jX} {n : Nat} (hn : 179 ≤ n) {l1 : Int} {M : jM} {rz : Int} (h : f_X9_octet l1 M = some rz) : jCt X n yX9_octet cX9_octet 2 (some .int) 0 [jA 1, jI l1] M (some (jI rz)) M := by
  refine jCt_of (own := RX9) (ls := [jA 1, jI l1]) (by decide +kernel) rfl hn (Nat.le_of_ble_eq_true rfl) rfl ?_
  intro C hC hR
  unfold f_X9_octet at h
  refine x_iload_n (pc := 0) hC dX9_octet_0 rfl rfl ?_
  refine x_if_lt (tgt := 27) (pc := 1) hC dX9_octet_1 (by decide) (fun hc => ?_) (fun hc => ?_)
  · replace h := jit_pos hc h
    refine x_iconst (pc := 27) hC dX9_octet_27 ?_
    exact x_iret (pc := 28) hC hR dX9_octet_28 (jrR h) rfl
  · replace h := jit_neg hc h
    refine x_iload_n (pc := 4) hC dX9_octet_4 rfl rfl ?_
    refine x_aloadA_n (pc := 5) hC dX9_octet_5 rfl rfl k_1 (by decide) ?_
    refine x_gf (pc := 6) (b := 164) hC fl_X9_58 ft9_8 k_1 (by decide) (off := 163) (by decide +kernel) (by decide) dX9_octet_6 ?_
    refine x_gi (pc := 9) (ji := 1) hC fl_X9_347 rfl fn3_1 k_164 dX9_octet_9 ?_
    refine x_icmp_ge (tgt := 27) (pc := 12) hC dX9_octet_12 (by decide) (fun hc => ?_) (fun hc => ?_)
    · replace h := jit_pos hc h
      refine x_iconst (pc := 27) hC dX9_octet_27 ?_
      exact x_iret (pc := 28) hC hR dX9_octet_28 (jrR h) rfl
    · replace h := jit_neg hc h
      refine x_aloadA_n (pc := 15) hC dX9_octet_15 rfl rfl k_1 (by decide) ?_
      refine x_gf (pc := 16) (b := 164) hC fl_X9_58 ft9_8 k_1 (by decide) (off := 163) (by decide +kernel) (by decide) dX9_octet_16 ?_
      refine x_gf (pc := 19) (b := 165) hC fl_X9_348 ft3_0 k_164 (by decide) (off := 1) (by decide +kernel) (by decide) dX9_octet_19 ?_
      refine x_iload_n (pc := 22) hC dX9_octet_22 rfl rfl ?_
      obtain ⟨hb1, h⟩ := jck_some h
      refine x_iald (pc := 23) hC k_165 (by rw [l_165]; exact hb1) dX9_octet_23 ?_
      refine x_goto (tgt := 28) (pc := 24) hC dX9_octet_24 (by decide) ?_
      exact x_iret (pc := 28) hC hR dX9_octet_28 (jrR h) rfl

set_option maxHeartbeats 4000000 in
set_option maxRecDepth 20000 in
theorem ok_X9_count {X : jX} {n : Nat} (hn : 179 ≤ n) {l1 : Int} {M : jM} {rz : Int} (h : f_X9_count l1 M = some rz) : jCt X n yX9_count cX9_count 2 (some .int) 0 [jA 1, jI l1] M (some (jI rz)) M := by
  refine jCt_of (own := RX9) (ls := [jA 1, jI l1]) (by decide +kernel) rfl hn (Nat.le_of_ble_eq_true rfl) rfl ?_
  intro C hC hR
  unfold f_X9_count at h
  refine x_iload_n (pc := 0) hC dX9_count_0 rfl rfl ?_
  rcases jit_or h with ⟨hc, h⟩ | ⟨hc, h⟩
  · refine x_tableOut (tgt := 125) (pc := 1) hC dX9_count_1 hc (by decide) ?_
    refine x_iload_n (pc := 125) hC dX9_count_125 rfl rfl ?_
    refine x_iconst (pc := 126) hC dX9_count_126 ?_
    obtain ⟨k1, Hk1, h⟩ := jk_some (P := fun k1 => k1 = some rz → jG C X n 2 0 0 148 [jA 1, jI l1] [] M) h (by
      intro h
      refine x_iload_n (pc := 148) hC dX9_count_148 rfl rfl ?_
      refine x_bipush (pc := 149) hC dX9_count_149 rfl ?_
      refine x_icmp_lt (tgt := 187) (pc := 151) hC dX9_count_151 (by decide) (fun hc => ?_) (fun hc => ?_)
      · replace h := jit_pos hc h
        refine x_iconst (pc := 187) hC dX9_count_187 ?_
        exact x_iret (pc := 188) hC hR dX9_count_188 (jrR h) rfl
      · replace h := jit_neg hc h
        refine x_iload_n (pc := 154) hC dX9_count_154 rfl rfl ?_
        refine x_bipush (pc := 155) hC dX9_count_155 rfl ?_
        refine x_aloadA_n (pc := 157) hC dX9_count_157 rfl rfl k_1 (by decide) ?_
        obtain ⟨hk2, h⟩ := jck_some h
        refine x_gr (pc := 158) (ji := 3) hC fl_X9_23 rfl ft9_3 k_1 dX9_count_158 ?_
        refine x_gf (pc := 161) (b := ((M 1 3) + 13)) hC fl_X9_80 ft1_6 hk2 (by decide) (off := 13) (by decide +kernel) rfl dX9_count_161 ?_
        refine x_gi (pc := 164) (ji := 3) hC fl_X9_84 rfl fn2_3 (ko1_6 hk2) dX9_count_164 ?_
        refine x_iadd (pc := 167) hC dX9_count_167 ?_
        refine x_icmp_ge (tgt := 187) (pc := 168) hC dX9_count_168 (by decide) (fun hc => ?_) (fun hc => ?_)
        · replace h := jit_pos hc h
          refine x_iconst (pc := 187) hC dX9_count_187 ?_
          exact x_iret (pc := 188) hC hR dX9_count_188 (jrR h) rfl
        · replace h := jit_neg hc h
          refine x_aloadA_n (pc := 171) hC dX9_count_171 rfl rfl k_1 (by decide) ?_
          refine x_gr (pc := 172) (ji := 3) hC fl_X9_23 rfl ft9_3 k_1 dX9_count_172 ?_
          refine x_gf (pc := 175) (b := ((M 1 3) + 16)) hC fl_X9_117 ft1_7 hk2 (by decide) (off := 16) (by decide +kernel) rfl dX9_count_175 ?_
          refine x_iload_n (pc := 178) hC dX9_count_178 rfl rfl ?_
          refine x_bipush (pc := 179) hC dX9_count_179 rfl ?_
          refine x_isub (pc := 181) hC dX9_count_181 ?_
          obtain ⟨hb3, h⟩ := jck_some h
          refine x_aald14 (pc := 182) hC (ko1_7 hk2) hb3 rfl dX9_count_182 ?_
          refine x_gi (pc := 183) (ji := 0) hC fl_X9_351 rfl fn6_0 (jsk (ko1_7 hk2) hb3.1 hb3.2) dX9_count_183 ?_
          exact x_iret (pc := 186) hC hR dX9_count_186 (jrR h) rfl)
    refine x_icmp_lt (tgt := 148) (pc := 127) hC dX9_count_127 (by decide) (fun hc => ?_) (fun hc => ?_)
    · replace h := jit_pos hc h
      exact Hk1 h
    · replace h := jit_neg hc h
      refine x_iload_n (pc := 130) hC dX9_count_130 rfl rfl ?_
      refine x_bipush (pc := 131) hC dX9_count_131 rfl ?_
      refine x_icmp_ge (tgt := 148) (pc := 133) hC dX9_count_133 (by decide) (fun hc => ?_) (fun hc => ?_)
      · replace h := jit_pos hc h
        exact Hk1 h
      · replace h := jit_neg hc h
        refine x_aloadA_n (pc := 136) hC dX9_count_136 rfl rfl k_1 (by decide) ?_
        obtain ⟨hk4, h⟩ := jck_some h
        refine x_gr (pc := 137) (ji := 3) hC fl_X9_23 rfl ft9_3 k_1 dX9_count_137 ?_
        refine x_gf (pc := 140) (b := ((M 1 3) + 1)) hC fl_X9_251 ft1_1 hk4 (by decide) (off := 1) (by decide +kernel) rfl dX9_count_140 ?_
        refine x_iload_n (pc := 143) hC dX9_count_143 rfl rfl ?_
        refine x_iconst (pc := 144) hC dX9_count_144 ?_
        refine x_isub (pc := 145) hC dX9_count_145 ?_
        obtain ⟨hb5, h⟩ := jck_some h
        refine x_iald (pc := 146) hC (ko1_1 hk4) (by rw [lo1_1 hk4]; exact hb5) dX9_count_146 ?_
        exact x_iret (pc := 147) hC hR dX9_count_147 (jrR h) rfl
  · rcases jit_or h with ⟨hq, h⟩ | ⟨hr0, h⟩
    · refine x_tableIn (tgt := 68) (off := 67) (pc := 1) hC dX9_count_1 (by omega) (by omega) (by rw [hq]; rfl) (by decide) ?_
      refine x_aloadA_n (pc := 68) hC dX9_count_68 rfl rfl k_1 (by decide) ?_
      obtain ⟨hk6, h⟩ := jck_some h
      refine x_gr (pc := 69) (ji := 3) hC fl_X9_23 rfl ft9_3 k_1 dX9_count_69 ?_
      refine x_gf (pc := 72) (b := ((M 1 3) + 2)) hC fl_X9_99 ft1_2 hk6 (by decide) (off := 2) (by decide +kernel) rfl dX9_count_72 ?_
      refine x_gi (pc := 75) (ji := 3) hC fl_X9_84 rfl fn2_3 (ko1_2 hk6) dX9_count_75 ?_
      exact x_iret (pc := 78) hC hR dX9_count_78 (jrR h) rfl
    · rcases jit_or h with ⟨hq, h⟩ | ⟨hr1, h⟩
      · refine x_tableIn (tgt := 79) (off := 78) (pc := 1) hC dX9_count_1 (by omega) (by omega) (by rw [hq]; rfl) (by decide) ?_
        refine x_aloadA_n (pc := 79) hC dX9_count_79 rfl rfl k_1 (by decide) ?_
        obtain ⟨hk7, h⟩ := jck_some h
        refine x_gr (pc := 80) (ji := 3) hC fl_X9_23 rfl ft9_3 k_1 dX9_count_80 ?_
        refine x_gf (pc := 83) (b := ((M 1 3) + 13)) hC fl_X9_80 ft1_6 hk7 (by decide) (off := 13) (by decide +kernel) rfl dX9_count_83 ?_
        refine x_gi (pc := 86) (ji := 3) hC fl_X9_84 rfl fn2_3 (ko1_6 hk7) dX9_count_86 ?_
        exact x_iret (pc := 89) hC hR dX9_count_89 (jrR h) rfl
      · rcases jit_or h with ⟨hq, h⟩ | ⟨hr2, h⟩
        · refine x_tableIn (tgt := 90) (off := 89) (pc := 1) hC dX9_count_1 (by omega) (by omega) (by rw [hq]; rfl) (by decide) ?_
          refine x_aloadA_n (pc := 90) hC dX9_count_90 rfl rfl k_1 (by decide) ?_
          obtain ⟨hk8, h⟩ := jck_some h
          refine x_gr (pc := 91) (ji := 3) hC fl_X9_23 rfl ft9_3 k_1 dX9_count_91 ?_
          refine x_gi (pc := 94) (ji := 0) hC fl_X9_295 rfl fn1_0 hk8 dX9_count_94 ?_
          exact x_iret (pc := 97) hC hR dX9_count_97 (jrR h) rfl
        · rcases jit_or h with ⟨hq, h⟩ | ⟨hr3, h⟩
          · refine x_tableIn (tgt := 125) (off := 124) (pc := 1) hC dX9_count_1 (by omega) (by omega) (by rw [hq]; rfl) (by decide) ?_
            refine x_iload_n (pc := 125) hC dX9_count_125 rfl rfl ?_
            refine x_iconst (pc := 126) hC dX9_count_126 ?_
            obtain ⟨k9, Hk9, h⟩ := jk_some (P := fun k9 => k9 = some rz → jG C X n 2 0 0 148 [jA 1, jI l1] [] M) h (by
              intro h
              refine x_iload_n (pc := 148) hC dX9_count_148 rfl rfl ?_
              refine x_bipush (pc := 149) hC dX9_count_149 rfl ?_
              refine x_icmp_lt (tgt := 187) (pc := 151) hC dX9_count_151 (by decide) (fun hc => ?_) (fun hc => ?_)
              · replace h := jit_pos hc h
                refine x_iconst (pc := 187) hC dX9_count_187 ?_
                exact x_iret (pc := 188) hC hR dX9_count_188 (jrR h) rfl
              · replace h := jit_neg hc h
                refine x_iload_n (pc := 154) hC dX9_count_154 rfl rfl ?_
                refine x_bipush (pc := 155) hC dX9_count_155 rfl ?_
                refine x_aloadA_n (pc := 157) hC dX9_count_157 rfl rfl k_1 (by decide) ?_
                obtain ⟨hk10, h⟩ := jck_some h
                refine x_gr (pc := 158) (ji := 3) hC fl_X9_23 rfl ft9_3 k_1 dX9_count_158 ?_
                refine x_gf (pc := 161) (b := ((M 1 3) + 13)) hC fl_X9_80 ft1_6 hk10 (by decide) (off := 13) (by decide +kernel) rfl dX9_count_161 ?_
                refine x_gi (pc := 164) (ji := 3) hC fl_X9_84 rfl fn2_3 (ko1_6 hk10) dX9_count_164 ?_
                refine x_iadd (pc := 167) hC dX9_count_167 ?_
                refine x_icmp_ge (tgt := 187) (pc := 168) hC dX9_count_168 (by decide) (fun hc => ?_) (fun hc => ?_)
                · replace h := jit_pos hc h
                  refine x_iconst (pc := 187) hC dX9_count_187 ?_
                  exact x_iret (pc := 188) hC hR dX9_count_188 (jrR h) rfl
                · replace h := jit_neg hc h
                  refine x_aloadA_n (pc := 171) hC dX9_count_171 rfl rfl k_1 (by decide) ?_
                  refine x_gr (pc := 172) (ji := 3) hC fl_X9_23 rfl ft9_3 k_1 dX9_count_172 ?_
                  refine x_gf (pc := 175) (b := ((M 1 3) + 16)) hC fl_X9_117 ft1_7 hk10 (by decide) (off := 16) (by decide +kernel) rfl dX9_count_175 ?_
                  refine x_iload_n (pc := 178) hC dX9_count_178 rfl rfl ?_
                  refine x_bipush (pc := 179) hC dX9_count_179 rfl ?_
                  refine x_isub (pc := 181) hC dX9_count_181 ?_
                  obtain ⟨hb11, h⟩ := jck_some h
                  refine x_aald14 (pc := 182) hC (ko1_7 hk10) hb11 rfl dX9_count_182 ?_
                  refine x_gi (pc := 183) (ji := 0) hC fl_X9_351 rfl fn6_0 (jsk (ko1_7 hk10) hb11.1 hb11.2) dX9_count_183 ?_
                  exact x_iret (pc := 186) hC hR dX9_count_186 (jrR h) rfl)
            refine x_icmp_lt (tgt := 148) (pc := 127) hC dX9_count_127 (by decide) (fun hc => ?_) (fun hc => ?_)
            · replace h := jit_pos hc h
              exact Hk9 h
            · replace h := jit_neg hc h
              refine x_iload_n (pc := 130) hC dX9_count_130 rfl rfl ?_
              refine x_bipush (pc := 131) hC dX9_count_131 rfl ?_
              refine x_icmp_ge (tgt := 148) (pc := 133) hC dX9_count_133 (by decide) (fun hc => ?_) (fun hc => ?_)
              · replace h := jit_pos hc h
                exact Hk9 h
              · replace h := jit_neg hc h
                refine x_aloadA_n (pc := 136) hC dX9_count_136 rfl rfl k_1 (by decide) ?_
                obtain ⟨hk12, h⟩ := jck_some h
                refine x_gr (pc := 137) (ji := 3) hC fl_X9_23 rfl ft9_3 k_1 dX9_count_137 ?_
                refine x_gf (pc := 140) (b := ((M 1 3) + 1)) hC fl_X9_251 ft1_1 hk12 (by decide) (off := 1) (by decide +kernel) rfl dX9_count_140 ?_
                refine x_iload_n (pc := 143) hC dX9_count_143 rfl rfl ?_
                refine x_iconst (pc := 144) hC dX9_count_144 ?_
                refine x_isub (pc := 145) hC dX9_count_145 ?_
                obtain ⟨hb13, h⟩ := jck_some h
                refine x_iald (pc := 146) hC (ko1_1 hk12) (by rw [lo1_1 hk12]; exact hb13) dX9_count_146 ?_
                exact x_iret (pc := 147) hC hR dX9_count_147 (jrR h) rfl
          · rcases jit_or h with ⟨hq, h⟩ | ⟨hr4, h⟩
            · refine x_tableIn (tgt := 125) (off := 124) (pc := 1) hC dX9_count_1 (by omega) (by omega) (by rw [hq]; rfl) (by decide) ?_
              refine x_iload_n (pc := 125) hC dX9_count_125 rfl rfl ?_
              refine x_iconst (pc := 126) hC dX9_count_126 ?_
              obtain ⟨k14, Hk14, h⟩ := jk_some (P := fun k14 => k14 = some rz → jG C X n 2 0 0 148 [jA 1, jI l1] [] M) h (by
                intro h
                refine x_iload_n (pc := 148) hC dX9_count_148 rfl rfl ?_
                refine x_bipush (pc := 149) hC dX9_count_149 rfl ?_
                refine x_icmp_lt (tgt := 187) (pc := 151) hC dX9_count_151 (by decide) (fun hc => ?_) (fun hc => ?_)
                · replace h := jit_pos hc h
                  refine x_iconst (pc := 187) hC dX9_count_187 ?_
                  exact x_iret (pc := 188) hC hR dX9_count_188 (jrR h) rfl
                · replace h := jit_neg hc h
                  refine x_iload_n (pc := 154) hC dX9_count_154 rfl rfl ?_
                  refine x_bipush (pc := 155) hC dX9_count_155 rfl ?_
                  refine x_aloadA_n (pc := 157) hC dX9_count_157 rfl rfl k_1 (by decide) ?_
                  obtain ⟨hk15, h⟩ := jck_some h
                  refine x_gr (pc := 158) (ji := 3) hC fl_X9_23 rfl ft9_3 k_1 dX9_count_158 ?_
                  refine x_gf (pc := 161) (b := ((M 1 3) + 13)) hC fl_X9_80 ft1_6 hk15 (by decide) (off := 13) (by decide +kernel) rfl dX9_count_161 ?_
                  refine x_gi (pc := 164) (ji := 3) hC fl_X9_84 rfl fn2_3 (ko1_6 hk15) dX9_count_164 ?_
                  refine x_iadd (pc := 167) hC dX9_count_167 ?_
                  refine x_icmp_ge (tgt := 187) (pc := 168) hC dX9_count_168 (by decide) (fun hc => ?_) (fun hc => ?_)
                  · replace h := jit_pos hc h
                    refine x_iconst (pc := 187) hC dX9_count_187 ?_
                    exact x_iret (pc := 188) hC hR dX9_count_188 (jrR h) rfl
                  · replace h := jit_neg hc h
                    refine x_aloadA_n (pc := 171) hC dX9_count_171 rfl rfl k_1 (by decide) ?_
                    refine x_gr (pc := 172) (ji := 3) hC fl_X9_23 rfl ft9_3 k_1 dX9_count_172 ?_
                    refine x_gf (pc := 175) (b := ((M 1 3) + 16)) hC fl_X9_117 ft1_7 hk15 (by decide) (off := 16) (by decide +kernel) rfl dX9_count_175 ?_
                    refine x_iload_n (pc := 178) hC dX9_count_178 rfl rfl ?_
                    refine x_bipush (pc := 179) hC dX9_count_179 rfl ?_
                    refine x_isub (pc := 181) hC dX9_count_181 ?_
                    obtain ⟨hb16, h⟩ := jck_some h
                    refine x_aald14 (pc := 182) hC (ko1_7 hk15) hb16 rfl dX9_count_182 ?_
                    refine x_gi (pc := 183) (ji := 0) hC fl_X9_351 rfl fn6_0 (jsk (ko1_7 hk15) hb16.1 hb16.2) dX9_count_183 ?_
                    exact x_iret (pc := 186) hC hR dX9_count_186 (jrR h) rfl)
              refine x_icmp_lt (tgt := 148) (pc := 127) hC dX9_count_127 (by decide) (fun hc => ?_) (fun hc => ?_)
              · replace h := jit_pos hc h
                exact Hk14 h
              · replace h := jit_neg hc h
                refine x_iload_n (pc := 130) hC dX9_count_130 rfl rfl ?_
                refine x_bipush (pc := 131) hC dX9_count_131 rfl ?_
                refine x_icmp_ge (tgt := 148) (pc := 133) hC dX9_count_133 (by decide) (fun hc => ?_) (fun hc => ?_)
                · replace h := jit_pos hc h
                  exact Hk14 h
                · replace h := jit_neg hc h
                  refine x_aloadA_n (pc := 136) hC dX9_count_136 rfl rfl k_1 (by decide) ?_
                  obtain ⟨hk17, h⟩ := jck_some h
                  refine x_gr (pc := 137) (ji := 3) hC fl_X9_23 rfl ft9_3 k_1 dX9_count_137 ?_
                  refine x_gf (pc := 140) (b := ((M 1 3) + 1)) hC fl_X9_251 ft1_1 hk17 (by decide) (off := 1) (by decide +kernel) rfl dX9_count_140 ?_
                  refine x_iload_n (pc := 143) hC dX9_count_143 rfl rfl ?_
                  refine x_iconst (pc := 144) hC dX9_count_144 ?_
                  refine x_isub (pc := 145) hC dX9_count_145 ?_
                  obtain ⟨hb18, h⟩ := jck_some h
                  refine x_iald (pc := 146) hC (ko1_1 hk17) (by rw [lo1_1 hk17]; exact hb18) dX9_count_146 ?_
                  exact x_iret (pc := 147) hC hR dX9_count_147 (jrR h) rfl
            · rcases jit_or h with ⟨hq, h⟩ | ⟨hr5, h⟩
              · refine x_tableIn (tgt := 125) (off := 124) (pc := 1) hC dX9_count_1 (by omega) (by omega) (by rw [hq]; rfl) (by decide) ?_
                refine x_iload_n (pc := 125) hC dX9_count_125 rfl rfl ?_
                refine x_iconst (pc := 126) hC dX9_count_126 ?_
                obtain ⟨k19, Hk19, h⟩ := jk_some (P := fun k19 => k19 = some rz → jG C X n 2 0 0 148 [jA 1, jI l1] [] M) h (by
                  intro h
                  refine x_iload_n (pc := 148) hC dX9_count_148 rfl rfl ?_
                  refine x_bipush (pc := 149) hC dX9_count_149 rfl ?_
                  refine x_icmp_lt (tgt := 187) (pc := 151) hC dX9_count_151 (by decide) (fun hc => ?_) (fun hc => ?_)
                  · replace h := jit_pos hc h
                    refine x_iconst (pc := 187) hC dX9_count_187 ?_
                    exact x_iret (pc := 188) hC hR dX9_count_188 (jrR h) rfl
                  · replace h := jit_neg hc h
                    refine x_iload_n (pc := 154) hC dX9_count_154 rfl rfl ?_
                    refine x_bipush (pc := 155) hC dX9_count_155 rfl ?_
                    refine x_aloadA_n (pc := 157) hC dX9_count_157 rfl rfl k_1 (by decide) ?_
                    obtain ⟨hk20, h⟩ := jck_some h
                    refine x_gr (pc := 158) (ji := 3) hC fl_X9_23 rfl ft9_3 k_1 dX9_count_158 ?_
                    refine x_gf (pc := 161) (b := ((M 1 3) + 13)) hC fl_X9_80 ft1_6 hk20 (by decide) (off := 13) (by decide +kernel) rfl dX9_count_161 ?_
                    refine x_gi (pc := 164) (ji := 3) hC fl_X9_84 rfl fn2_3 (ko1_6 hk20) dX9_count_164 ?_
                    refine x_iadd (pc := 167) hC dX9_count_167 ?_
                    refine x_icmp_ge (tgt := 187) (pc := 168) hC dX9_count_168 (by decide) (fun hc => ?_) (fun hc => ?_)
                    · replace h := jit_pos hc h
                      refine x_iconst (pc := 187) hC dX9_count_187 ?_
                      exact x_iret (pc := 188) hC hR dX9_count_188 (jrR h) rfl
                    · replace h := jit_neg hc h
                      refine x_aloadA_n (pc := 171) hC dX9_count_171 rfl rfl k_1 (by decide) ?_
                      refine x_gr (pc := 172) (ji := 3) hC fl_X9_23 rfl ft9_3 k_1 dX9_count_172 ?_
                      refine x_gf (pc := 175) (b := ((M 1 3) + 16)) hC fl_X9_117 ft1_7 hk20 (by decide) (off := 16) (by decide +kernel) rfl dX9_count_175 ?_
                      refine x_iload_n (pc := 178) hC dX9_count_178 rfl rfl ?_
                      refine x_bipush (pc := 179) hC dX9_count_179 rfl ?_
                      refine x_isub (pc := 181) hC dX9_count_181 ?_
                      obtain ⟨hb21, h⟩ := jck_some h
                      refine x_aald14 (pc := 182) hC (ko1_7 hk20) hb21 rfl dX9_count_182 ?_
                      refine x_gi (pc := 183) (ji := 0) hC fl_X9_351 rfl fn6_0 (jsk (ko1_7 hk20) hb21.1 hb21.2) dX9_count_183 ?_
                      exact x_iret (pc := 186) hC hR dX9_count_186 (jrR h) rfl)
                refine x_icmp_lt (tgt := 148) (pc := 127) hC dX9_count_127 (by decide) (fun hc => ?_) (fun hc => ?_)
                · replace h := jit_pos hc h
                  exact Hk19 h
                · replace h := jit_neg hc h
                  refine x_iload_n (pc := 130) hC dX9_count_130 rfl rfl ?_
                  refine x_bipush (pc := 131) hC dX9_count_131 rfl ?_
                  refine x_icmp_ge (tgt := 148) (pc := 133) hC dX9_count_133 (by decide) (fun hc => ?_) (fun hc => ?_)
                  · replace h := jit_pos hc h
                    exact Hk19 h
                  · replace h := jit_neg hc h
                    refine x_aloadA_n (pc := 136) hC dX9_count_136 rfl rfl k_1 (by decide) ?_
                    obtain ⟨hk22, h⟩ := jck_some h
                    refine x_gr (pc := 137) (ji := 3) hC fl_X9_23 rfl ft9_3 k_1 dX9_count_137 ?_
                    refine x_gf (pc := 140) (b := ((M 1 3) + 1)) hC fl_X9_251 ft1_1 hk22 (by decide) (off := 1) (by decide +kernel) rfl dX9_count_140 ?_
                    refine x_iload_n (pc := 143) hC dX9_count_143 rfl rfl ?_
                    refine x_iconst (pc := 144) hC dX9_count_144 ?_
                    refine x_isub (pc := 145) hC dX9_count_145 ?_
                    obtain ⟨hb23, h⟩ := jck_some h
                    refine x_iald (pc := 146) hC (ko1_1 hk22) (by rw [lo1_1 hk22]; exact hb23) dX9_count_146 ?_
                    exact x_iret (pc := 147) hC hR dX9_count_147 (jrR h) rfl
              · rcases jit_or h with ⟨hq, h⟩ | ⟨hr6, h⟩
                · refine x_tableIn (tgt := 125) (off := 124) (pc := 1) hC dX9_count_1 (by omega) (by omega) (by rw [hq]; rfl) (by decide) ?_
                  refine x_iload_n (pc := 125) hC dX9_count_125 rfl rfl ?_
                  refine x_iconst (pc := 126) hC dX9_count_126 ?_
                  obtain ⟨k24, Hk24, h⟩ := jk_some (P := fun k24 => k24 = some rz → jG C X n 2 0 0 148 [jA 1, jI l1] [] M) h (by
                    intro h
                    refine x_iload_n (pc := 148) hC dX9_count_148 rfl rfl ?_
                    refine x_bipush (pc := 149) hC dX9_count_149 rfl ?_
                    refine x_icmp_lt (tgt := 187) (pc := 151) hC dX9_count_151 (by decide) (fun hc => ?_) (fun hc => ?_)
                    · replace h := jit_pos hc h
                      refine x_iconst (pc := 187) hC dX9_count_187 ?_
                      exact x_iret (pc := 188) hC hR dX9_count_188 (jrR h) rfl
                    · replace h := jit_neg hc h
                      refine x_iload_n (pc := 154) hC dX9_count_154 rfl rfl ?_
                      refine x_bipush (pc := 155) hC dX9_count_155 rfl ?_
                      refine x_aloadA_n (pc := 157) hC dX9_count_157 rfl rfl k_1 (by decide) ?_
                      obtain ⟨hk25, h⟩ := jck_some h
                      refine x_gr (pc := 158) (ji := 3) hC fl_X9_23 rfl ft9_3 k_1 dX9_count_158 ?_
                      refine x_gf (pc := 161) (b := ((M 1 3) + 13)) hC fl_X9_80 ft1_6 hk25 (by decide) (off := 13) (by decide +kernel) rfl dX9_count_161 ?_
                      refine x_gi (pc := 164) (ji := 3) hC fl_X9_84 rfl fn2_3 (ko1_6 hk25) dX9_count_164 ?_
                      refine x_iadd (pc := 167) hC dX9_count_167 ?_
                      refine x_icmp_ge (tgt := 187) (pc := 168) hC dX9_count_168 (by decide) (fun hc => ?_) (fun hc => ?_)
                      · replace h := jit_pos hc h
                        refine x_iconst (pc := 187) hC dX9_count_187 ?_
                        exact x_iret (pc := 188) hC hR dX9_count_188 (jrR h) rfl
                      · replace h := jit_neg hc h
                        refine x_aloadA_n (pc := 171) hC dX9_count_171 rfl rfl k_1 (by decide) ?_
                        refine x_gr (pc := 172) (ji := 3) hC fl_X9_23 rfl ft9_3 k_1 dX9_count_172 ?_
                        refine x_gf (pc := 175) (b := ((M 1 3) + 16)) hC fl_X9_117 ft1_7 hk25 (by decide) (off := 16) (by decide +kernel) rfl dX9_count_175 ?_
                        refine x_iload_n (pc := 178) hC dX9_count_178 rfl rfl ?_
                        refine x_bipush (pc := 179) hC dX9_count_179 rfl ?_
                        refine x_isub (pc := 181) hC dX9_count_181 ?_
                        obtain ⟨hb26, h⟩ := jck_some h
                        refine x_aald14 (pc := 182) hC (ko1_7 hk25) hb26 rfl dX9_count_182 ?_
                        refine x_gi (pc := 183) (ji := 0) hC fl_X9_351 rfl fn6_0 (jsk (ko1_7 hk25) hb26.1 hb26.2) dX9_count_183 ?_
                        exact x_iret (pc := 186) hC hR dX9_count_186 (jrR h) rfl)
                  refine x_icmp_lt (tgt := 148) (pc := 127) hC dX9_count_127 (by decide) (fun hc => ?_) (fun hc => ?_)
                  · replace h := jit_pos hc h
                    exact Hk24 h
                  · replace h := jit_neg hc h
                    refine x_iload_n (pc := 130) hC dX9_count_130 rfl rfl ?_
                    refine x_bipush (pc := 131) hC dX9_count_131 rfl ?_
                    refine x_icmp_ge (tgt := 148) (pc := 133) hC dX9_count_133 (by decide) (fun hc => ?_) (fun hc => ?_)
                    · replace h := jit_pos hc h
                      exact Hk24 h
                    · replace h := jit_neg hc h
                      refine x_aloadA_n (pc := 136) hC dX9_count_136 rfl rfl k_1 (by decide) ?_
                      obtain ⟨hk27, h⟩ := jck_some h
                      refine x_gr (pc := 137) (ji := 3) hC fl_X9_23 rfl ft9_3 k_1 dX9_count_137 ?_
                      refine x_gf (pc := 140) (b := ((M 1 3) + 1)) hC fl_X9_251 ft1_1 hk27 (by decide) (off := 1) (by decide +kernel) rfl dX9_count_140 ?_
                      refine x_iload_n (pc := 143) hC dX9_count_143 rfl rfl ?_
                      refine x_iconst (pc := 144) hC dX9_count_144 ?_
                      refine x_isub (pc := 145) hC dX9_count_145 ?_
                      obtain ⟨hb28, h⟩ := jck_some h
                      refine x_iald (pc := 146) hC (ko1_1 hk27) (by rw [lo1_1 hk27]; exact hb28) dX9_count_146 ?_
                      exact x_iret (pc := 147) hC hR dX9_count_147 (jrR h) rfl
                · rcases jit_or h with ⟨hq, h⟩ | ⟨hr7, h⟩
                  · refine x_tableIn (tgt := 125) (off := 124) (pc := 1) hC dX9_count_1 (by omega) (by omega) (by rw [hq]; rfl) (by decide) ?_
                    refine x_iload_n (pc := 125) hC dX9_count_125 rfl rfl ?_
                    refine x_iconst (pc := 126) hC dX9_count_126 ?_
                    obtain ⟨k29, Hk29, h⟩ := jk_some (P := fun k29 => k29 = some rz → jG C X n 2 0 0 148 [jA 1, jI l1] [] M) h (by
                      intro h
                      refine x_iload_n (pc := 148) hC dX9_count_148 rfl rfl ?_
                      refine x_bipush (pc := 149) hC dX9_count_149 rfl ?_
                      refine x_icmp_lt (tgt := 187) (pc := 151) hC dX9_count_151 (by decide) (fun hc => ?_) (fun hc => ?_)
                      · replace h := jit_pos hc h
                        refine x_iconst (pc := 187) hC dX9_count_187 ?_
                        exact x_iret (pc := 188) hC hR dX9_count_188 (jrR h) rfl
                      · replace h := jit_neg hc h
                        refine x_iload_n (pc := 154) hC dX9_count_154 rfl rfl ?_
                        refine x_bipush (pc := 155) hC dX9_count_155 rfl ?_
                        refine x_aloadA_n (pc := 157) hC dX9_count_157 rfl rfl k_1 (by decide) ?_
                        obtain ⟨hk30, h⟩ := jck_some h
                        refine x_gr (pc := 158) (ji := 3) hC fl_X9_23 rfl ft9_3 k_1 dX9_count_158 ?_
                        refine x_gf (pc := 161) (b := ((M 1 3) + 13)) hC fl_X9_80 ft1_6 hk30 (by decide) (off := 13) (by decide +kernel) rfl dX9_count_161 ?_
                        refine x_gi (pc := 164) (ji := 3) hC fl_X9_84 rfl fn2_3 (ko1_6 hk30) dX9_count_164 ?_
                        refine x_iadd (pc := 167) hC dX9_count_167 ?_
                        refine x_icmp_ge (tgt := 187) (pc := 168) hC dX9_count_168 (by decide) (fun hc => ?_) (fun hc => ?_)
                        · replace h := jit_pos hc h
                          refine x_iconst (pc := 187) hC dX9_count_187 ?_
                          exact x_iret (pc := 188) hC hR dX9_count_188 (jrR h) rfl
                        · replace h := jit_neg hc h
                          refine x_aloadA_n (pc := 171) hC dX9_count_171 rfl rfl k_1 (by decide) ?_
                          refine x_gr (pc := 172) (ji := 3) hC fl_X9_23 rfl ft9_3 k_1 dX9_count_172 ?_
                          refine x_gf (pc := 175) (b := ((M 1 3) + 16)) hC fl_X9_117 ft1_7 hk30 (by decide) (off := 16) (by decide +kernel) rfl dX9_count_175 ?_
                          refine x_iload_n (pc := 178) hC dX9_count_178 rfl rfl ?_
                          refine x_bipush (pc := 179) hC dX9_count_179 rfl ?_
                          refine x_isub (pc := 181) hC dX9_count_181 ?_
                          obtain ⟨hb31, h⟩ := jck_some h
                          refine x_aald14 (pc := 182) hC (ko1_7 hk30) hb31 rfl dX9_count_182 ?_
                          refine x_gi (pc := 183) (ji := 0) hC fl_X9_351 rfl fn6_0 (jsk (ko1_7 hk30) hb31.1 hb31.2) dX9_count_183 ?_
                          exact x_iret (pc := 186) hC hR dX9_count_186 (jrR h) rfl)
                    refine x_icmp_lt (tgt := 148) (pc := 127) hC dX9_count_127 (by decide) (fun hc => ?_) (fun hc => ?_)
                    · replace h := jit_pos hc h
                      exact Hk29 h
                    · replace h := jit_neg hc h
                      refine x_iload_n (pc := 130) hC dX9_count_130 rfl rfl ?_
                      refine x_bipush (pc := 131) hC dX9_count_131 rfl ?_
                      refine x_icmp_ge (tgt := 148) (pc := 133) hC dX9_count_133 (by decide) (fun hc => ?_) (fun hc => ?_)
                      · replace h := jit_pos hc h
                        exact Hk29 h
                      · replace h := jit_neg hc h
                        refine x_aloadA_n (pc := 136) hC dX9_count_136 rfl rfl k_1 (by decide) ?_
                        obtain ⟨hk32, h⟩ := jck_some h
                        refine x_gr (pc := 137) (ji := 3) hC fl_X9_23 rfl ft9_3 k_1 dX9_count_137 ?_
                        refine x_gf (pc := 140) (b := ((M 1 3) + 1)) hC fl_X9_251 ft1_1 hk32 (by decide) (off := 1) (by decide +kernel) rfl dX9_count_140 ?_
                        refine x_iload_n (pc := 143) hC dX9_count_143 rfl rfl ?_
                        refine x_iconst (pc := 144) hC dX9_count_144 ?_
                        refine x_isub (pc := 145) hC dX9_count_145 ?_
                        obtain ⟨hb33, h⟩ := jck_some h
                        refine x_iald (pc := 146) hC (ko1_1 hk32) (by rw [lo1_1 hk32]; exact hb33) dX9_count_146 ?_
                        exact x_iret (pc := 147) hC hR dX9_count_147 (jrR h) rfl
                  · rcases jit_or h with ⟨hq, h⟩ | ⟨hr8, h⟩
                    · refine x_tableIn (tgt := 125) (off := 124) (pc := 1) hC dX9_count_1 (by omega) (by omega) (by rw [hq]; rfl) (by decide) ?_
                      refine x_iload_n (pc := 125) hC dX9_count_125 rfl rfl ?_
                      refine x_iconst (pc := 126) hC dX9_count_126 ?_
                      obtain ⟨k34, Hk34, h⟩ := jk_some (P := fun k34 => k34 = some rz → jG C X n 2 0 0 148 [jA 1, jI l1] [] M) h (by
                        intro h
                        refine x_iload_n (pc := 148) hC dX9_count_148 rfl rfl ?_
                        refine x_bipush (pc := 149) hC dX9_count_149 rfl ?_
                        refine x_icmp_lt (tgt := 187) (pc := 151) hC dX9_count_151 (by decide) (fun hc => ?_) (fun hc => ?_)
                        · replace h := jit_pos hc h
                          refine x_iconst (pc := 187) hC dX9_count_187 ?_
                          exact x_iret (pc := 188) hC hR dX9_count_188 (jrR h) rfl
                        · replace h := jit_neg hc h
                          refine x_iload_n (pc := 154) hC dX9_count_154 rfl rfl ?_
                          refine x_bipush (pc := 155) hC dX9_count_155 rfl ?_
                          refine x_aloadA_n (pc := 157) hC dX9_count_157 rfl rfl k_1 (by decide) ?_
                          obtain ⟨hk35, h⟩ := jck_some h
                          refine x_gr (pc := 158) (ji := 3) hC fl_X9_23 rfl ft9_3 k_1 dX9_count_158 ?_
                          refine x_gf (pc := 161) (b := ((M 1 3) + 13)) hC fl_X9_80 ft1_6 hk35 (by decide) (off := 13) (by decide +kernel) rfl dX9_count_161 ?_
                          refine x_gi (pc := 164) (ji := 3) hC fl_X9_84 rfl fn2_3 (ko1_6 hk35) dX9_count_164 ?_
                          refine x_iadd (pc := 167) hC dX9_count_167 ?_
                          refine x_icmp_ge (tgt := 187) (pc := 168) hC dX9_count_168 (by decide) (fun hc => ?_) (fun hc => ?_)
                          · replace h := jit_pos hc h
                            refine x_iconst (pc := 187) hC dX9_count_187 ?_
                            exact x_iret (pc := 188) hC hR dX9_count_188 (jrR h) rfl
                          · replace h := jit_neg hc h
                            refine x_aloadA_n (pc := 171) hC dX9_count_171 rfl rfl k_1 (by decide) ?_
                            refine x_gr (pc := 172) (ji := 3) hC fl_X9_23 rfl ft9_3 k_1 dX9_count_172 ?_
                            refine x_gf (pc := 175) (b := ((M 1 3) + 16)) hC fl_X9_117 ft1_7 hk35 (by decide) (off := 16) (by decide +kernel) rfl dX9_count_175 ?_
                            refine x_iload_n (pc := 178) hC dX9_count_178 rfl rfl ?_
                            refine x_bipush (pc := 179) hC dX9_count_179 rfl ?_
                            refine x_isub (pc := 181) hC dX9_count_181 ?_
                            obtain ⟨hb36, h⟩ := jck_some h
                            refine x_aald14 (pc := 182) hC (ko1_7 hk35) hb36 rfl dX9_count_182 ?_
                            refine x_gi (pc := 183) (ji := 0) hC fl_X9_351 rfl fn6_0 (jsk (ko1_7 hk35) hb36.1 hb36.2) dX9_count_183 ?_
                            exact x_iret (pc := 186) hC hR dX9_count_186 (jrR h) rfl)
                      refine x_icmp_lt (tgt := 148) (pc := 127) hC dX9_count_127 (by decide) (fun hc => ?_) (fun hc => ?_)
                      · replace h := jit_pos hc h
                        exact Hk34 h
                      · replace h := jit_neg hc h
                        refine x_iload_n (pc := 130) hC dX9_count_130 rfl rfl ?_
                        refine x_bipush (pc := 131) hC dX9_count_131 rfl ?_
                        refine x_icmp_ge (tgt := 148) (pc := 133) hC dX9_count_133 (by decide) (fun hc => ?_) (fun hc => ?_)
                        · replace h := jit_pos hc h
                          exact Hk34 h
                        · replace h := jit_neg hc h
                          refine x_aloadA_n (pc := 136) hC dX9_count_136 rfl rfl k_1 (by decide) ?_
                          obtain ⟨hk37, h⟩ := jck_some h
                          refine x_gr (pc := 137) (ji := 3) hC fl_X9_23 rfl ft9_3 k_1 dX9_count_137 ?_
                          refine x_gf (pc := 140) (b := ((M 1 3) + 1)) hC fl_X9_251 ft1_1 hk37 (by decide) (off := 1) (by decide +kernel) rfl dX9_count_140 ?_
                          refine x_iload_n (pc := 143) hC dX9_count_143 rfl rfl ?_
                          refine x_iconst (pc := 144) hC dX9_count_144 ?_
                          refine x_isub (pc := 145) hC dX9_count_145 ?_
                          obtain ⟨hb38, h⟩ := jck_some h
                          refine x_iald (pc := 146) hC (ko1_1 hk37) (by rw [lo1_1 hk37]; exact hb38) dX9_count_146 ?_
                          exact x_iret (pc := 147) hC hR dX9_count_147 (jrR h) rfl
                    · rcases jit_or h with ⟨hq, h⟩ | ⟨hr9, h⟩
                      · refine x_tableIn (tgt := 125) (off := 124) (pc := 1) hC dX9_count_1 (by omega) (by omega) (by rw [hq]; rfl) (by decide) ?_
                        refine x_iload_n (pc := 125) hC dX9_count_125 rfl rfl ?_
                        refine x_iconst (pc := 126) hC dX9_count_126 ?_
                        obtain ⟨k39, Hk39, h⟩ := jk_some (P := fun k39 => k39 = some rz → jG C X n 2 0 0 148 [jA 1, jI l1] [] M) h (by
                          intro h
                          refine x_iload_n (pc := 148) hC dX9_count_148 rfl rfl ?_
                          refine x_bipush (pc := 149) hC dX9_count_149 rfl ?_
                          refine x_icmp_lt (tgt := 187) (pc := 151) hC dX9_count_151 (by decide) (fun hc => ?_) (fun hc => ?_)
                          · replace h := jit_pos hc h
                            refine x_iconst (pc := 187) hC dX9_count_187 ?_
                            exact x_iret (pc := 188) hC hR dX9_count_188 (jrR h) rfl
                          · replace h := jit_neg hc h
                            refine x_iload_n (pc := 154) hC dX9_count_154 rfl rfl ?_
                            refine x_bipush (pc := 155) hC dX9_count_155 rfl ?_
                            refine x_aloadA_n (pc := 157) hC dX9_count_157 rfl rfl k_1 (by decide) ?_
                            obtain ⟨hk40, h⟩ := jck_some h
                            refine x_gr (pc := 158) (ji := 3) hC fl_X9_23 rfl ft9_3 k_1 dX9_count_158 ?_
                            refine x_gf (pc := 161) (b := ((M 1 3) + 13)) hC fl_X9_80 ft1_6 hk40 (by decide) (off := 13) (by decide +kernel) rfl dX9_count_161 ?_
                            refine x_gi (pc := 164) (ji := 3) hC fl_X9_84 rfl fn2_3 (ko1_6 hk40) dX9_count_164 ?_
                            refine x_iadd (pc := 167) hC dX9_count_167 ?_
                            refine x_icmp_ge (tgt := 187) (pc := 168) hC dX9_count_168 (by decide) (fun hc => ?_) (fun hc => ?_)
                            · replace h := jit_pos hc h
                              refine x_iconst (pc := 187) hC dX9_count_187 ?_
                              exact x_iret (pc := 188) hC hR dX9_count_188 (jrR h) rfl
                            · replace h := jit_neg hc h
                              refine x_aloadA_n (pc := 171) hC dX9_count_171 rfl rfl k_1 (by decide) ?_
                              refine x_gr (pc := 172) (ji := 3) hC fl_X9_23 rfl ft9_3 k_1 dX9_count_172 ?_
                              refine x_gf (pc := 175) (b := ((M 1 3) + 16)) hC fl_X9_117 ft1_7 hk40 (by decide) (off := 16) (by decide +kernel) rfl dX9_count_175 ?_
                              refine x_iload_n (pc := 178) hC dX9_count_178 rfl rfl ?_
                              refine x_bipush (pc := 179) hC dX9_count_179 rfl ?_
                              refine x_isub (pc := 181) hC dX9_count_181 ?_
                              obtain ⟨hb41, h⟩ := jck_some h
                              refine x_aald14 (pc := 182) hC (ko1_7 hk40) hb41 rfl dX9_count_182 ?_
                              refine x_gi (pc := 183) (ji := 0) hC fl_X9_351 rfl fn6_0 (jsk (ko1_7 hk40) hb41.1 hb41.2) dX9_count_183 ?_
                              exact x_iret (pc := 186) hC hR dX9_count_186 (jrR h) rfl)
                        refine x_icmp_lt (tgt := 148) (pc := 127) hC dX9_count_127 (by decide) (fun hc => ?_) (fun hc => ?_)
                        · replace h := jit_pos hc h
                          exact Hk39 h
                        · replace h := jit_neg hc h
                          refine x_iload_n (pc := 130) hC dX9_count_130 rfl rfl ?_
                          refine x_bipush (pc := 131) hC dX9_count_131 rfl ?_
                          refine x_icmp_ge (tgt := 148) (pc := 133) hC dX9_count_133 (by decide) (fun hc => ?_) (fun hc => ?_)
                          · replace h := jit_pos hc h
                            exact Hk39 h
                          · replace h := jit_neg hc h
                            refine x_aloadA_n (pc := 136) hC dX9_count_136 rfl rfl k_1 (by decide) ?_
                            obtain ⟨hk42, h⟩ := jck_some h
                            refine x_gr (pc := 137) (ji := 3) hC fl_X9_23 rfl ft9_3 k_1 dX9_count_137 ?_
                            refine x_gf (pc := 140) (b := ((M 1 3) + 1)) hC fl_X9_251 ft1_1 hk42 (by decide) (off := 1) (by decide +kernel) rfl dX9_count_140 ?_
                            refine x_iload_n (pc := 143) hC dX9_count_143 rfl rfl ?_
                            refine x_iconst (pc := 144) hC dX9_count_144 ?_
                            refine x_isub (pc := 145) hC dX9_count_145 ?_
                            obtain ⟨hb43, h⟩ := jck_some h
                            refine x_iald (pc := 146) hC (ko1_1 hk42) (by rw [lo1_1 hk42]; exact hb43) dX9_count_146 ?_
                            exact x_iret (pc := 147) hC hR dX9_count_147 (jrR h) rfl
                      · rcases jit_or h with ⟨hq, h⟩ | ⟨hr10, h⟩
                        · refine x_tableIn (tgt := 98) (off := 97) (pc := 1) hC dX9_count_1 (by omega) (by omega) (by rw [hq]; rfl) (by decide) ?_
                          refine x_aloadA_n (pc := 98) hC dX9_count_98 rfl rfl k_1 (by decide) ?_
                          obtain ⟨hk44, h⟩ := jck_some h
                          refine x_gr (pc := 99) (ji := 3) hC fl_X9_23 rfl ft9_3 k_1 dX9_count_99 ?_
                          refine x_gf (pc := 102) (b := ((M 1 3) + 7)) hC fl_X9_204 ft1_5 hk44 (by decide) (off := 7) (by decide +kernel) rfl dX9_count_102 ?_
                          refine x_gi (pc := 105) (ji := 0) hC fl_X9_208 rfl fn5_0 (ko1_5 hk44) dX9_count_105 ?_
                          exact x_iret (pc := 108) hC hR dX9_count_108 (jrR h) rfl
                        · rcases jit_or h with ⟨hq, h⟩ | ⟨hr11, h⟩
                          · refine x_tableIn (tgt := 109) (off := 108) (pc := 1) hC dX9_count_1 (by omega) (by omega) (by rw [hq]; rfl) (by decide) ?_
                            refine x_aloadA_n (pc := 109) hC dX9_count_109 rfl rfl k_1 (by decide) ?_
                            refine x_gf (pc := 110) (b := 159) hC fl_X9_51 ft9_7 k_1 (by decide) (off := 158) (by decide +kernel) (by decide) dX9_count_110 ?_
                            refine x_gi (pc := 113) (ji := 0) hC fl_X9_264 rfl fn0_0 k_159 dX9_count_113 ?_
                            exact x_iret (pc := 116) hC hR dX9_count_116 (jrR h) rfl
                          · have hq : jw l1 = 12 := by omega
                            refine x_tableIn (tgt := 117) (off := 116) (pc := 1) hC dX9_count_1 (by omega) (by omega) (by rw [hq]; rfl) (by decide) ?_
                            refine x_aloadA_n (pc := 117) hC dX9_count_117 rfl rfl k_1 (by decide) ?_
                            refine x_gf (pc := 118) (b := 164) hC fl_X9_58 ft9_8 k_1 (by decide) (off := 163) (by decide +kernel) (by decide) dX9_count_118 ?_
                            refine x_gi (pc := 121) (ji := 1) hC fl_X9_347 rfl fn3_1 k_164 dX9_count_121 ?_
                            exact x_iret (pc := 124) hC hR dX9_count_124 (jrR h) rfl

set_option maxHeartbeats 4000000 in
set_option maxRecDepth 20000 in
theorem ok_X10_thrown {X : jX} {n : Nat} (hn : 179 ≤ n) {M : jM} {rz : Int} (h : f_X10_thrown M = some rz) : jCt X n yX10_thrown cX10_thrown 1 (some .int) 0 [jA 166] M (some (jI rz)) M := by
  refine jCt_of (own := RX10) (ls := [jA 166]) (by decide +kernel) rfl hn (Nat.le_of_ble_eq_true rfl) rfl ?_
  intro C hC hR
  unfold f_X10_thrown at h
  refine x_aloadA_n (pc := 0) hC dX10_thrown_0 rfl rfl k_166 (by decide) ?_
  refine x_gi (pc := 1) (ji := 0) hC fl_X10_3 rfl fn10_0 k_166 dX10_thrown_1 ?_
  exact x_iret (pc := 4) hC hR dX10_thrown_4 (jrR h) rfl

set_option maxHeartbeats 4000000 in
set_option maxRecDepth 20000 in
theorem ok_X10_throwsIf {X : jX} {n : Nat} (hn : 179 ≤ n) {l1 : Int} {l2 : Int} {M : jM} {rz : Int} {Mz : jM} (h : f_X10_throwsIf l1 l2 M = some (rz, Mz)) : jCt X n yX10_throwsIf cX10_throwsIf 3 (some .boolean) 0 [jA 166, jI l1, jI l2] M (some (jI rz)) Mz := by
  refine jCt_of (own := RX10) (ls := [jA 166, jI l1, jI l2]) (by decide +kernel) rfl hn (Nat.le_of_ble_eq_true rfl) rfl ?_
  intro C hC hR
  unfold f_X10_throwsIf at h
  refine x_iload_n (pc := 0) hC dX10_throwsIf_0 rfl rfl ?_
  refine x_if_eq (tgt := 9) (pc := 1) hC dX10_throwsIf_1 (by decide) (fun hc => ?_) (fun hc => ?_)
  · replace h := jit_pos hc h
    refine x_iload_n (pc := 9) hC dX10_throwsIf_9 rfl rfl ?_
    obtain ⟨hz1, h⟩ := jck_some h
    exact x_zret (pc := 10) hC hR dX10_throwsIf_10 hz1 (jr1 h) (jr2 h)
  · replace h := jit_neg hc h
    refine x_aloadA_n (pc := 4) hC dX10_throwsIf_4 rfl rfl k_166 (by decide) ?_
    refine x_iload_n (pc := 5) hC dX10_throwsIf_5 rfl rfl ?_
    obtain ⟨M2, eM2, h⟩ := jlet_some h
    refine x_pi (pc := 6) (ji := 0) hC fl_X10_3 rfl ft10_0 k_166 dX10_throwsIf_6 eM2 ?_
    refine x_iload_n (pc := 9) hC dX10_throwsIf_9 rfl rfl ?_
    obtain ⟨hz3, h⟩ := jck_some h
    exact x_zret (pc := 10) hC hR dX10_throwsIf_10 hz3 (jr1 h) (jr2 h)

set_option maxHeartbeats 4000000 in
set_option maxRecDepth 20000 in
theorem ok_X10_in {X : jX} {n : Nat} (hn : 179 ≤ n) {l0 : Int} {l1 : Int} {l2 : Int} {M : jM} {rz : Int} (h : f_X10_in l0 l1 l2 = some rz) : jCt X n yX10_in cX10_in 3 (some .boolean) 0 [jI l0, jI l1, jI l2] M (some (jI rz)) M := by
  refine jCt_of (own := RX10) (ls := [jI l0, jI l1, jI l2]) (by decide +kernel) rfl hn (Nat.le_of_ble_eq_true rfl) rfl ?_
  intro C hC hR
  unfold f_X10_in at h
  refine x_iload_n (pc := 0) hC dX10_in_0 rfl rfl ?_
  refine x_iload_n (pc := 1) hC dX10_in_1 rfl rfl ?_
  refine x_icmp_lt (tgt := 14) (pc := 2) hC dX10_in_2 (by decide) (fun hc => ?_) (fun hc => ?_)
  · replace h := jit_pos hc h
    refine x_iconst (pc := 14) hC dX10_in_14 ?_
    exact x_zret (pc := 15) hC hR dX10_in_15 (Or.inl jw0) (jrR h) rfl
  · replace h := jit_neg hc h
    refine x_iload_n (pc := 5) hC dX10_in_5 rfl rfl ?_
    refine x_iload_n (pc := 6) hC dX10_in_6 rfl rfl ?_
    refine x_icmp_gt (tgt := 14) (pc := 7) hC dX10_in_7 (by decide) (fun hc => ?_) (fun hc => ?_)
    · replace h := jit_pos hc h
      refine x_iconst (pc := 14) hC dX10_in_14 ?_
      exact x_zret (pc := 15) hC hR dX10_in_15 (Or.inl jw0) (jrR h) rfl
    · replace h := jit_neg hc h
      refine x_iconst (pc := 10) hC dX10_in_10 ?_
      refine x_goto (tgt := 15) (pc := 11) hC dX10_in_11 (by decide) ?_
      exact x_zret (pc := 15) hC hR dX10_in_15 (Or.inr jw1) (jrR h) rfl

set_option maxHeartbeats 4000000 in
set_option maxRecDepth 20000 in
theorem ok_X10_isIn {X : jX} {n : Nat} (hn : 179 ≤ n) {l0 : Int} {l1 : Int} {M : jM} {rz : Int} (h : f_X10_isIn l0 l1 = some rz) : jCt X n yX10_isIn cX10_isIn 2 (some .boolean) 0 [jI l0, jI l1] M (some (jI rz)) M := by
  refine jCt_of (own := RX10) (ls := [jI l0, jI l1]) (by decide +kernel) rfl hn (Nat.le_of_ble_eq_true rfl) rfl ?_
  intro C hC hR
  unfold f_X10_isIn at h
  refine x_iload_n (pc := 0) hC dX10_isIn_0 rfl rfl ?_
  refine x_iload_n (pc := 1) hC dX10_isIn_1 rfl rfl ?_
  refine x_ishr (pc := 2) hC dX10_isIn_2 ?_
  refine x_iconst (pc := 3) hC dX10_isIn_3 ?_
  refine x_iand (pc := 4) hC dX10_isIn_4 ?_
  refine x_iconst (pc := 5) hC dX10_isIn_5 ?_
  refine x_icmp_ne (tgt := 13) (pc := 6) hC dX10_isIn_6 (by decide) (fun hc => ?_) (fun hc => ?_)
  · replace h := jit_neg hc h
    refine x_iconst (pc := 13) hC dX10_isIn_13 ?_
    exact x_zret (pc := 14) hC hR dX10_isIn_14 (Or.inl jw0) (jrR h) rfl
  · replace h := jit_pos hc h
    refine x_iconst (pc := 9) hC dX10_isIn_9 ?_
    refine x_goto (tgt := 14) (pc := 10) hC dX10_isIn_10 (by decide) ?_
    exact x_zret (pc := 14) hC hR dX10_isIn_14 (Or.inr jw1) (jrR h) rfl

set_option maxHeartbeats 4000000 in
set_option maxRecDepth 20000 in
theorem ok_X10_bits {X : jX} {n : Nat} (hn : 179 ≤ n) {l0 : Int} {M : jM} {rz : Int} (h : f_X10_bits l0 = some rz) : jCt X n yX10_bits cX10_bits 3 (some .int) 0 [jI l0] M (some (jI rz)) M := by
  refine jCt_of (own := RX10) (ls := [jI l0, jN, jN]) (by decide +kernel) rfl hn (Nat.le_of_ble_eq_true rfl) rfl ?_
  intro C hC hR
  unfold f_X10_bits at h
  refine x_iconst (pc := 0) hC dX10_bits_0 ?_
  refine x_istore_n (ls2 := [jI l0, jI 0, jN]) (pc := 1) hC dX10_bits_1 rfl (by decide) rfl rfl rfl ?_
  refine x_iconst (pc := 2) hC dX10_bits_2 ?_
  refine x_istore_n (ls2 := [jI l0, jI 0, jI 0]) (pc := 3) hC dX10_bits_3 rfl (by decide) rfl rfl rfl ?_
  refine jlp2_ind (P := fun (l1_1 : Int) (l2_2 : Int) => jG C X n 3 0 0 4 [jI l0, jI l1_1, jI l2_2] [] M) ?_ _ _ _ h
  intro self3 l1_1 l2_2 Hself3 h
  refine x_iload_n (pc := 4) hC dX10_bits_4 rfl rfl ?_
  refine x_bipush (pc := 5) hC dX10_bits_5 rfl ?_
  refine x_icmp_ge (tgt := 24) (pc := 7) hC dX10_bits_7 (by decide) (fun hc => ?_) (fun hc => ?_)
  · replace h := jit_pos hc h
    refine x_iload_n (pc := 24) hC dX10_bits_24 rfl rfl ?_
    exact x_iret (pc := 25) hC hR dX10_bits_25 (jrR h) rfl
  · replace h := jit_neg hc h
    refine x_iload_n (pc := 10) hC dX10_bits_10 rfl rfl ?_
    refine x_iload_n (pc := 11) hC dX10_bits_11 rfl rfl ?_
    refine x_iload_n (pc := 12) hC dX10_bits_12 rfl rfl ?_
    refine x_ishr (pc := 13) hC dX10_bits_13 ?_
    refine x_iconst (pc := 14) hC dX10_bits_14 ?_
    refine x_iand (pc := 15) hC dX10_bits_15 ?_
    refine x_iadd (pc := 16) hC dX10_bits_16 ?_
    obtain ⟨l1_4, el1_4, h⟩ := jlet_some h
    refine x_istore_n (ls2 := [jI l0, jI l1_4, jI l2_2]) (pc := 17) hC dX10_bits_17 rfl (by decide) rfl el1_4 rfl ?_
    obtain ⟨l2_5, el2_5, h⟩ := jlet_some h
    refine x_iinc (ls2 := [jI l0, jI l1_4, jI l2_5]) (pc := 18) hC dX10_bits_18 rfl (by decide) rfl el2_5 rfl ?_
    refine x_goto (tgt := 4) (pc := 21) hC dX10_bits_21 (by decide) ?_
    exact Hself3 _ _ h

set_option maxHeartbeats 4000000 in
set_option maxRecDepth 20000 in
theorem ok_X10_feed {X : jX} {n : Nat} (hn : 179 ≤ n) {l1 : Int} {l2 : Int} {l3 : Int} {l4 : Int} {l5 : Int} {M : jM} {rz : Int} {Mz : jM} (h : f_X10_feed l1 l2 l3 l4 l5 M = some (rz, Mz)) : jCt X n yX10_feed cX10_feed 7 (some .int) 0 [jA 166, jI l1, jI l2, jI l3, jI l4, jI l5] M (some (jI rz)) Mz := by
  refine jCt_of (own := RX10) (ls := [jA 166, jI l1, jI l2, jI l3, jI l4, jI l5, jN]) (by decide +kernel) rfl hn (Nat.le_of_ble_eq_true rfl) rfl ?_
  intro C hC hR
  unfold f_X10_feed at h
  refine x_aloadA_n (pc := 0) hC dX10_feed_0 rfl rfl k_166 (by decide) ?_
  refine x_iconst (pc := 1) hC dX10_feed_1 ?_
  obtain ⟨M1, eM1, h⟩ := jlet_some h
  refine x_pi (pc := 2) (ji := 0) hC fl_X10_3 rfl ft10_0 k_166 dX10_feed_2 eM1 ?_
  refine x_aloadA_n (pc := 5) hC dX10_feed_5 rfl rfl k_166 (by decide) ?_
  refine x_gi (pc := 6) (ji := 2) hC fl_X10_7 rfl fn10_2 k_166 dX10_feed_6 ?_
  refine x_bipush (pc := 9) hC dX10_feed_9 rfl ?_
  refine x_iadd (pc := 11) hC dX10_feed_11 ?_
  refine x_sipush (pc := 12) hC dX10_feed_12 rfl ?_
  refine x_icmp_le (tgt := 20) (pc := 15) hC dX10_feed_15 (by decide) (fun hc => ?_) (fun hc => ?_)
  · replace h := jit_pos hc h
    refine x_aloadA_n (pc := 20) hC dX10_feed_20 rfl rfl k_166 (by decide) ?_
    refine x_gf (pc := 21) (b := 168) hC fl_X10_10 ft10_3 k_166 (by decide) (off := 2) (by decide +kernel) (by decide) dX10_feed_21 ?_
    refine x_iconst (pc := 24) hC dX10_feed_24 ?_
    refine x_iload_n (pc := 25) hC dX10_feed_25 rfl rfl ?_
    obtain ⟨hb2, h⟩ := jck_some h
    obtain ⟨M3, eM3, h⟩ := jlet_some h
    refine x_iast (pc := 26) hC k_168 (by rw [l_168]; exact hb2) dX10_feed_26 eM3 ?_
    refine x_aloadA_n (pc := 27) hC dX10_feed_27 rfl rfl k_166 (by decide) ?_
    refine x_gf (pc := 28) (b := 168) hC fl_X10_10 ft10_3 k_166 (by decide) (off := 2) (by decide +kernel) (by decide) dX10_feed_28 ?_
    refine x_iconst (pc := 31) hC dX10_feed_31 ?_
    refine x_iload_n (pc := 32) hC dX10_feed_32 rfl rfl ?_
    obtain ⟨hb4, h⟩ := jck_some h
    obtain ⟨M5, eM5, h⟩ := jlet_some h
    refine x_iast (pc := 33) hC k_168 (by rw [l_168]; exact hb4) dX10_feed_33 eM5 ?_
    refine x_aloadA_n (pc := 34) hC dX10_feed_34 rfl rfl k_166 (by decide) ?_
    refine x_gf (pc := 35) (b := 168) hC fl_X10_10 ft10_3 k_166 (by decide) (off := 2) (by decide +kernel) (by decide) dX10_feed_35 ?_
    refine x_iconst (pc := 38) hC dX10_feed_38 ?_
    refine x_iload_n (pc := 39) hC dX10_feed_39 rfl rfl ?_
    obtain ⟨hb6, h⟩ := jck_some h
    obtain ⟨M7, eM7, h⟩ := jlet_some h
    refine x_iast (pc := 40) hC k_168 (by rw [l_168]; exact hb6) dX10_feed_40 eM7 ?_
    refine x_aloadA_n (pc := 41) hC dX10_feed_41 rfl rfl k_166 (by decide) ?_
    refine x_gf (pc := 42) (b := 168) hC fl_X10_10 ft10_3 k_166 (by decide) (off := 2) (by decide +kernel) (by decide) dX10_feed_42 ?_
    refine x_iconst (pc := 45) hC dX10_feed_45 ?_
    refine x_iload (pc := 46) hC dX10_feed_46 rfl ?_
    obtain ⟨hb8, h⟩ := jck_some h
    obtain ⟨M9, eM9, h⟩ := jlet_some h
    refine x_iast (pc := 48) hC k_168 (by rw [l_168]; exact hb8) dX10_feed_48 eM9 ?_
    refine x_aloadA_n (pc := 49) hC dX10_feed_49 rfl rfl k_166 (by decide) ?_
    refine x_gf (pc := 50) (b := 168) hC fl_X10_10 ft10_3 k_166 (by decide) (off := 2) (by decide +kernel) (by decide) dX10_feed_50 ?_
    refine x_iconst (pc := 53) hC dX10_feed_53 ?_
    refine x_iload (pc := 54) hC dX10_feed_54 rfl ?_
    obtain ⟨hb10, h⟩ := jck_some h
    obtain ⟨M11, eM11, h⟩ := jlet_some h
    refine x_iast (pc := 56) hC k_168 (by rw [l_168]; exact hb10) dX10_feed_56 eM11 ?_
    refine x_iconst (pc := 57) hC dX10_feed_57 ?_
    refine x_istore (ls2 := [jA 166, jI l1, jI l2, jI l3, jI l4, jI l5, jI 0]) (pc := 58) hC dX10_feed_58 (by decide) rfl rfl rfl ?_
    refine jlp2_ind (P := fun (l6_12 : Int) (M13 : jM) => jG C X n 7 0 0 60 [jA 166, jI l1, jI l2, jI l3, jI l4, jI l5, jI l6_12] [] M13) ?_ _ _ _ h
    intro self14 l6_12 M13 Hself14 h
    refine x_iload (pc := 60) hC dX10_feed_60 rfl ?_
    refine x_bipush (pc := 62) hC dX10_feed_62 rfl ?_
    refine x_icmp_ge (tgt := 106) (pc := 64) hC dX10_feed_64 (by decide) (fun hc => ?_) (fun hc => ?_)
    · replace h := jit_pos hc h
      refine x_aloadA_n (pc := 106) hC dX10_feed_106 rfl rfl k_166 (by decide) ?_
      refine x_dup (pc := 107) hC dX10_feed_107 (show (2 : Nat) ≠ 3 by decide) ?_
      refine x_gi (pc := 108) (ji := 2) hC fl_X10_7 rfl fn10_2 k_166 dX10_feed_108 ?_
      refine x_bipush (pc := 111) hC dX10_feed_111 rfl ?_
      refine x_iadd (pc := 113) hC dX10_feed_113 ?_
      obtain ⟨M15, eM15, h⟩ := jlet_some h
      refine x_pi (pc := 114) (ji := 2) hC fl_X10_7 rfl ft10_2 k_166 dX10_feed_114 eM15 ?_
      refine x_aloadA_n (pc := 117) hC dX10_feed_117 rfl rfl k_166 (by decide) ?_
      refine x_gi (pc := 118) (ji := 2) hC fl_X10_7 rfl fn10_2 k_166 dX10_feed_118 ?_
      exact x_iret (pc := 121) hC hR dX10_feed_121 (jr1 h) (jr2 h)
    · replace h := jit_neg hc h
      refine x_aloadA_n (pc := 67) hC dX10_feed_67 rfl rfl k_166 (by decide) ?_
      refine x_gf (pc := 68) (b := 167) hC fl_X10_14 ft10_1 k_166 (by decide) (off := 1) (by decide +kernel) (by decide) dX10_feed_68 ?_
      refine x_aloadA_n (pc := 71) hC dX10_feed_71 rfl rfl k_166 (by decide) ?_
      refine x_gi (pc := 72) (ji := 2) hC fl_X10_7 rfl fn10_2 k_166 dX10_feed_72 ?_
      refine x_iload (pc := 75) hC dX10_feed_75 rfl ?_
      refine x_iadd (pc := 77) hC dX10_feed_77 ?_
      refine x_aloadA_n (pc := 78) hC dX10_feed_78 rfl rfl k_166 (by decide) ?_
      refine x_gf (pc := 79) (b := 168) hC fl_X10_10 ft10_3 k_166 (by decide) (off := 2) (by decide +kernel) (by decide) dX10_feed_79 ?_
      refine x_iload (pc := 82) hC dX10_feed_82 rfl ?_
      refine x_iconst (pc := 84) hC dX10_feed_84 ?_
      refine x_idiv (pc := 85) hC dX10_feed_85 (by decide) ?_
      obtain ⟨hb16, h⟩ := jck_some h
      refine x_iald (pc := 86) hC k_168 (by rw [l_168]; exact hb16) dX10_feed_86 ?_
      refine x_bipush (pc := 87) hC dX10_feed_87 rfl ?_
      refine x_bipush (pc := 89) hC dX10_feed_89 rfl ?_
      refine x_iload (pc := 91) hC dX10_feed_91 rfl ?_
      refine x_iconst (pc := 93) hC dX10_feed_93 ?_
      refine x_irem (pc := 94) hC dX10_feed_94 (by decide) ?_
      refine x_imul (pc := 95) hC dX10_feed_95 ?_
      refine x_isub (pc := 96) hC dX10_feed_96 ?_
      refine x_ishr (pc := 97) hC dX10_feed_97 ?_
      refine x_i2b (pc := 98) hC dX10_feed_98 ?_
      obtain ⟨hb17, h⟩ := jck_some h
      obtain ⟨M18, eM18, h⟩ := jlet_some h
      refine x_bast (pc := 99) hC k_167 (by rw [l_167]; exact hb17) dX10_feed_99 eM18 ?_
      obtain ⟨l6_19, el6_19, h⟩ := jlet_some h
      refine x_iinc (ls2 := [jA 166, jI l1, jI l2, jI l3, jI l4, jI l5, jI l6_19]) (pc := 100) hC dX10_feed_100 rfl (by decide) rfl el6_19 rfl ?_
      refine x_goto (tgt := 60) (pc := 103) hC dX10_feed_103 (by decide) ?_
      exact Hself14 _ _ h
  · replace h := jit_neg hc h
    refine x_iconst (pc := 18) hC dX10_feed_18 ?_
    exact x_iret (pc := 19) hC hR dX10_feed_19 (jr1 h) (jr2 h)

set_option maxHeartbeats 4000000 in
set_option maxRecDepth 20000 in
theorem ok_X10_end {X : jX} {n : Nat} (hn : 179 ≤ n) {l1 : Int} {M : jM} {rz : Int} {Mz : jM} (h : f_X10_end l1 M = some (rz, Mz)) : jCt X n yX10_end cX10_end 2 (some .boolean) 0 [jA 166, jI l1] M (some (jI rz)) Mz := by
  refine jCt_of (own := RX10) (ls := [jA 166, jI l1]) (by decide +kernel) rfl hn (Nat.le_of_ble_eq_true rfl) rfl ?_
  intro C hC hR
  unfold f_X10_end at h
  refine x_aloadA_n (pc := 0) hC dX10_end_0 rfl rfl k_166 (by decide) ?_
  refine x_iconst (pc := 1) hC dX10_end_1 ?_
  obtain ⟨M1, eM1, h⟩ := jlet_some h
  refine x_pi (pc := 2) (ji := 0) hC fl_X10_3 rfl ft10_0 k_166 dX10_end_2 eM1 ?_
  refine x_iload_n (pc := 5) hC dX10_end_5 rfl rfl ?_
  refine x_if_lt (tgt := 17) (pc := 6) hC dX10_end_6 (by decide) (fun hc => ?_) (fun hc => ?_)
  · replace h := jit_pos hc h
    refine x_iconst (pc := 17) hC dX10_end_17 ?_
    exact x_zret (pc := 18) hC hR dX10_end_18 (Or.inl jw0) (jr1 h) (jr2 h)
  · replace h := jit_neg hc h
    refine x_iload_n (pc := 9) hC dX10_end_9 rfl rfl ?_
    refine x_aloadA_n (pc := 10) hC dX10_end_10 rfl rfl k_166 (by decide) ?_
    refine x_gi (pc := 11) (ji := 2) hC fl_X10_7 rfl fn10_2 k_166 dX10_end_11 ?_
    refine x_icmp_le (tgt := 19) (pc := 14) hC dX10_end_14 (by decide) (fun hc => ?_) (fun hc => ?_)
    · replace h := jit_pos hc h
      refine x_aloadA_n (pc := 19) hC dX10_end_19 rfl rfl k_166 (by decide) ?_
      refine x_iload_n (pc := 20) hC dX10_end_20 rfl rfl ?_
      obtain ⟨M2, eM2, h⟩ := jlet_some h
      refine x_pi (pc := 21) (ji := 2) hC fl_X10_7 rfl ft10_2 k_166 dX10_end_21 eM2 ?_
      refine x_iconst (pc := 24) hC dX10_end_24 ?_
      exact x_zret (pc := 25) hC hR dX10_end_25 (Or.inr jw1) (jr1 h) (jr2 h)
    · replace h := jit_neg hc h
      refine x_iconst (pc := 17) hC dX10_end_17 ?_
      exact x_zret (pc := 18) hC hR dX10_end_18 (Or.inl jw0) (jr1 h) (jr2 h)

set_option maxHeartbeats 4000000 in
set_option maxRecDepth 20000 in
theorem ok_X10_hasFailed {X : jX} {n : Nat} (hn : 179 ≤ n) {M : jM} {rz : Int} (h : f_X10_hasFailed M = some rz) : jCt X n yX10_hasFailed cX10_hasFailed 1 (some .boolean) 0 [jA 166] M (some (jI rz)) M := by
  refine jCt_of (own := RX10) (ls := [jA 166]) (by decide +kernel) rfl hn (Nat.le_of_ble_eq_true rfl) rfl ?_
  intro C hC hR
  unfold f_X10_hasFailed at h
  refine x_aloadA_n (pc := 0) hC dX10_hasFailed_0 rfl rfl k_166 (by decide) ?_
  refine x_gi (pc := 1) (ji := 7) hC fl_X10_18 rfl fn10_7 k_166 dX10_hasFailed_1 ?_
  refine x_iconst (pc := 4) hC dX10_hasFailed_4 ?_
  refine x_icmp_eq (tgt := 12) (pc := 5) hC dX10_hasFailed_5 (by decide) (fun hc => ?_) (fun hc => ?_)
  · replace h := jit_pos hc h
    refine x_iconst (pc := 12) hC dX10_hasFailed_12 ?_
    exact x_zret (pc := 13) hC hR dX10_hasFailed_13 (Or.inl jw0) (jrR h) rfl
  · replace h := jit_neg hc h
    refine x_iconst (pc := 8) hC dX10_hasFailed_8 ?_
    refine x_goto (tgt := 13) (pc := 9) hC dX10_hasFailed_9 (by decide) ?_
    exact x_zret (pc := 13) hC hR dX10_hasFailed_13 (Or.inr jw1) (jrR h) rfl

set_option maxHeartbeats 4000000 in
set_option maxRecDepth 20000 in
theorem ok_X10_isAt {X : jX} {n : Nat} (hn : 179 ≤ n) {l1 : Int} {l2 : Int} {M : jM} {rz : Int} (h : f_X10_isAt l1 l2 M = some rz) : jCt X n yX10_isAt cX10_isAt 3 (some .boolean) 0 [jA 166, jI l1, jI l2] M (some (jI rz)) M := by
  refine jCt_of (own := RX10) (ls := [jA 166, jI l1, jI l2]) (by decide +kernel) rfl hn (Nat.le_of_ble_eq_true rfl) rfl ?_
  intro C hC hR
  unfold f_X10_isAt at h
  refine x_aloadA_n (pc := 0) hC dX10_isAt_0 rfl rfl k_166 (by decide) ?_
  refine x_gi (pc := 1) (ji := 4) hC fl_X10_21 rfl fn10_4 k_166 dX10_isAt_1 ?_
  refine x_aloadA_n (pc := 4) hC dX10_isAt_4 rfl rfl k_166 (by decide) ?_
  refine x_gi (pc := 5) (ji := 6) hC fl_X10_24 rfl fn10_6 k_166 dX10_isAt_5 ?_
  refine x_icmp_ge (tgt := 41) (pc := 8) hC dX10_isAt_8 (by decide) (fun hc => ?_) (fun hc => ?_)
  · replace h := jit_pos hc h
    refine x_iconst (pc := 41) hC dX10_isAt_41 ?_
    exact x_zret (pc := 42) hC hR dX10_isAt_42 (Or.inl jw0) (jrR h) rfl
  · replace h := jit_neg hc h
    refine x_aloadA_n (pc := 11) hC dX10_isAt_11 rfl rfl k_166 (by decide) ?_
    refine x_gf (pc := 12) (b := 167) hC fl_X10_14 ft10_1 k_166 (by decide) (off := 1) (by decide +kernel) (by decide) dX10_isAt_12 ?_
    refine x_aloadA_n (pc := 15) hC dX10_isAt_15 rfl rfl k_166 (by decide) ?_
    refine x_gi (pc := 16) (ji := 4) hC fl_X10_21 rfl fn10_4 k_166 dX10_isAt_16 ?_
    obtain ⟨hb1, h⟩ := jck_some h
    refine x_bald (pc := 19) hC k_167 (by rw [l_167]; exact hb1) dX10_isAt_19 ?_
    refine x_iload_n (pc := 20) hC dX10_isAt_20 rfl rfl ?_
    refine x_icmp_lt (tgt := 41) (pc := 21) hC dX10_isAt_21 (by decide) (fun hc => ?_) (fun hc => ?_)
    · replace h := jit_pos hc h
      refine x_iconst (pc := 41) hC dX10_isAt_41 ?_
      exact x_zret (pc := 42) hC hR dX10_isAt_42 (Or.inl jw0) (jrR h) rfl
    · replace h := jit_neg hc h
      refine x_aloadA_n (pc := 24) hC dX10_isAt_24 rfl rfl k_166 (by decide) ?_
      refine x_gf (pc := 25) (b := 167) hC fl_X10_14 ft10_1 k_166 (by decide) (off := 1) (by decide +kernel) (by decide) dX10_isAt_25 ?_
      refine x_aloadA_n (pc := 28) hC dX10_isAt_28 rfl rfl k_166 (by decide) ?_
      refine x_gi (pc := 29) (ji := 4) hC fl_X10_21 rfl fn10_4 k_166 dX10_isAt_29 ?_
      obtain ⟨hb2, h⟩ := jck_some h
      refine x_bald (pc := 32) hC k_167 (by rw [l_167]; exact hb2) dX10_isAt_32 ?_
      refine x_iload_n (pc := 33) hC dX10_isAt_33 rfl rfl ?_
      refine x_icmp_gt (tgt := 41) (pc := 34) hC dX10_isAt_34 (by decide) (fun hc => ?_) (fun hc => ?_)
      · replace h := jit_pos hc h
        refine x_iconst (pc := 41) hC dX10_isAt_41 ?_
        exact x_zret (pc := 42) hC hR dX10_isAt_42 (Or.inl jw0) (jrR h) rfl
      · replace h := jit_neg hc h
        refine x_iconst (pc := 37) hC dX10_isAt_37 ?_
        refine x_goto (tgt := 42) (pc := 38) hC dX10_isAt_38 (by decide) ?_
        exact x_zret (pc := 42) hC hR dX10_isAt_42 (Or.inr jw1) (jrR h) rfl

