/-! ===== the machine does what the functions say; by program ===== -/
set_option maxHeartbeats 4000000 in
set_option maxRecDepth 20000 in
theorem ok_X10_ranked {X : jX} {n : Nat} (hn : 179 ≤ n) {l1 : Int} {M : jM} {rz : Int} {Mz : jM} (h : f_X10_ranked l1 M = some (rz, Mz)) : jCt X n yX10_ranked cX10_ranked 2 (some .int) 10 [jA 166, jI l1] M (some (jI rz)) Mz := by
  refine jCt_of (own := RX10) (ls := [jA 166, jI l1]) (by decide +kernel) rfl hn (Nat.le_of_ble_eq_true rfl) rfl ?_
  intro C hC hR
  unfold f_X10_ranked at h
  refine x_aloadA_n (pc := 0) hC dX10_ranked_0 rfl rfl k_166 (by decide) ?_
  refine x_iconst (pc := 1) hC dX10_ranked_1 ?_
  obtain ⟨M1, eM1, h⟩ := jlet_some h
  refine x_pi (pc := 2) (ji := 0) hC fl_X10_3 rfl ft10_0 k_166 dX10_ranked_2 eM1 ?_
  refine x_aloadA_n (pc := 5) hC dX10_ranked_5 rfl rfl k_166 (by decide) ?_
  obtain ⟨M3, e2, h⟩ := jbV_some h
  refine x_cV (pc := 6) hC mv_X10_408 (ok_X10_all hn e2) rfl (Nat.le_of_ble_eq_true rfl) k_166 rfl (by decide) (jRo0 C) (Nat.le_of_ble_eq_true rfl) dX10_ranked_6 rfl ?_
  refine x_aloadA_n (pc := 9) hC dX10_ranked_9 rfl rfl k_166 (by decide) ?_
  obtain ⟨M5, e4, h⟩ := jbV_some h
  refine x_cV (pc := 10) hC mv_X10_429 (ok_X10_laysTotals hn e4) rfl (Nat.le_of_ble_eq_true rfl) k_166 rfl (by decide) (jRo0 C) (Nat.le_of_ble_eq_true rfl) dX10_ranked_10 rfl ?_
  refine x_aloadA_n (pc := 13) hC dX10_ranked_13 rfl rfl k_166 (by decide) ?_
  refine x_iload_n (pc := 14) hC dX10_ranked_14 rfl rfl ?_
  obtain ⟨v7, e6, h⟩ := jbR_some h
  refine x_cV (pc := 15) hC mv_X10_432 (ok_X10_rankedAt hn e6) rfl (Nat.le_of_ble_eq_true rfl) k_166 rfl (by decide) (jRo0 C) (Nat.le_of_ble_eq_true rfl) dX10_ranked_15 rfl ?_
  exact x_iret (pc := 18) hC hR dX10_ranked_18 (jr1 h) (jr2 h)

set_option maxHeartbeats 4000000 in
set_option maxRecDepth 20000 in
theorem ok_X10_keeps {X : jX} {n : Nat} (hn : 179 ≤ n) {M : jM} {Mz : jM} (h : f_X10_keeps M = some Mz) : jCt X n yX10_keeps cX10_keeps 2 (none) 0 [jA 166] M (none) Mz := by
  refine jCt_of (own := RX10) (ls := [jA 166, jN]) (by decide +kernel) rfl hn (Nat.le_of_ble_eq_true rfl) rfl ?_
  intro C hC hR
  unfold f_X10_keeps at h
  refine x_aloadA_n (pc := 0) hC dX10_keeps_0 rfl rfl k_166 (by decide) ?_
  refine x_gi (pc := 1) (ji := 29) hC fl_X10_272 rfl fn10_29 k_166 dX10_keeps_1 ?_
  refine x_bipush (pc := 4) hC dX10_keeps_4 rfl ?_
  obtain ⟨k2, Hk2, h⟩ := jk_some (P := fun k2 => ∀ (M1 : jM), k2 M1 = some Mz → jG C X n 2 0 0 52 [jA 166, jN] [] M1) h (by
    intro M1 h
    refine x_iconst (pc := 52) hC dX10_keeps_52 ?_
    refine x_istore_n (ls2 := [jA 166, jI 0]) (pc := 53) hC dX10_keeps_53 rfl (by decide) rfl rfl rfl ?_
    refine jlp2_ind (P := fun (l1_3 : Int) (M4 : jM) => jG C X n 2 0 0 54 [jA 166, jI l1_3] [] M4) ?_ _ _ _ h
    intro self5 l1_3 M4 Hself5 h
    refine x_iload_n (pc := 54) hC dX10_keeps_54 rfl rfl ?_
    refine x_sipush (pc := 55) hC dX10_keeps_55 rfl ?_
    refine x_icmp_ge (tgt := 88) (pc := 58) hC dX10_keeps_58 (by decide) (fun hc => ?_) (fun hc => ?_)
    · replace h := jit_pos hc h
      refine x_aloadA_n (pc := 88) hC dX10_keeps_88 rfl rfl k_166 (by decide) ?_
      refine x_dup (pc := 89) hC dX10_keeps_89 (show (2 : Nat) ≠ 3 by decide) ?_
      refine x_gi (pc := 90) (ji := 29) hC fl_X10_272 rfl fn10_29 k_166 dX10_keeps_90 ?_
      refine x_iconst (pc := 93) hC dX10_keeps_93 ?_
      refine x_iadd (pc := 94) hC dX10_keeps_94 ?_
      obtain ⟨M6, eM6, h⟩ := jlet_some h
      refine x_pi (pc := 95) (ji := 29) hC fl_X10_272 rfl ft10_29 k_166 dX10_keeps_95 eM6 ?_
      exact x_vret (pc := 98) hC hR dX10_keeps_98 (jrR h)
    · replace h := jit_neg hc h
      refine x_aloadA_n (pc := 61) hC dX10_keeps_61 rfl rfl k_166 (by decide) ?_
      refine x_gf (pc := 62) (b := 178) hC fl_X10_109 ft10_28 k_166 (by decide) (off := 12) (by decide +kernel) (by decide) dX10_keeps_62 ?_
      refine x_sipush (pc := 65) hC dX10_keeps_65 rfl ?_
      refine x_aloadA_n (pc := 68) hC dX10_keeps_68 rfl rfl k_166 (by decide) ?_
      refine x_gi (pc := 69) (ji := 29) hC fl_X10_272 rfl fn10_29 k_166 dX10_keeps_69 ?_
      refine x_imul (pc := 72) hC dX10_keeps_72 ?_
      refine x_iload_n (pc := 73) hC dX10_keeps_73 rfl rfl ?_
      refine x_iadd (pc := 74) hC dX10_keeps_74 ?_
      refine x_aloadA_n (pc := 75) hC dX10_keeps_75 rfl rfl k_166 (by decide) ?_
      refine x_gf (pc := 76) (b := 170) hC fl_X10_84 ft10_10 k_166 (by decide) (off := 4) (by decide +kernel) (by decide) dX10_keeps_76 ?_
      refine x_iload_n (pc := 79) hC dX10_keeps_79 rfl rfl ?_
      obtain ⟨hb7, h⟩ := jck_some h
      refine x_iald (pc := 80) hC k_170 (by rw [l_170]; exact hb7) dX10_keeps_80 ?_
      obtain ⟨hb8, h⟩ := jck_some h
      obtain ⟨M9, eM9, h⟩ := jlet_some h
      refine x_iast (pc := 81) hC k_178 (by rw [l_178]; exact hb8) dX10_keeps_81 eM9 ?_
      obtain ⟨l1_10, el1_10, h⟩ := jlet_some h
      refine x_iinc (ls2 := [jA 166, jI l1_10]) (pc := 82) hC dX10_keeps_82 rfl (by decide) rfl el1_10 rfl ?_
      refine x_goto (tgt := 54) (pc := 85) hC dX10_keeps_85 (by decide) ?_
      exact Hself5 _ _ h)
  refine x_icmp_ne (tgt := 52) (pc := 6) hC dX10_keeps_6 (by decide) (fun hc => ?_) (fun hc => ?_)
  · replace h := jit_neg hc h
    exact Hk2 _ h
  · replace h := jit_pos hc h
    refine x_sipush (pc := 9) hC dX10_keeps_9 rfl ?_
    refine x_istore_n (ls2 := [jA 166, jI 971]) (pc := 12) hC dX10_keeps_12 rfl (by decide) rfl rfl rfl ?_
    refine jlp2_ind (P := fun (l1_11 : Int) (M12 : jM) => jG C X n 2 0 0 13 [jA 166, jI l1_11] [] M12) ?_ _ _ _ h
    intro self13 l1_11 M12 Hself13 h
    refine x_iload_n (pc := 13) hC dX10_keeps_13 rfl rfl ?_
    refine x_sipush (pc := 14) hC dX10_keeps_14 rfl ?_
    refine x_icmp_ge (tgt := 42) (pc := 17) hC dX10_keeps_17 (by decide) (fun hc => ?_) (fun hc => ?_)
    · replace h := jit_pos hc h
      refine x_aloadA_n (pc := 42) hC dX10_keeps_42 rfl rfl k_166 (by decide) ?_
      refine x_dup (pc := 43) hC dX10_keeps_43 (show (2 : Nat) ≠ 3 by decide) ?_
      refine x_gi (pc := 44) (ji := 29) hC fl_X10_272 rfl fn10_29 k_166 dX10_keeps_44 ?_
      refine x_iconst (pc := 47) hC dX10_keeps_47 ?_
      refine x_isub (pc := 48) hC dX10_keeps_48 ?_
      obtain ⟨M14, eM14, h⟩ := jlet_some h
      refine x_pi (pc := 49) (ji := 29) hC fl_X10_272 rfl ft10_29 k_166 dX10_keeps_49 eM14 ?_
      refine x_kill 1 (ls2 := [jA 166, jN]) rfl ?_
      exact Hk2 _ h
    · replace h := jit_neg hc h
      refine x_aloadA_n (pc := 20) hC dX10_keeps_20 rfl rfl k_166 (by decide) ?_
      refine x_gf (pc := 21) (b := 178) hC fl_X10_109 ft10_28 k_166 (by decide) (off := 12) (by decide +kernel) (by decide) dX10_keeps_21 ?_
      refine x_iload_n (pc := 24) hC dX10_keeps_24 rfl rfl ?_
      refine x_sipush (pc := 25) hC dX10_keeps_25 rfl ?_
      refine x_isub (pc := 28) hC dX10_keeps_28 ?_
      refine x_aloadA_n (pc := 29) hC dX10_keeps_29 rfl rfl k_166 (by decide) ?_
      refine x_gf (pc := 30) (b := 178) hC fl_X10_109 ft10_28 k_166 (by decide) (off := 12) (by decide +kernel) (by decide) dX10_keeps_30 ?_
      refine x_iload_n (pc := 33) hC dX10_keeps_33 rfl rfl ?_
      obtain ⟨hb15, h⟩ := jck_some h
      refine x_iald (pc := 34) hC k_178 (by rw [l_178]; exact hb15) dX10_keeps_34 ?_
      obtain ⟨hb16, h⟩ := jck_some h
      obtain ⟨M17, eM17, h⟩ := jlet_some h
      refine x_iast (pc := 35) hC k_178 (by rw [l_178]; exact hb16) dX10_keeps_35 eM17 ?_
      obtain ⟨l1_18, el1_18, h⟩ := jlet_some h
      refine x_iinc (ls2 := [jA 166, jI l1_18]) (pc := 36) hC dX10_keeps_36 rfl (by decide) rfl el1_18 rfl ?_
      refine x_goto (tgt := 13) (pc := 39) hC dX10_keeps_39 (by decide) ?_
      exact Hself13 _ _ h

set_option maxHeartbeats 4000000 in
set_option maxRecDepth 20000 in
theorem ok_X10_tells {X : jX} {n : Nat} (hn : 179 ≤ n) {l1 : Int} {l2 : Int} {M : jM} {rz : Int} {Mz : jM} (h : f_X10_tells l1 l2 M = some (rz, Mz)) : jCt X n yX10_tells cX10_tells 4 (some .int) 1 [jA 166, jI l1, jI l2] M (some (jI rz)) Mz := by
  refine jCt_of (own := RX10) (ls := [jA 166, jI l1, jI l2, jN]) (by decide +kernel) rfl hn (Nat.le_of_ble_eq_true rfl) rfl ?_
  intro C hC hR
  unfold f_X10_tells at h
  refine x_aloadA_n (pc := 0) hC dX10_tells_0 rfl rfl k_166 (by decide) ?_
  obtain ⟨M2, e1, h⟩ := jbV_some h
  refine x_cV (pc := 1) hC mv_X10_435 (ok_X10_keeps hn e1) rfl (Nat.le_of_ble_eq_true rfl) k_166 rfl (by decide) (jRo0 C) (Nat.le_of_ble_eq_true rfl) dX10_tells_1 rfl ?_
  refine x_aloadA_n (pc := 4) hC dX10_tells_4 rfl rfl k_166 (by decide) ?_
  refine x_gf (pc := 5) (b := 170) hC fl_X10_84 ft10_10 k_166 (by decide) (off := 4) (by decide +kernel) (by decide) dX10_tells_5 ?_
  refine x_iload_n (pc := 8) hC dX10_tells_8 rfl rfl ?_
  obtain ⟨hb3, h⟩ := jck_some h
  refine x_iald (pc := 9) hC k_170 (by rw [l_170]; exact hb3) dX10_tells_9 ?_
  obtain ⟨l3_4, el3_4, h⟩ := jlet_some h
  refine x_istore_n (ls2 := [jA 166, jI l1, jI l2, jI l3_4]) (pc := 10) hC dX10_tells_10 rfl (by decide) rfl el3_4 rfl ?_
  refine x_aloadA_n (pc := 11) hC dX10_tells_11 rfl rfl k_166 (by decide) ?_
  refine x_gf (pc := 12) (b := 170) hC fl_X10_84 ft10_10 k_166 (by decide) (off := 4) (by decide +kernel) (by decide) dX10_tells_12 ?_
  refine x_iload_n (pc := 15) hC dX10_tells_15 rfl rfl ?_
  refine x_iload_n (pc := 16) hC dX10_tells_16 rfl rfl ?_
  obtain ⟨hb5, h⟩ := jck_some h
  obtain ⟨M6, eM6, h⟩ := jlet_some h
  refine x_iast (pc := 17) hC k_170 (by rw [l_170]; exact hb5) dX10_tells_17 eM6 ?_
  refine x_iload_n (pc := 18) hC dX10_tells_18 rfl rfl ?_
  exact x_iret (pc := 19) hC hR dX10_tells_19 (jr1 h) (jr2 h)

set_option maxHeartbeats 4000000 in
set_option maxRecDepth 20000 in
theorem ok_X10_tell {X : jX} {n : Nat} (hn : 179 ≤ n) {l1 : Int} {l2 : Int} {l3 : Int} {l4 : Int} {M : jM} {rz : Int} {Mz : jM} (h : f_X10_tell l1 l2 l3 l4 M = some (rz, Mz)) : jCt X n yX10_tell cX10_tell 5 (some .int) 3 [jA 166, jI l1, jI l2, jI l3, jI l4] M (some (jI rz)) Mz := by
  refine jCt_of (own := RX10) (ls := [jA 166, jI l1, jI l2, jI l3, jI l4]) (by decide +kernel) rfl hn (Nat.le_of_ble_eq_true rfl) rfl ?_
  intro C hC hR
  unfold f_X10_tell at h
  refine x_aloadA_n (pc := 0) hC dX10_tell_0 rfl rfl k_166 (by decide) ?_
  refine x_iconst (pc := 1) hC dX10_tell_1 ?_
  obtain ⟨M1, eM1, h⟩ := jlet_some h
  refine x_pi (pc := 2) (ji := 0) hC fl_X10_3 rfl ft10_0 k_166 dX10_tell_2 eM1 ?_
  refine x_aloadA_n (pc := 5) hC dX10_tell_5 rfl rfl k_166 (by decide) ?_
  refine x_iload_n (pc := 6) hC dX10_tell_6 rfl rfl ?_
  refine x_iload_n (pc := 7) hC dX10_tell_7 rfl rfl ?_
  obtain ⟨v4, M3, e2, h⟩ := jbW_some h
  refine x_cV (pc := 8) hC mv_X10_417 (ok_X10_noTry hn e2) rfl (Nat.le_of_ble_eq_true rfl) k_166 rfl (by decide) (jRo0 C) (Nat.le_of_ble_eq_true rfl) dX10_tell_8 rfl ?_
  refine x_if_ne (tgt := 46) (pc := 11) hC dX10_tell_11 (by decide) (fun hc => ?_) (fun hc => ?_)
  · replace h := jit_neg hc h
    refine x_iconst (pc := 46) hC dX10_tell_46 ?_
    exact x_iret (pc := 47) hC hR dX10_tell_47 (jr1 h) (jr2 h)
  · replace h := jit_pos hc h
    refine x_aloadA_n (pc := 14) hC dX10_tell_14 rfl rfl k_166 (by decide) ?_
    refine x_iload_n (pc := 15) hC dX10_tell_15 rfl rfl ?_
    obtain ⟨v7, M6, e5, h⟩ := jbW_some h
    refine x_cV (pc := 16) hC mv_X10_423 (ok_X10_noJudge hn e5) rfl (Nat.le_of_ble_eq_true rfl) k_166 rfl (by decide) (jRo0 C) (Nat.le_of_ble_eq_true rfl) dX10_tell_16 rfl ?_
    refine x_if_ne (tgt := 46) (pc := 19) hC dX10_tell_19 (by decide) (fun hc => ?_) (fun hc => ?_)
    · replace h := jit_neg hc h
      refine x_iconst (pc := 46) hC dX10_tell_46 ?_
      exact x_iret (pc := 47) hC hR dX10_tell_47 (jr1 h) (jr2 h)
    · replace h := jit_pos hc h
      refine x_aloadA_n (pc := 22) hC dX10_tell_22 rfl rfl k_166 (by decide) ?_
      refine x_iload (pc := 23) hC dX10_tell_23 rfl ?_
      refine x_bipush (pc := 25) hC dX10_tell_25 rfl ?_
      refine x_iconst (pc := 27) hC dX10_tell_27 ?_
      obtain ⟨v9, e8, h⟩ := jbR_some h
      refine x_cS (pc := 28) hC ms_X10_69 (ok_X10_in hn e8) rfl (Nat.le_of_ble_eq_true rfl) (jRo0 C) (Nat.le_of_ble_eq_true rfl) dX10_tell_28 rfl ?_
      obtain ⟨k11, Hk11, h⟩ := jk_some (P := fun k11 => ∀ (s1_10 : Int), k11 s1_10 = some (rz, Mz) → jG C X n 5 0 0 39 [jA 166, jI l1, jI l2, jI l3, jI l4] [jI s1_10, jA 166] M6) h (by
        intro s1_10 h
        refine x_iconst (pc := 39) hC dX10_tell_39 ?_
        obtain ⟨v14, M13, e12, h⟩ := jbW_some h
        refine x_cV (pc := 40) hC mv_X10_268 (ok_X10_throwsIf hn e12) rfl (Nat.le_of_ble_eq_true rfl) k_166 rfl (by decide) (jRo0 C) (Nat.le_of_ble_eq_true rfl) dX10_tell_40 rfl ?_
        refine x_if_eq (tgt := 48) (pc := 43) hC dX10_tell_43 (by decide) (fun hc => ?_) (fun hc => ?_)
        · replace h := jit_pos hc h
          refine x_aloadA_n (pc := 48) hC dX10_tell_48 rfl rfl k_166 (by decide) ?_
          refine x_iconst (pc := 49) hC dX10_tell_49 ?_
          refine x_bipush (pc := 50) hC dX10_tell_50 rfl ?_
          refine x_iload_n (pc := 52) hC dX10_tell_52 rfl rfl ?_
          refine x_iload_n (pc := 53) hC dX10_tell_53 rfl rfl ?_
          obtain ⟨v16, e15, h⟩ := jbR_some h
          refine x_cS (pc := 54) hC ms_X10_199 (ok_X10_tryAt hn e15) rfl (Nat.le_of_ble_eq_true rfl) (jRo0 C) (Nat.le_of_ble_eq_true rfl) dX10_tell_54 rfl ?_
          refine x_imul (pc := 57) hC dX10_tell_57 ?_
          refine x_iadd (pc := 58) hC dX10_tell_58 ?_
          refine x_iload_n (pc := 59) hC dX10_tell_59 rfl rfl ?_
          refine x_iadd (pc := 60) hC dX10_tell_60 ?_
          refine x_iload (pc := 61) hC dX10_tell_61 rfl ?_
          obtain ⟨v19, M18, e17, h⟩ := jbW_some h
          refine x_cV (pc := 63) hC mv_X10_438 (ok_X10_tells hn e17) rfl (Nat.le_of_ble_eq_true rfl) k_166 rfl (by decide) (jRo0 C) (Nat.le_of_ble_eq_true rfl) dX10_tell_63 rfl ?_
          exact x_iret (pc := 66) hC hR dX10_tell_66 (jr1 h) (jr2 h)
        · replace h := jit_neg hc h
          refine x_iconst (pc := 46) hC dX10_tell_46 ?_
          exact x_iret (pc := 47) hC hR dX10_tell_47 (jr1 h) (jr2 h))
      refine x_if_ne (tgt := 38) (pc := 31) hC dX10_tell_31 (by decide) (fun hc => ?_) (fun hc => ?_)
      · replace h := jit_neg hc h
        refine x_iconst (pc := 38) hC dX10_tell_38 ?_
        exact Hk11 _ h
      · replace h := jit_pos hc h
        refine x_iconst (pc := 34) hC dX10_tell_34 ?_
        refine x_goto (tgt := 39) (pc := 35) hC dX10_tell_35 (by decide) ?_
        exact Hk11 _ h

set_option maxHeartbeats 4000000 in
set_option maxRecDepth 20000 in
theorem ok_X10_show {X : jX} {n : Nat} (hn : 179 ≤ n) {l1 : Int} {l2 : Int} {l3 : Int} {l4 : Int} {M : jM} {rz : Int} {Mz : jM} (h : f_X10_show l1 l2 l3 l4 M = some (rz, Mz)) : jCt X n yX10_show cX10_show 5 (some .int) 2 [jA 166, jI l1, jI l2, jI l3, jI l4] M (some (jI rz)) Mz := by
  refine jCt_of (own := RX10) (ls := [jA 166, jI l1, jI l2, jI l3, jI l4]) (by decide +kernel) rfl hn (Nat.le_of_ble_eq_true rfl) rfl ?_
  intro C hC hR
  unfold f_X10_show at h
  refine x_aloadA_n (pc := 0) hC dX10_show_0 rfl rfl k_166 (by decide) ?_
  refine x_iconst (pc := 1) hC dX10_show_1 ?_
  obtain ⟨M1, eM1, h⟩ := jlet_some h
  refine x_pi (pc := 2) (ji := 0) hC fl_X10_3 rfl ft10_0 k_166 dX10_show_2 eM1 ?_
  refine x_aloadA_n (pc := 5) hC dX10_show_5 rfl rfl k_166 (by decide) ?_
  refine x_iload_n (pc := 6) hC dX10_show_6 rfl rfl ?_
  obtain ⟨v4, M3, e2, h⟩ := jbW_some h
  refine x_cV (pc := 7) hC mv_X10_411 (ok_X10_noSkater hn e2) rfl (Nat.le_of_ble_eq_true rfl) k_166 rfl (by decide) (jRo0 C) (Nat.le_of_ble_eq_true rfl) dX10_show_7 rfl ?_
  refine x_if_ne (tgt := 53) (pc := 10) hC dX10_show_10 (by decide) (fun hc => ?_) (fun hc => ?_)
  · replace h := jit_neg hc h
    refine x_iconst (pc := 53) hC dX10_show_53 ?_
    exact x_iret (pc := 54) hC hR dX10_show_54 (jr1 h) (jr2 h)
  · replace h := jit_pos hc h
    refine x_aloadA_n (pc := 13) hC dX10_show_13 rfl rfl k_166 (by decide) ?_
    refine x_iload_n (pc := 14) hC dX10_show_14 rfl rfl ?_
    obtain ⟨v7, M6, e5, h⟩ := jbW_some h
    refine x_cV (pc := 15) hC mv_X10_426 (ok_X10_noComponent hn e5) rfl (Nat.le_of_ble_eq_true rfl) k_166 rfl (by decide) (jRo0 C) (Nat.le_of_ble_eq_true rfl) dX10_show_15 rfl ?_
    refine x_if_ne (tgt := 53) (pc := 18) hC dX10_show_18 (by decide) (fun hc => ?_) (fun hc => ?_)
    · replace h := jit_neg hc h
      refine x_iconst (pc := 53) hC dX10_show_53 ?_
      exact x_iret (pc := 54) hC hR dX10_show_54 (jr1 h) (jr2 h)
    · replace h := jit_pos hc h
      refine x_aloadA_n (pc := 21) hC dX10_show_21 rfl rfl k_166 (by decide) ?_
      refine x_iload_n (pc := 22) hC dX10_show_22 rfl rfl ?_
      obtain ⟨v10, M9, e8, h⟩ := jbW_some h
      refine x_cV (pc := 23) hC mv_X10_423 (ok_X10_noJudge hn e8) rfl (Nat.le_of_ble_eq_true rfl) k_166 rfl (by decide) (jRo0 C) (Nat.le_of_ble_eq_true rfl) dX10_show_23 rfl ?_
      refine x_if_ne (tgt := 53) (pc := 26) hC dX10_show_26 (by decide) (fun hc => ?_) (fun hc => ?_)
      · replace h := jit_neg hc h
        refine x_iconst (pc := 53) hC dX10_show_53 ?_
        exact x_iret (pc := 54) hC hR dX10_show_54 (jr1 h) (jr2 h)
      · replace h := jit_pos hc h
        refine x_aloadA_n (pc := 29) hC dX10_show_29 rfl rfl k_166 (by decide) ?_
        refine x_iload (pc := 30) hC dX10_show_30 rfl ?_
        refine x_iconst (pc := 32) hC dX10_show_32 ?_
        refine x_bipush (pc := 33) hC dX10_show_33 rfl ?_
        obtain ⟨v12, e11, h⟩ := jbR_some h
        refine x_cS (pc := 35) hC ms_X10_69 (ok_X10_in hn e11) rfl (Nat.le_of_ble_eq_true rfl) (jRo0 C) (Nat.le_of_ble_eq_true rfl) dX10_show_35 rfl ?_
        obtain ⟨k14, Hk14, h⟩ := jk_some (P := fun k14 => ∀ (s1_13 : Int), k14 s1_13 = some (rz, Mz) → jG C X n 5 0 0 46 [jA 166, jI l1, jI l2, jI l3, jI l4] [jI s1_13, jA 166] M9) h (by
          intro s1_13 h
          refine x_iconst (pc := 46) hC dX10_show_46 ?_
          obtain ⟨v17, M16, e15, h⟩ := jbW_some h
          refine x_cV (pc := 47) hC mv_X10_268 (ok_X10_throwsIf hn e15) rfl (Nat.le_of_ble_eq_true rfl) k_166 rfl (by decide) (jRo0 C) (Nat.le_of_ble_eq_true rfl) dX10_show_47 rfl ?_
          refine x_if_eq (tgt := 55) (pc := 50) hC dX10_show_50 (by decide) (fun hc => ?_) (fun hc => ?_)
          · replace h := jit_pos hc h
            refine x_aloadA_n (pc := 55) hC dX10_show_55 rfl rfl k_166 (by decide) ?_
            refine x_aloadA_n (pc := 56) hC dX10_show_56 rfl rfl k_166 (by decide) ?_
            refine x_iload_n (pc := 57) hC dX10_show_57 rfl rfl ?_
            refine x_iload_n (pc := 58) hC dX10_show_58 rfl rfl ?_
            refine x_iload_n (pc := 59) hC dX10_show_59 rfl rfl ?_
            obtain ⟨v19, e18, h⟩ := jbR_some h
            refine x_cV (pc := 60) hC mv_X10_319 (ok_X10_markAt hn e18) rfl (Nat.le_of_ble_eq_true rfl) k_166 rfl (by decide) (jRo0 C) (Nat.le_of_ble_eq_true rfl) dX10_show_60 rfl ?_
            refine x_iload (pc := 63) hC dX10_show_63 rfl ?_
            obtain ⟨v22, M21, e20, h⟩ := jbW_some h
            refine x_cV (pc := 65) hC mv_X10_438 (ok_X10_tells hn e20) rfl (Nat.le_of_ble_eq_true rfl) k_166 rfl (by decide) (jRo0 C) (Nat.le_of_ble_eq_true rfl) dX10_show_65 rfl ?_
            exact x_iret (pc := 68) hC hR dX10_show_68 (jr1 h) (jr2 h)
          · replace h := jit_neg hc h
            refine x_iconst (pc := 53) hC dX10_show_53 ?_
            exact x_iret (pc := 54) hC hR dX10_show_54 (jr1 h) (jr2 h))
        refine x_if_ne (tgt := 45) (pc := 38) hC dX10_show_38 (by decide) (fun hc => ?_) (fun hc => ?_)
        · replace h := jit_neg hc h
          refine x_iconst (pc := 45) hC dX10_show_45 ?_
          exact Hk14 _ h
        · replace h := jit_pos hc h
          refine x_iconst (pc := 41) hC dX10_show_41 ?_
          refine x_goto (tgt := 46) (pc := 42) hC dX10_show_42 (by decide) ?_
          exact Hk14 _ h

set_option maxHeartbeats 4000000 in
set_option maxRecDepth 20000 in
theorem ok_X10_call {X : jX} {n : Nat} (hn : 179 ≤ n) {l1 : Int} {l2 : Int} {l3 : Int} {l4 : Int} {M : jM} {rz : Int} {Mz : jM} (h : f_X10_call l1 l2 l3 l4 M = some (rz, Mz)) : jCt X n yX10_call cX10_call 6 (some .boolean) 3 [jA 166, jI l1, jI l2, jI l3, jI l4] M (some (jI rz)) Mz := by
  refine jCt_of (own := RX10) (ls := [jA 166, jI l1, jI l2, jI l3, jI l4, jN]) (by decide +kernel) rfl hn (Nat.le_of_ble_eq_true rfl) rfl ?_
  intro C hC hR
  unfold f_X10_call at h
  refine x_aloadA_n (pc := 0) hC dX10_call_0 rfl rfl k_166 (by decide) ?_
  refine x_iconst (pc := 1) hC dX10_call_1 ?_
  obtain ⟨M1, eM1, h⟩ := jlet_some h
  refine x_pi (pc := 2) (ji := 0) hC fl_X10_3 rfl ft10_0 k_166 dX10_call_2 eM1 ?_
  refine x_aloadA_n (pc := 5) hC dX10_call_5 rfl rfl k_166 (by decide) ?_
  refine x_iload_n (pc := 6) hC dX10_call_6 rfl rfl ?_
  refine x_iload_n (pc := 7) hC dX10_call_7 rfl rfl ?_
  obtain ⟨v4, M3, e2, h⟩ := jbW_some h
  refine x_cV (pc := 8) hC mv_X10_417 (ok_X10_noTry hn e2) rfl (Nat.le_of_ble_eq_true rfl) k_166 rfl (by decide) (jRo0 C) (Nat.le_of_ble_eq_true rfl) dX10_call_8 rfl ?_
  refine x_if_ne (tgt := 36) (pc := 11) hC dX10_call_11 (by decide) (fun hc => ?_) (fun hc => ?_)
  · replace h := jit_neg hc h
    refine x_iconst (pc := 36) hC dX10_call_36 ?_
    exact x_zret (pc := 37) hC hR dX10_call_37 (Or.inl jw0) (jr1 h) (jr2 h)
  · replace h := jit_pos hc h
    refine x_aloadA_n (pc := 14) hC dX10_call_14 rfl rfl k_166 (by decide) ?_
    refine x_iload_n (pc := 15) hC dX10_call_15 rfl rfl ?_
    refine x_iconst (pc := 16) hC dX10_call_16 ?_
    refine x_iconst (pc := 17) hC dX10_call_17 ?_
    obtain ⟨v6, e5, h⟩ := jbR_some h
    refine x_cS (pc := 18) hC ms_X10_69 (ok_X10_in hn e5) rfl (Nat.le_of_ble_eq_true rfl) (jRo0 C) (Nat.le_of_ble_eq_true rfl) dX10_call_18 rfl ?_
    obtain ⟨k8, Hk8, h⟩ := jk_some (P := fun k8 => ∀ (s1_7 : Int), k8 s1_7 = some (rz, Mz) → jG C X n 6 0 0 29 [jA 166, jI l1, jI l2, jI l3, jI l4, jN] [jI s1_7, jA 166] M3) h (by
      intro s1_7 h
      refine x_iconst (pc := 29) hC dX10_call_29 ?_
      obtain ⟨v11, M10, e9, h⟩ := jbW_some h
      refine x_cV (pc := 30) hC mv_X10_268 (ok_X10_throwsIf hn e9) rfl (Nat.le_of_ble_eq_true rfl) k_166 rfl (by decide) (jRo0 C) (Nat.le_of_ble_eq_true rfl) dX10_call_30 rfl ?_
      refine x_if_eq (tgt := 38) (pc := 33) hC dX10_call_33 (by decide) (fun hc => ?_) (fun hc => ?_)
      · replace h := jit_pos hc h
        refine x_sipush (pc := 38) hC dX10_call_38 rfl ?_
        refine x_iload_n (pc := 41) hC dX10_call_41 rfl rfl ?_
        refine x_iload_n (pc := 42) hC dX10_call_42 rfl rfl ?_
        obtain ⟨v13, e12, h⟩ := jbR_some h
        refine x_cS (pc := 43) hC ms_X10_199 (ok_X10_tryAt hn e12) rfl (Nat.le_of_ble_eq_true rfl) (jRo0 C) (Nat.le_of_ble_eq_true rfl) dX10_call_43 rfl ?_
        refine x_iadd (pc := 46) hC dX10_call_46 ?_
        obtain ⟨l5_14, el5_14, h⟩ := jlet_some h
        refine x_istore (ls2 := [jA 166, jI l1, jI l2, jI l3, jI l4, jI l5_14]) (pc := 47) hC dX10_call_47 (by decide) rfl el5_14 rfl ?_
        refine x_aloadA_n (pc := 49) hC dX10_call_49 rfl rfl k_166 (by decide) ?_
        refine x_iload (pc := 50) hC dX10_call_50 rfl ?_
        refine x_iload (pc := 52) hC dX10_call_52 rfl ?_
        obtain ⟨k16, Hk16, h⟩ := jk_some (P := fun k16 => ∀ (s2_15 : Int), k16 s2_15 = some (rz, Mz) → jG C X n 6 0 0 84 [jA 166, jI l1, jI l2, jI l3, jI l4, jI l5_14] [jI s2_15, jI l5_14, jA 166] M10) h (by
          intro s2_15 h
          obtain ⟨v19, M18, e17, h⟩ := jbW_some h
          refine x_cV (pc := 84) hC mv_X10_438 (ok_X10_tells hn e17) rfl (Nat.le_of_ble_eq_true rfl) k_166 rfl (by decide) (jRo0 C) (Nat.le_of_ble_eq_true rfl) dX10_call_84 rfl ?_
          refine x_iload_n (pc := 87) hC dX10_call_87 rfl rfl ?_
          obtain ⟨v21, e20, h⟩ := jbR_some h
          refine x_cS (pc := 88) hC ms_X10_212 (ok_X10_isIn hn e20) rfl (Nat.le_of_ble_eq_true rfl) (jRo0 C) (Nat.le_of_ble_eq_true rfl) dX10_call_88 rfl ?_
          obtain ⟨hz22, h⟩ := jck_some h
          exact x_zret (pc := 91) hC hR dX10_call_91 hz22 (jr1 h) (jr2 h))
        refine x_if_eq (tgt := 71) (pc := 54) hC dX10_call_54 (by decide) (fun hc => ?_) (fun hc => ?_)
        · replace h := jit_pos hc h
          refine x_aloadA_n (pc := 71) hC dX10_call_71 rfl rfl k_166 (by decide) ?_
          refine x_gf (pc := 72) (b := 170) hC fl_X10_84 ft10_10 k_166 (by decide) (off := 4) (by decide +kernel) (by decide) dX10_call_72 ?_
          refine x_iload (pc := 75) hC dX10_call_75 rfl ?_
          obtain ⟨hb23, h⟩ := jck_some h
          refine x_iald (pc := 77) hC k_170 (by rw [l_170]; exact hb23) dX10_call_77 ?_
          refine x_iconst (pc := 78) hC dX10_call_78 ?_
          refine x_iload_n (pc := 79) hC dX10_call_79 rfl rfl ?_
          refine x_ishl (pc := 80) hC dX10_call_80 ?_
          refine x_iconst (pc := 81) hC dX10_call_81 ?_
          refine x_ixor (pc := 82) hC dX10_call_82 ?_
          refine x_iand (pc := 83) hC dX10_call_83 ?_
          exact Hk16 _ h
        · replace h := jit_neg hc h
          refine x_aloadA_n (pc := 57) hC dX10_call_57 rfl rfl k_166 (by decide) ?_
          refine x_gf (pc := 58) (b := 170) hC fl_X10_84 ft10_10 k_166 (by decide) (off := 4) (by decide +kernel) (by decide) dX10_call_58 ?_
          refine x_iload (pc := 61) hC dX10_call_61 rfl ?_
          obtain ⟨hb24, h⟩ := jck_some h
          refine x_iald (pc := 63) hC k_170 (by rw [l_170]; exact hb24) dX10_call_63 ?_
          refine x_iconst (pc := 64) hC dX10_call_64 ?_
          refine x_iload_n (pc := 65) hC dX10_call_65 rfl rfl ?_
          refine x_ishl (pc := 66) hC dX10_call_66 ?_
          refine x_ior (pc := 67) hC dX10_call_67 ?_
          refine x_goto (tgt := 84) (pc := 68) hC dX10_call_68 (by decide) ?_
          exact Hk16 _ h
      · replace h := jit_neg hc h
        refine x_iconst (pc := 36) hC dX10_call_36 ?_
        exact x_zret (pc := 37) hC hR dX10_call_37 (Or.inl jw0) (jr1 h) (jr2 h))
    refine x_if_ne (tgt := 28) (pc := 21) hC dX10_call_21 (by decide) (fun hc => ?_) (fun hc => ?_)
    · replace h := jit_neg hc h
      refine x_iconst (pc := 28) hC dX10_call_28 ?_
      exact Hk8 _ h
    · replace h := jit_pos hc h
      refine x_iconst (pc := 24) hC dX10_call_24 ?_
      refine x_goto (tgt := 29) (pc := 25) hC dX10_call_25 (by decide) ?_
      exact Hk8 _ h

set_option maxHeartbeats 4000000 in
set_option maxRecDepth 20000 in
theorem ok_X10_base {X : jX} {n : Nat} (hn : 179 ≤ n) {l1 : Int} {l2 : Int} {M : jM} {rz : Int} {Mz : jM} (h : f_X10_base l1 l2 M = some (rz, Mz)) : jCt X n yX10_base cX10_base 3 (some .int) 2 [jA 166, jI l1, jI l2] M (some (jI rz)) Mz := by
  refine jCt_of (own := RX10) (ls := [jA 166, jI l1, jI l2]) (by decide +kernel) rfl hn (Nat.le_of_ble_eq_true rfl) rfl ?_
  intro C hC hR
  unfold f_X10_base at h
  refine x_aloadA_n (pc := 0) hC dX10_base_0 rfl rfl k_166 (by decide) ?_
  refine x_iconst (pc := 1) hC dX10_base_1 ?_
  obtain ⟨M1, eM1, h⟩ := jlet_some h
  refine x_pi (pc := 2) (ji := 0) hC fl_X10_3 rfl ft10_0 k_166 dX10_base_2 eM1 ?_
  refine x_aloadA_n (pc := 5) hC dX10_base_5 rfl rfl k_166 (by decide) ?_
  refine x_iload_n (pc := 6) hC dX10_base_6 rfl rfl ?_
  obtain ⟨v4, M3, e2, h⟩ := jbW_some h
  refine x_cV (pc := 7) hC mv_X10_414 (ok_X10_noElement hn e2) rfl (Nat.le_of_ble_eq_true rfl) k_166 rfl (by decide) (jRo0 C) (Nat.le_of_ble_eq_true rfl) dX10_base_7 rfl ?_
  refine x_if_ne (tgt := 37) (pc := 10) hC dX10_base_10 (by decide) (fun hc => ?_) (fun hc => ?_)
  · replace h := jit_neg hc h
    refine x_iconst (pc := 37) hC dX10_base_37 ?_
    exact x_iret (pc := 38) hC hR dX10_base_38 (jr1 h) (jr2 h)
  · replace h := jit_pos hc h
    refine x_aloadA_n (pc := 13) hC dX10_base_13 rfl rfl k_166 (by decide) ?_
    refine x_iload_n (pc := 14) hC dX10_base_14 rfl rfl ?_
    refine x_iconst (pc := 15) hC dX10_base_15 ?_
    refine x_sipush (pc := 16) hC dX10_base_16 rfl ?_
    obtain ⟨v6, e5, h⟩ := jbR_some h
    refine x_cS (pc := 19) hC ms_X10_69 (ok_X10_in hn e5) rfl (Nat.le_of_ble_eq_true rfl) (jRo0 C) (Nat.le_of_ble_eq_true rfl) dX10_base_19 rfl ?_
    obtain ⟨k8, Hk8, h⟩ := jk_some (P := fun k8 => ∀ (s1_7 : Int), k8 s1_7 = some (rz, Mz) → jG C X n 3 0 0 30 [jA 166, jI l1, jI l2] [jI s1_7, jA 166] M3) h (by
      intro s1_7 h
      refine x_iconst (pc := 30) hC dX10_base_30 ?_
      obtain ⟨v11, M10, e9, h⟩ := jbW_some h
      refine x_cV (pc := 31) hC mv_X10_268 (ok_X10_throwsIf hn e9) rfl (Nat.le_of_ble_eq_true rfl) k_166 rfl (by decide) (jRo0 C) (Nat.le_of_ble_eq_true rfl) dX10_base_31 rfl ?_
      refine x_if_eq (tgt := 39) (pc := 34) hC dX10_base_34 (by decide) (fun hc => ?_) (fun hc => ?_)
      · replace h := jit_pos hc h
        refine x_aloadA_n (pc := 39) hC dX10_base_39 rfl rfl k_166 (by decide) ?_
        refine x_sipush (pc := 40) hC dX10_base_40 rfl ?_
        refine x_iload_n (pc := 43) hC dX10_base_43 rfl rfl ?_
        refine x_iadd (pc := 44) hC dX10_base_44 ?_
        refine x_iload_n (pc := 45) hC dX10_base_45 rfl rfl ?_
        obtain ⟨v14, M13, e12, h⟩ := jbW_some h
        refine x_cV (pc := 46) hC mv_X10_438 (ok_X10_tells hn e12) rfl (Nat.le_of_ble_eq_true rfl) k_166 rfl (by decide) (jRo0 C) (Nat.le_of_ble_eq_true rfl) dX10_base_46 rfl ?_
        exact x_iret (pc := 49) hC hR dX10_base_49 (jr1 h) (jr2 h)
      · replace h := jit_neg hc h
        refine x_iconst (pc := 37) hC dX10_base_37 ?_
        exact x_iret (pc := 38) hC hR dX10_base_38 (jr1 h) (jr2 h))
    refine x_if_ne (tgt := 29) (pc := 22) hC dX10_base_22 (by decide) (fun hc => ?_) (fun hc => ?_)
    · replace h := jit_neg hc h
      refine x_iconst (pc := 29) hC dX10_base_29 ?_
      exact Hk8 _ h
    · replace h := jit_pos hc h
      refine x_iconst (pc := 25) hC dX10_base_25 ?_
      refine x_goto (tgt := 30) (pc := 26) hC dX10_base_26 (by decide) ?_
      exact Hk8 _ h

set_option maxHeartbeats 4000000 in
set_option maxRecDepth 20000 in
theorem ok_X10_set {X : jX} {n : Nat} (hn : 179 ≤ n) {l1 : Int} {l2 : Int} {M : jM} {rz : Int} {Mz : jM} (h : f_X10_set l1 l2 M = some (rz, Mz)) : jCt X n yX10_set cX10_set 4 (some .int) 2 [jA 166, jI l1, jI l2] M (some (jI rz)) Mz := by
  refine jCt_of (own := RX10) (ls := [jA 166, jI l1, jI l2, jN]) (by decide +kernel) rfl hn (Nat.le_of_ble_eq_true rfl) rfl ?_
  intro C hC hR
  unfold f_X10_set at h
  refine x_aloadA_n (pc := 0) hC dX10_set_0 rfl rfl k_166 (by decide) ?_
  refine x_iconst (pc := 1) hC dX10_set_1 ?_
  obtain ⟨M1, eM1, h⟩ := jlet_some h
  refine x_pi (pc := 2) (ji := 0) hC fl_X10_3 rfl ft10_0 k_166 dX10_set_2 eM1 ?_
  refine x_aloadA_n (pc := 5) hC dX10_set_5 rfl rfl k_166 (by decide) ?_
  refine x_iload_n (pc := 6) hC dX10_set_6 rfl rfl ?_
  refine x_iconst (pc := 7) hC dX10_set_7 ?_
  refine x_bipush (pc := 8) hC dX10_set_8 rfl ?_
  obtain ⟨v3, e2, h⟩ := jbR_some h
  refine x_cS (pc := 10) hC ms_X10_69 (ok_X10_in hn e2) rfl (Nat.le_of_ble_eq_true rfl) (jRo0 C) (Nat.le_of_ble_eq_true rfl) dX10_set_10 rfl ?_
  obtain ⟨k5, Hk5, h⟩ := jk_some (P := fun k5 => ∀ (s1_4 : Int), k5 s1_4 = some (rz, Mz) → jG C X n 4 0 0 21 [jA 166, jI l1, jI l2, jN] [jI s1_4, jA 166] M1) h (by
    intro s1_4 h
    refine x_iconst (pc := 21) hC dX10_set_21 ?_
    obtain ⟨v8, M7, e6, h⟩ := jbW_some h
    refine x_cV (pc := 22) hC mv_X10_268 (ok_X10_throwsIf hn e6) rfl (Nat.le_of_ble_eq_true rfl) k_166 rfl (by decide) (jRo0 C) (Nat.le_of_ble_eq_true rfl) dX10_set_22 rfl ?_
    refine x_if_eq (tgt := 30) (pc := 25) hC dX10_set_25 (by decide) (fun hc => ?_) (fun hc => ?_)
    · replace h := jit_pos hc h
      refine x_iload_n (pc := 30) hC dX10_set_30 rfl rfl ?_
      obtain ⟨k10, Hk10, h⟩ := jk_some (P := fun k10 => ∀ (s0_9 : Int), k10 s0_9 = some (rz, Mz) → jG C X n 4 0 0 67 [jA 166, jI l1, jI l2, jN] [jI s0_9] M7) h (by
        intro s0_9 h
        refine x_istore_n (ls2 := [jA 166, jI l1, jI l2, jI s0_9]) (pc := 67) hC dX10_set_67 rfl (by decide) rfl rfl rfl ?_
        refine x_aloadA_n (pc := 68) hC dX10_set_68 rfl rfl k_166 (by decide) ?_
        refine x_iload_n (pc := 69) hC dX10_set_69 rfl rfl ?_
        refine x_iload_n (pc := 70) hC dX10_set_70 rfl rfl ?_
        refine x_iconst (pc := 71) hC dX10_set_71 ?_
        obtain ⟨k12, Hk12, h⟩ := jk_some (P := fun k12 => ∀ (s2_11 : Int), k12 s2_11 = some (rz, Mz) → jG C X n 4 0 0 80 [jA 166, jI l1, jI l2, jI s0_9] [jI s2_11, jI l2, jA 166] M7) h (by
          intro s2_11 h
          refine x_iload_n (pc := 80) hC dX10_set_80 rfl rfl ?_
          obtain ⟨v14, e13, h⟩ := jbR_some h
          refine x_cS (pc := 81) hC ms_X10_69 (ok_X10_in hn e13) rfl (Nat.le_of_ble_eq_true rfl) (jRo0 C) (Nat.le_of_ble_eq_true rfl) dX10_set_81 rfl ?_
          obtain ⟨k16, Hk16, h⟩ := jk_some (P := fun k16 => ∀ (s1_15 : Int), k16 s1_15 = some (rz, Mz) → jG C X n 4 0 0 92 [jA 166, jI l1, jI l2, jI s0_9] [jI s1_15, jA 166] M7) h (by
            intro s1_15 h
            refine x_iconst (pc := 92) hC dX10_set_92 ?_
            obtain ⟨v19, M18, e17, h⟩ := jbW_some h
            refine x_cV (pc := 93) hC mv_X10_268 (ok_X10_throwsIf hn e17) rfl (Nat.le_of_ble_eq_true rfl) k_166 rfl (by decide) (jRo0 C) (Nat.le_of_ble_eq_true rfl) dX10_set_93 rfl ?_
            refine x_if_eq (tgt := 101) (pc := 96) hC dX10_set_96 (by decide) (fun hc => ?_) (fun hc => ?_)
            · replace h := jit_pos hc h
              refine x_aloadA_n (pc := 101) hC dX10_set_101 rfl rfl k_166 (by decide) ?_
              refine x_sipush (pc := 102) hC dX10_set_102 rfl ?_
              refine x_iload_n (pc := 105) hC dX10_set_105 rfl rfl ?_
              refine x_iadd (pc := 106) hC dX10_set_106 ?_
              refine x_iload_n (pc := 107) hC dX10_set_107 rfl rfl ?_
              obtain ⟨v22, M21, e20, h⟩ := jbW_some h
              refine x_cV (pc := 108) hC mv_X10_438 (ok_X10_tells hn e20) rfl (Nat.le_of_ble_eq_true rfl) k_166 rfl (by decide) (jRo0 C) (Nat.le_of_ble_eq_true rfl) dX10_set_108 rfl ?_
              exact x_iret (pc := 111) hC hR dX10_set_111 (jr1 h) (jr2 h)
            · replace h := jit_neg hc h
              refine x_iconst (pc := 99) hC dX10_set_99 ?_
              exact x_iret (pc := 100) hC hR dX10_set_100 (jr1 h) (jr2 h))
          refine x_if_ne (tgt := 91) (pc := 84) hC dX10_set_84 (by decide) (fun hc => ?_) (fun hc => ?_)
          · replace h := jit_neg hc h
            refine x_iconst (pc := 91) hC dX10_set_91 ?_
            exact Hk16 _ h
          · replace h := jit_pos hc h
            refine x_iconst (pc := 87) hC dX10_set_87 ?_
            refine x_goto (tgt := 92) (pc := 88) hC dX10_set_88 (by decide) ?_
            exact Hk16 _ h)
        refine x_icmp_ne (tgt := 79) (pc := 72) hC dX10_set_72 (by decide) (fun hc => ?_) (fun hc => ?_)
        · replace h := jit_neg hc h
          refine x_iconst (pc := 79) hC dX10_set_79 ?_
          exact Hk12 _ h
        · replace h := jit_pos hc h
          refine x_iconst (pc := 75) hC dX10_set_75 ?_
          refine x_goto (tgt := 80) (pc := 76) hC dX10_set_76 (by decide) ?_
          exact Hk12 _ h)
      obtain ⟨k23, Hk23, h⟩ := jk_some (P := fun k23 => k23 = some (rz, Mz) → jG C X n 4 0 0 39 [jA 166, jI l1, jI l2, jN] [] M7) h (by
        intro h
        refine x_iconst (pc := 39) hC dX10_set_39 ?_
        refine x_goto (tgt := 67) (pc := 40) hC dX10_set_40 (by decide) ?_
        exact Hk10 _ h)
      refine x_if_eq (tgt := 39) (pc := 31) hC dX10_set_31 (by decide) (fun hc => ?_) (fun hc => ?_)
      · replace h := jit_pos hc h
        exact Hk23 h
      · replace h := jit_neg hc h
        refine x_iload_n (pc := 34) hC dX10_set_34 rfl rfl ?_
        refine x_iconst (pc := 35) hC dX10_set_35 ?_
        refine x_icmp_ne (tgt := 43) (pc := 36) hC dX10_set_36 (by decide) (fun hc => ?_) (fun hc => ?_)
        · replace h := jit_neg hc h
          refine x_iload_n (pc := 43) hC dX10_set_43 rfl rfl ?_
          refine x_iconst (pc := 44) hC dX10_set_44 ?_
          refine x_icmp_ne (tgt := 54) (pc := 45) hC dX10_set_45 (by decide) (fun hc => ?_) (fun hc => ?_)
          · replace h := jit_neg hc h
            refine x_iload_n (pc := 54) hC dX10_set_54 rfl rfl ?_
            refine x_iconst (pc := 55) hC dX10_set_55 ?_
            refine x_icmp_ne (tgt := 64) (pc := 56) hC dX10_set_56 (by decide) (fun hc => ?_) (fun hc => ?_)
            · replace h := jit_neg hc h
              refine x_sipush (pc := 64) hC dX10_set_64 rfl ?_
              exact Hk10 _ h
            · replace h := jit_pos hc h
              refine x_bipush (pc := 59) hC dX10_set_59 rfl ?_
              refine x_goto (tgt := 67) (pc := 61) hC dX10_set_61 (by decide) ?_
              exact Hk10 _ h
          · replace h := jit_pos hc h
            refine x_sipush (pc := 48) hC dX10_set_48 rfl ?_
            refine x_goto (tgt := 67) (pc := 51) hC dX10_set_51 (by decide) ?_
            exact Hk10 _ h
        · replace h := jit_pos hc h
          exact Hk23 h
    · replace h := jit_neg hc h
      refine x_iconst (pc := 28) hC dX10_set_28 ?_
      exact x_iret (pc := 29) hC hR dX10_set_29 (jr1 h) (jr2 h))
  refine x_if_ne (tgt := 20) (pc := 13) hC dX10_set_13 (by decide) (fun hc => ?_) (fun hc => ?_)
  · replace h := jit_neg hc h
    refine x_iconst (pc := 20) hC dX10_set_20 ?_
    exact Hk5 _ h
  · replace h := jit_pos hc h
    refine x_iconst (pc := 16) hC dX10_set_16 ?_
    refine x_goto (tgt := 21) (pc := 17) hC dX10_set_17 (by decide) ?_
    exact Hk5 _ h

set_option maxHeartbeats 4000000 in
set_option maxRecDepth 20000 in
theorem ok_X10_scratch {X : jX} {n : Nat} (hn : 179 ≤ n) {l1 : Int} {l2 : Int} {M : jM} {rz : Int} {Mz : jM} (h : f_X10_scratch l1 l2 M = some (rz, Mz)) : jCt X n yX10_scratch cX10_scratch 4 (some .int) 4 [jA 166, jI l1, jI l2] M (some (jI rz)) Mz := by
  refine jCt_of (own := RX10) (ls := [jA 166, jI l1, jI l2, jN]) (by decide +kernel) rfl hn (Nat.le_of_ble_eq_true rfl) rfl ?_
  intro C hC hR
  unfold f_X10_scratch at h
  refine x_aloadA_n (pc := 0) hC dX10_scratch_0 rfl rfl k_166 (by decide) ?_
  refine x_iconst (pc := 1) hC dX10_scratch_1 ?_
  obtain ⟨M1, eM1, h⟩ := jlet_some h
  refine x_pi (pc := 2) (ji := 0) hC fl_X10_3 rfl ft10_0 k_166 dX10_scratch_2 eM1 ?_
  refine x_aloadA_n (pc := 5) hC dX10_scratch_5 rfl rfl k_166 (by decide) ?_
  refine x_iload_n (pc := 6) hC dX10_scratch_6 rfl rfl ?_
  refine x_iload_n (pc := 7) hC dX10_scratch_7 rfl rfl ?_
  obtain ⟨v4, M3, e2, h⟩ := jbW_some h
  refine x_cV (pc := 8) hC mv_X10_417 (ok_X10_noTry hn e2) rfl (Nat.le_of_ble_eq_true rfl) k_166 rfl (by decide) (jRo0 C) (Nat.le_of_ble_eq_true rfl) dX10_scratch_8 rfl ?_
  refine x_if_eq (tgt := 16) (pc := 11) hC dX10_scratch_11 (by decide) (fun hc => ?_) (fun hc => ?_)
  · replace h := jit_pos hc h
    refine x_aloadA_n (pc := 16) hC dX10_scratch_16 rfl rfl k_166 (by decide) ?_
    refine x_sipush (pc := 17) hC dX10_scratch_17 rfl ?_
    refine x_iload_n (pc := 20) hC dX10_scratch_20 rfl rfl ?_
    refine x_iload_n (pc := 21) hC dX10_scratch_21 rfl rfl ?_
    obtain ⟨v6, e5, h⟩ := jbR_some h
    refine x_cS (pc := 22) hC ms_X10_199 (ok_X10_tryAt hn e5) rfl (Nat.le_of_ble_eq_true rfl) (jRo0 C) (Nat.le_of_ble_eq_true rfl) dX10_scratch_22 rfl ?_
    refine x_iadd (pc := 25) hC dX10_scratch_25 ?_
    refine x_iconst (pc := 26) hC dX10_scratch_26 ?_
    obtain ⟨v9, M8, e7, h⟩ := jbW_some h
    refine x_cV (pc := 27) hC mv_X10_438 (ok_X10_tells hn e7) rfl (Nat.le_of_ble_eq_true rfl) k_166 rfl (by decide) (jRo0 C) (Nat.le_of_ble_eq_true rfl) dX10_scratch_27 rfl ?_
    refine x_istore_n (ls2 := [jA 166, jI l1, jI l2, jI v9]) (pc := 30) hC dX10_scratch_30 rfl (by decide) rfl rfl rfl ?_
    refine x_aloadA_n (pc := 31) hC dX10_scratch_31 rfl rfl k_166 (by decide) ?_
    refine x_iload_n (pc := 32) hC dX10_scratch_32 rfl rfl ?_
    refine x_iconst (pc := 33) hC dX10_scratch_33 ?_
    obtain ⟨v11, e10, h⟩ := jbR_some h
    refine x_cV (pc := 34) hC mv_X10_358 (ok_X10_triesOf hn e10) rfl (Nat.le_of_ble_eq_true rfl) k_166 rfl (by decide) (jRo0 C) (Nat.le_of_ble_eq_true rfl) dX10_scratch_34 rfl ?_
    refine x_iload_n (pc := 37) hC dX10_scratch_37 rfl rfl ?_
    refine x_iadd (pc := 38) hC dX10_scratch_38 ?_
    exact x_iret (pc := 39) hC hR dX10_scratch_39 (jr1 h) (jr2 h)
  · replace h := jit_neg hc h
    refine x_iconst (pc := 14) hC dX10_scratch_14 ?_
    exact x_iret (pc := 15) hC hR dX10_scratch_15 (jr1 h) (jr2 h)

set_option maxHeartbeats 4000000 in
set_option maxRecDepth 20000 in
theorem ok_X10_undo {X : jX} {n : Nat} (hn : 179 ≤ n) {M : jM} {rz : Int} {Mz : jM} (h : f_X10_undo M = some (rz, Mz)) : jCt X n yX10_undo cX10_undo 2 (some .int) 0 [jA 166] M (some (jI rz)) Mz := by
  refine jCt_of (own := RX10) (ls := [jA 166, jN]) (by decide +kernel) rfl hn (Nat.le_of_ble_eq_true rfl) rfl ?_
  intro C hC hR
  unfold f_X10_undo at h
  refine x_aloadA_n (pc := 0) hC dX10_undo_0 rfl rfl k_166 (by decide) ?_
  refine x_iconst (pc := 1) hC dX10_undo_1 ?_
  obtain ⟨M1, eM1, h⟩ := jlet_some h
  refine x_pi (pc := 2) (ji := 0) hC fl_X10_3 rfl ft10_0 k_166 dX10_undo_2 eM1 ?_
  refine x_aloadA_n (pc := 5) hC dX10_undo_5 rfl rfl k_166 (by decide) ?_
  refine x_gi (pc := 6) (ji := 29) hC fl_X10_272 rfl fn10_29 k_166 dX10_undo_6 ?_
  refine x_if_ne (tgt := 14) (pc := 9) hC dX10_undo_9 (by decide) (fun hc => ?_) (fun hc => ?_)
  · replace h := jit_neg hc h
    refine x_aloadA_n (pc := 14) hC dX10_undo_14 rfl rfl k_166 (by decide) ?_
    refine x_dup (pc := 15) hC dX10_undo_15 (show (2 : Nat) ≠ 3 by decide) ?_
    refine x_gi (pc := 16) (ji := 29) hC fl_X10_272 rfl fn10_29 k_166 dX10_undo_16 ?_
    refine x_iconst (pc := 19) hC dX10_undo_19 ?_
    refine x_isub (pc := 20) hC dX10_undo_20 ?_
    obtain ⟨M2, eM2, h⟩ := jlet_some h
    refine x_pi (pc := 21) (ji := 29) hC fl_X10_272 rfl ft10_29 k_166 dX10_undo_21 eM2 ?_
    refine x_iconst (pc := 24) hC dX10_undo_24 ?_
    refine x_istore_n (ls2 := [jA 166, jI 0]) (pc := 25) hC dX10_undo_25 rfl (by decide) rfl rfl rfl ?_
    refine jlp2_ind (P := fun (l1_3 : Int) (M4 : jM) => jG C X n 2 0 0 26 [jA 166, jI l1_3] [] M4) ?_ _ _ _ h
    intro self5 l1_3 M4 Hself5 h
    refine x_iload_n (pc := 26) hC dX10_undo_26 rfl rfl ?_
    refine x_sipush (pc := 27) hC dX10_undo_27 rfl ?_
    refine x_icmp_ge (tgt := 60) (pc := 30) hC dX10_undo_30 (by decide) (fun hc => ?_) (fun hc => ?_)
    · replace h := jit_pos hc h
      refine x_aloadA_n (pc := 60) hC dX10_undo_60 rfl rfl k_166 (by decide) ?_
      refine x_gi (pc := 61) (ji := 29) hC fl_X10_272 rfl fn10_29 k_166 dX10_undo_61 ?_
      exact x_iret (pc := 64) hC hR dX10_undo_64 (jr1 h) (jr2 h)
    · replace h := jit_neg hc h
      refine x_aloadA_n (pc := 33) hC dX10_undo_33 rfl rfl k_166 (by decide) ?_
      refine x_gf (pc := 34) (b := 170) hC fl_X10_84 ft10_10 k_166 (by decide) (off := 4) (by decide +kernel) (by decide) dX10_undo_34 ?_
      refine x_iload_n (pc := 37) hC dX10_undo_37 rfl rfl ?_
      refine x_aloadA_n (pc := 38) hC dX10_undo_38 rfl rfl k_166 (by decide) ?_
      refine x_gf (pc := 39) (b := 178) hC fl_X10_109 ft10_28 k_166 (by decide) (off := 12) (by decide +kernel) (by decide) dX10_undo_39 ?_
      refine x_sipush (pc := 42) hC dX10_undo_42 rfl ?_
      refine x_aloadA_n (pc := 45) hC dX10_undo_45 rfl rfl k_166 (by decide) ?_
      refine x_gi (pc := 46) (ji := 29) hC fl_X10_272 rfl fn10_29 k_166 dX10_undo_46 ?_
      refine x_imul (pc := 49) hC dX10_undo_49 ?_
      refine x_iload_n (pc := 50) hC dX10_undo_50 rfl rfl ?_
      refine x_iadd (pc := 51) hC dX10_undo_51 ?_
      obtain ⟨hb6, h⟩ := jck_some h
      refine x_iald (pc := 52) hC k_178 (by rw [l_178]; exact hb6) dX10_undo_52 ?_
      obtain ⟨hb7, h⟩ := jck_some h
      obtain ⟨M8, eM8, h⟩ := jlet_some h
      refine x_iast (pc := 53) hC k_170 (by rw [l_170]; exact hb7) dX10_undo_53 eM8 ?_
      obtain ⟨l1_9, el1_9, h⟩ := jlet_some h
      refine x_iinc (ls2 := [jA 166, jI l1_9]) (pc := 54) hC dX10_undo_54 rfl (by decide) rfl el1_9 rfl ?_
      refine x_goto (tgt := 26) (pc := 57) hC dX10_undo_57 (by decide) ?_
      exact Hself5 _ _ h
  · replace h := jit_pos hc h
    refine x_iconst (pc := 12) hC dX10_undo_12 ?_
    exact x_iret (pc := 13) hC hR dX10_undo_13 (jr1 h) (jr2 h)

set_option maxHeartbeats 4000000 in
set_option maxRecDepth 20000 in
theorem ok_X10_biasOf {X : jX} {n : Nat} (hn : 179 ≤ n) {l1 : Int} {M : jM} {rz : Int} {Mz : jM} (h : f_X10_biasOf l1 M = some (rz, Mz)) : jCt X n yX10_biasOf cX10_biasOf 5 (some .int) 3 [jA 166, jI l1] M (some (jI rz)) Mz := by
  refine jCt_of (own := RX10) (ls := [jA 166, jI l1, jN, jN, jN]) (by decide +kernel) rfl hn (Nat.le_of_ble_eq_true rfl) rfl ?_
  intro C hC hR
  unfold f_X10_biasOf at h
  refine x_iconst (pc := 0) hC dX10_biasOf_0 ?_
  refine x_istore_n (ls2 := [jA 166, jI l1, jI 0, jN, jN]) (pc := 1) hC dX10_biasOf_1 rfl (by decide) rfl rfl rfl ?_
  refine x_iconst (pc := 2) hC dX10_biasOf_2 ?_
  refine x_istore_n (ls2 := [jA 166, jI l1, jI 0, jI 0, jN]) (pc := 3) hC dX10_biasOf_3 rfl (by decide) rfl rfl rfl ?_
  refine jlp3_ind (P := fun (l2_1 : Int) (l3_2 : Int) (M3 : jM) => jG C X n 5 0 0 4 [jA 166, jI l1, jI l2_1, jI l3_2, jN] [] M3) ?_ _ _ _ _ h
  intro self4 l2_1 l3_2 M3 Hself4 h
  refine x_iload_n (pc := 4) hC dX10_biasOf_4 rfl rfl ?_
  refine x_aloadA_n (pc := 5) hC dX10_biasOf_5 rfl rfl k_166 (by decide) ?_
  refine x_gf (pc := 6) (b := 169) hC fl_X10_81 ft10_9 k_166 (by decide) (off := 3) (by decide +kernel) (by decide) dX10_biasOf_6 ?_
  refine x_iconst (pc := 9) hC dX10_biasOf_9 ?_
  obtain ⟨hb5, h⟩ := jck_some h
  refine x_iald (pc := 10) hC k_169 (by rw [l_169]; exact hb5) dX10_biasOf_10 ?_
  refine x_icmp_ge (tgt := 79) (pc := 11) hC dX10_biasOf_11 (by decide) (fun hc => ?_) (fun hc => ?_)
  · replace h := jit_pos hc h
    refine x_iload_n (pc := 79) hC dX10_biasOf_79 rfl rfl ?_
    exact x_iret (pc := 80) hC hR dX10_biasOf_80 (jr1 h) (jr2 h)
  · replace h := jit_neg hc h
    refine x_iconst (pc := 14) hC dX10_biasOf_14 ?_
    refine x_istore (ls2 := [jA 166, jI l1, jI l2_1, jI l3_2, jI 0]) (pc := 15) hC dX10_biasOf_15 (by decide) rfl rfl rfl ?_
    refine jlp3_ind (P := fun (l2_6 : Int) (l4_7 : Int) (M8 : jM) => jG C X n 5 0 0 17 [jA 166, jI l1, jI l2_6, jI l3_2, jI l4_7] [] M8) ?_ _ _ _ _ h
    intro self9 l2_6 l4_7 M8 Hself9 h
    refine x_iload (pc := 17) hC dX10_biasOf_17 rfl ?_
    refine x_aloadA_n (pc := 19) hC dX10_biasOf_19 rfl rfl k_166 (by decide) ?_
    refine x_gf (pc := 20) (b := 169) hC fl_X10_81 ft10_9 k_166 (by decide) (off := 3) (by decide +kernel) (by decide) dX10_biasOf_20 ?_
    refine x_bipush (pc := 23) hC dX10_biasOf_23 rfl ?_
    refine x_iload_n (pc := 25) hC dX10_biasOf_25 rfl rfl ?_
    refine x_iadd (pc := 26) hC dX10_biasOf_26 ?_
    obtain ⟨hb10, h⟩ := jck_some h
    refine x_iald (pc := 27) hC k_169 (by rw [l_169]; exact hb10) dX10_biasOf_27 ?_
    refine x_icmp_ge (tgt := 73) (pc := 28) hC dX10_biasOf_28 (by decide) (fun hc => ?_) (fun hc => ?_)
    · replace h := jit_pos hc h
      obtain ⟨l3_11, el3_11, h⟩ := jlet_some h
      refine x_iinc (ls2 := [jA 166, jI l1, jI l2_6, jI l3_11, jI l4_7]) (pc := 73) hC dX10_biasOf_73 rfl (by decide) rfl el3_11 rfl ?_
      refine x_goto (tgt := 4) (pc := 76) hC dX10_biasOf_76 (by decide) ?_
      refine x_kill 4 (ls2 := [jA 166, jI l1, jI l2_6, jI l3_11, jN]) rfl ?_
      exact Hself4 _ _ _ h
    · replace h := jit_neg hc h
      refine x_iload_n (pc := 31) hC dX10_biasOf_31 rfl rfl ?_
      refine x_aloadA_n (pc := 32) hC dX10_biasOf_32 rfl rfl k_166 (by decide) ?_
      refine x_iload_n (pc := 33) hC dX10_biasOf_33 rfl rfl ?_
      refine x_iload (pc := 34) hC dX10_biasOf_34 rfl ?_
      obtain ⟨v13, e12, h⟩ := jbR_some h
      refine x_cV (pc := 36) hC mv_X10_322 (ok_X10_is hn e12) rfl (Nat.le_of_ble_eq_true rfl) k_166 rfl (by decide) (jRo0 C) (Nat.le_of_ble_eq_true rfl) dX10_biasOf_36 rfl ?_
      obtain ⟨k16, Hk16, h⟩ := jk_some (P := fun k16 => ∀ (s1_14 : Int) (M15 : jM), k16 s1_14 M15 = some (rz, Mz) → jG C X n 5 0 0 65 [jA 166, jI l1, jI l2_6, jI l3_2, jI l4_7] [jI s1_14, jI l2_6] M15) h (by
        intro s1_14 M15 h
        refine x_iadd (pc := 65) hC dX10_biasOf_65 ?_
        obtain ⟨l2_17, el2_17, h⟩ := jlet_some h
        refine x_istore_n (ls2 := [jA 166, jI l1, jI l2_17, jI l3_2, jI l4_7]) (pc := 66) hC dX10_biasOf_66 rfl (by decide) rfl el2_17 rfl ?_
        obtain ⟨l4_18, el4_18, h⟩ := jlet_some h
        refine x_iinc (ls2 := [jA 166, jI l1, jI l2_17, jI l3_2, jI l4_18]) (pc := 67) hC dX10_biasOf_67 rfl (by decide) rfl el4_18 rfl ?_
        refine x_goto (tgt := 17) (pc := 70) hC dX10_biasOf_70 (by decide) ?_
        exact Hself9 _ _ _ h)
      refine x_if_eq (tgt := 64) (pc := 39) hC dX10_biasOf_39 (by decide) (fun hc => ?_) (fun hc => ?_)
      · replace h := jit_pos hc h
        refine x_iconst (pc := 64) hC dX10_biasOf_64 ?_
        exact Hk16 _ _ h
      · replace h := jit_neg hc h
        refine x_bipush (pc := 42) hC dX10_biasOf_42 rfl ?_
        refine x_aloadA_n (pc := 44) hC dX10_biasOf_44 rfl rfl k_166 (by decide) ?_
        refine x_iload_n (pc := 45) hC dX10_biasOf_45 rfl rfl ?_
        refine x_iload (pc := 46) hC dX10_biasOf_46 rfl ?_
        refine x_iload_n (pc := 48) hC dX10_biasOf_48 rfl rfl ?_
        obtain ⟨v20, e19, h⟩ := jbR_some h
        refine x_cV (pc := 49) hC mv_X10_312 (ok_X10_gradeBy hn e19) rfl (Nat.le_of_ble_eq_true rfl) k_166 rfl (by decide) (jRo0 C) (Nat.le_of_ble_eq_true rfl) dX10_biasOf_49 rfl ?_
        refine x_imul (pc := 52) hC dX10_biasOf_52 ?_
        refine x_aloadA_n (pc := 53) hC dX10_biasOf_53 rfl rfl k_166 (by decide) ?_
        refine x_iload_n (pc := 54) hC dX10_biasOf_54 rfl rfl ?_
        refine x_iload (pc := 55) hC dX10_biasOf_55 rfl ?_
        obtain ⟨v23, M22, e21, h⟩ := jbW_some h
        refine x_cV (pc := 57) hC mv_X10_340 (ok_X10_meanOf hn e21) rfl (Nat.le_of_ble_eq_true rfl) k_166 rfl (by decide) (jRo0 C) (Nat.le_of_ble_eq_true rfl) dX10_biasOf_57 rfl ?_
        refine x_isub (pc := 60) hC dX10_biasOf_60 ?_
        refine x_goto (tgt := 65) (pc := 61) hC dX10_biasOf_61 (by decide) ?_
        exact Hk16 _ _ h

set_option maxHeartbeats 4000000 in
set_option maxRecDepth 20000 in
theorem ok_X10_bias {X : jX} {n : Nat} (hn : 179 ≤ n) {l1 : Int} {M : jM} {rz : Int} {Mz : jM} (h : f_X10_bias l1 M = some (rz, Mz)) : jCt X n yX10_bias cX10_bias 2 (some .int) 4 [jA 166, jI l1] M (some (jI rz)) Mz := by
  refine jCt_of (own := RX10) (ls := [jA 166, jI l1]) (by decide +kernel) rfl hn (Nat.le_of_ble_eq_true rfl) rfl ?_
  intro C hC hR
  unfold f_X10_bias at h
  refine x_aloadA_n (pc := 0) hC dX10_bias_0 rfl rfl k_166 (by decide) ?_
  refine x_iconst (pc := 1) hC dX10_bias_1 ?_
  obtain ⟨M1, eM1, h⟩ := jlet_some h
  refine x_pi (pc := 2) (ji := 0) hC fl_X10_3 rfl ft10_0 k_166 dX10_bias_2 eM1 ?_
  refine x_aloadA_n (pc := 5) hC dX10_bias_5 rfl rfl k_166 (by decide) ?_
  obtain ⟨M3, e2, h⟩ := jbV_some h
  refine x_cV (pc := 6) hC mv_X10_408 (ok_X10_all hn e2) rfl (Nat.le_of_ble_eq_true rfl) k_166 rfl (by decide) (jRo0 C) (Nat.le_of_ble_eq_true rfl) dX10_bias_6 rfl ?_
  refine x_aloadA_n (pc := 9) hC dX10_bias_9 rfl rfl k_166 (by decide) ?_
  refine x_iload_n (pc := 10) hC dX10_bias_10 rfl rfl ?_
  obtain ⟨v6, M5, e4, h⟩ := jbW_some h
  refine x_cV (pc := 11) hC mv_X10_423 (ok_X10_noJudge hn e4) rfl (Nat.le_of_ble_eq_true rfl) k_166 rfl (by decide) (jRo0 C) (Nat.le_of_ble_eq_true rfl) dX10_bias_11 rfl ?_
  refine x_if_eq (tgt := 19) (pc := 14) hC dX10_bias_14 (by decide) (fun hc => ?_) (fun hc => ?_)
  · replace h := jit_pos hc h
    refine x_aloadA_n (pc := 19) hC dX10_bias_19 rfl rfl k_166 (by decide) ?_
    refine x_iload_n (pc := 20) hC dX10_bias_20 rfl rfl ?_
    obtain ⟨v9, M8, e7, h⟩ := jbW_some h
    refine x_cV (pc := 21) hC mv_X10_441 (ok_X10_biasOf hn e7) rfl (Nat.le_of_ble_eq_true rfl) k_166 rfl (by decide) (jRo0 C) (Nat.le_of_ble_eq_true rfl) dX10_bias_21 rfl ?_
    exact x_iret (pc := 24) hC hR dX10_bias_24 (jr1 h) (jr2 h)
  · replace h := jit_neg hc h
    refine x_iconst (pc := 17) hC dX10_bias_17 ?_
    exact x_iret (pc := 18) hC hR dX10_bias_18 (jr1 h) (jr2 h)

set_option maxHeartbeats 4000000 in
set_option maxRecDepth 20000 in
theorem ok_X10_odd {X : jX} {n : Nat} (hn : 179 ≤ n) {M : jM} {rz : Int} {Mz : jM} (h : f_X10_odd M = some (rz, Mz)) : jCt X n yX10_odd cX10_odd 3 (some .int) 4 [jA 166] M (some (jI rz)) Mz := by
  refine jCt_of (own := RX10) (ls := [jA 166, jN, jN]) (by decide +kernel) rfl hn (Nat.le_of_ble_eq_true rfl) rfl ?_
  intro C hC hR
  unfold f_X10_odd at h
  refine x_aloadA_n (pc := 0) hC dX10_odd_0 rfl rfl k_166 (by decide) ?_
  refine x_iconst (pc := 1) hC dX10_odd_1 ?_
  obtain ⟨M1, eM1, h⟩ := jlet_some h
  refine x_pi (pc := 2) (ji := 0) hC fl_X10_3 rfl ft10_0 k_166 dX10_odd_2 eM1 ?_
  refine x_aloadA_n (pc := 5) hC dX10_odd_5 rfl rfl k_166 (by decide) ?_
  obtain ⟨M3, e2, h⟩ := jbV_some h
  refine x_cV (pc := 6) hC mv_X10_408 (ok_X10_all hn e2) rfl (Nat.le_of_ble_eq_true rfl) k_166 rfl (by decide) (jRo0 C) (Nat.le_of_ble_eq_true rfl) dX10_odd_6 rfl ?_
  refine x_iconst (pc := 9) hC dX10_odd_9 ?_
  refine x_istore_n (ls2 := [jA 166, jI 0, jN]) (pc := 10) hC dX10_odd_10 rfl (by decide) rfl rfl rfl ?_
  refine x_iconst (pc := 11) hC dX10_odd_11 ?_
  refine x_istore_n (ls2 := [jA 166, jI 0, jI 1]) (pc := 12) hC dX10_odd_12 rfl (by decide) rfl rfl rfl ?_
  refine jlp3_ind (P := fun (l1_4 : Int) (l2_5 : Int) (M6 : jM) => jG C X n 3 0 0 13 [jA 166, jI l1_4, jI l2_5] [] M6) ?_ _ _ _ _ h
  intro self7 l1_4 l2_5 M6 Hself7 h
  refine x_iload_n (pc := 13) hC dX10_odd_13 rfl rfl ?_
  refine x_aloadA_n (pc := 14) hC dX10_odd_14 rfl rfl k_166 (by decide) ?_
  refine x_gf (pc := 15) (b := 169) hC fl_X10_81 ft10_9 k_166 (by decide) (off := 3) (by decide +kernel) (by decide) dX10_odd_15 ?_
  refine x_iconst (pc := 18) hC dX10_odd_18 ?_
  obtain ⟨hb8, h⟩ := jck_some h
  refine x_iald (pc := 19) hC k_169 (by rw [l_169]; exact hb8) dX10_odd_19 ?_
  refine x_icmp_ge (tgt := 54) (pc := 20) hC dX10_odd_20 (by decide) (fun hc => ?_) (fun hc => ?_)
  · replace h := jit_pos hc h
    refine x_iload_n (pc := 54) hC dX10_odd_54 rfl rfl ?_
    exact x_iret (pc := 55) hC hR dX10_odd_55 (jr1 h) (jr2 h)
  · replace h := jit_neg hc h
    refine x_aloadA_n (pc := 23) hC dX10_odd_23 rfl rfl k_166 (by decide) ?_
    refine x_iload_n (pc := 24) hC dX10_odd_24 rfl rfl ?_
    obtain ⟨v11, M10, e9, h⟩ := jbW_some h
    refine x_cV (pc := 25) hC mv_X10_441 (ok_X10_biasOf hn e9) rfl (Nat.le_of_ble_eq_true rfl) k_166 rfl (by decide) (jRo0 C) (Nat.le_of_ble_eq_true rfl) dX10_odd_25 rfl ?_
    obtain ⟨v13, e12, h⟩ := jbR_some h
    refine x_cS (pc := 28) hC ms_X10_444 (ok_J9_abs_0f7a4 hn e12) rfl (Nat.le_of_ble_eq_true rfl) (jRo0 C) (Nat.le_of_ble_eq_true rfl) dX10_odd_28 rfl ?_
    refine x_aloadA_n (pc := 31) hC dX10_odd_31 rfl rfl k_166 (by decide) ?_
    refine x_iload_n (pc := 32) hC dX10_odd_32 rfl rfl ?_
    obtain ⟨v16, M15, e14, h⟩ := jbW_some h
    refine x_cV (pc := 33) hC mv_X10_441 (ok_X10_biasOf hn e14) rfl (Nat.le_of_ble_eq_true rfl) k_166 rfl (by decide) (jRo0 C) (Nat.le_of_ble_eq_true rfl) dX10_odd_33 rfl ?_
    obtain ⟨v18, e17, h⟩ := jbR_some h
    refine x_cS (pc := 36) hC ms_X10_444 (ok_J9_abs_0f7a4 hn e17) rfl (Nat.le_of_ble_eq_true rfl) (jRo0 C) (Nat.le_of_ble_eq_true rfl) dX10_odd_36 rfl ?_
    obtain ⟨k20, Hk20, h⟩ := jk_some (P := fun k20 => ∀ (s0_19 : Int), k20 s0_19 = some (rz, Mz) → jG C X n 3 0 0 47 [jA 166, jI l1_4, jI l2_5] [jI s0_19] M15) h (by
      intro s0_19 h
      refine x_istore_n (ls2 := [jA 166, jI s0_19, jI l2_5]) (pc := 47) hC dX10_odd_47 rfl (by decide) rfl rfl rfl ?_
      obtain ⟨l2_21, el2_21, h⟩ := jlet_some h
      refine x_iinc (ls2 := [jA 166, jI s0_19, jI l2_21]) (pc := 48) hC dX10_odd_48 rfl (by decide) rfl el2_21 rfl ?_
      refine x_goto (tgt := 13) (pc := 51) hC dX10_odd_51 (by decide) ?_
      exact Hself7 _ _ _ h)
    refine x_icmp_le (tgt := 46) (pc := 39) hC dX10_odd_39 (by decide) (fun hc => ?_) (fun hc => ?_)
    · replace h := jit_pos hc h
      refine x_iload_n (pc := 46) hC dX10_odd_46 rfl rfl ?_
      exact Hk20 _ h
    · replace h := jit_neg hc h
      refine x_iload_n (pc := 42) hC dX10_odd_42 rfl rfl ?_
      refine x_goto (tgt := 47) (pc := 43) hC dX10_odd_43 (by decide) ?_
      exact Hk20 _ h

set_option maxHeartbeats 4000000 in
set_option maxRecDepth 20000 in
theorem ok_X10_isOnlyOne {X : jX} {n : Nat} (hn : 179 ≤ n) {M : jM} {rz : Int} {Mz : jM} (h : f_X10_isOnlyOne M = some (rz, Mz)) : jCt X n yX10_isOnlyOne cX10_isOnlyOne 1 (some .boolean) 1 [jA 166] M (some (jI rz)) Mz := by
  refine jCt_of (own := RX10) (ls := [jA 166]) (by decide +kernel) rfl hn (Nat.le_of_ble_eq_true rfl) rfl ?_
  intro C hC hR
  unfold f_X10_isOnlyOne at h
  refine x_aloadA_n (pc := 0) hC dX10_isOnlyOne_0 rfl rfl k_166 (by decide) ?_
  refine x_aloadA_n (pc := 1) hC dX10_isOnlyOne_1 rfl rfl k_166 (by decide) ?_
  refine x_gf (pc := 2) (b := 169) hC fl_X10_81 ft10_9 k_166 (by decide) (off := 3) (by decide +kernel) (by decide) dX10_isOnlyOne_2 ?_
  refine x_iconst (pc := 5) hC dX10_isOnlyOne_5 ?_
  obtain ⟨hb1, h⟩ := jck_some h
  refine x_iald (pc := 6) hC k_169 (by rw [l_169]; exact hb1) dX10_isOnlyOne_6 ?_
  refine x_iconst (pc := 7) hC dX10_isOnlyOne_7 ?_
  obtain ⟨k3, Hk3, h⟩ := jk_some (P := fun k3 => ∀ (s1_2 : Int), k3 s1_2 = some (rz, Mz) → jG C X n 1 0 0 16 [jA 166] [jI s1_2, jA 166] M) h (by
    intro s1_2 h
    refine x_iconst (pc := 16) hC dX10_isOnlyOne_16 ?_
    obtain ⟨v6, M5, e4, h⟩ := jbW_some h
    refine x_cV (pc := 17) hC mv_X10_268 (ok_X10_throwsIf hn e4) rfl (Nat.le_of_ble_eq_true rfl) k_166 rfl (by decide) (jRo0 C) (Nat.le_of_ble_eq_true rfl) dX10_isOnlyOne_17 rfl ?_
    obtain ⟨hz7, h⟩ := jck_some h
    exact x_zret (pc := 20) hC hR dX10_isOnlyOne_20 hz7 (jr1 h) (jr2 h))
  refine x_icmp_ne (tgt := 15) (pc := 8) hC dX10_isOnlyOne_8 (by decide) (fun hc => ?_) (fun hc => ?_)
  · replace h := jit_neg hc h
    refine x_iconst (pc := 15) hC dX10_isOnlyOne_15 ?_
    exact Hk3 _ h
  · replace h := jit_pos hc h
    refine x_iconst (pc := 11) hC dX10_isOnlyOne_11 ?_
    refine x_goto (tgt := 16) (pc := 12) hC dX10_isOnlyOne_12 (by decide) ?_
    exact Hk3 _ h

set_option maxHeartbeats 4000000 in
set_option maxRecDepth 20000 in
theorem ok_X10_without {X : jX} {n : Nat} (hn : 179 ≤ n) {l1 : Int} {l2 : Int} {M : jM} {rz : Int} {Mz : jM} (h : f_X10_without l1 l2 M = some (rz, Mz)) : jCt X n yX10_without cX10_without 3 (some .int) 9 [jA 166, jI l1, jI l2] M (some (jI rz)) Mz := by
  refine jCt_of (own := RX10) (ls := [jA 166, jI l1, jI l2]) (by decide +kernel) rfl hn (Nat.le_of_ble_eq_true rfl) rfl ?_
  intro C hC hR
  unfold f_X10_without at h
  refine x_aloadA_n (pc := 0) hC dX10_without_0 rfl rfl k_166 (by decide) ?_
  refine x_iconst (pc := 1) hC dX10_without_1 ?_
  obtain ⟨M1, eM1, h⟩ := jlet_some h
  refine x_pi (pc := 2) (ji := 0) hC fl_X10_3 rfl ft10_0 k_166 dX10_without_2 eM1 ?_
  refine x_aloadA_n (pc := 5) hC dX10_without_5 rfl rfl k_166 (by decide) ?_
  obtain ⟨M3, e2, h⟩ := jbV_some h
  refine x_cV (pc := 6) hC mv_X10_408 (ok_X10_all hn e2) rfl (Nat.le_of_ble_eq_true rfl) k_166 rfl (by decide) (jRo0 C) (Nat.le_of_ble_eq_true rfl) dX10_without_6 rfl ?_
  refine x_aloadA_n (pc := 9) hC dX10_without_9 rfl rfl k_166 (by decide) ?_
  refine x_iload_n (pc := 10) hC dX10_without_10 rfl rfl ?_
  obtain ⟨v6, M5, e4, h⟩ := jbW_some h
  refine x_cV (pc := 11) hC mv_X10_411 (ok_X10_noSkater hn e4) rfl (Nat.le_of_ble_eq_true rfl) k_166 rfl (by decide) (jRo0 C) (Nat.le_of_ble_eq_true rfl) dX10_without_11 rfl ?_
  refine x_if_ne (tgt := 32) (pc := 14) hC dX10_without_14 (by decide) (fun hc => ?_) (fun hc => ?_)
  · replace h := jit_neg hc h
    refine x_iconst (pc := 32) hC dX10_without_32 ?_
    exact x_iret (pc := 33) hC hR dX10_without_33 (jr1 h) (jr2 h)
  · replace h := jit_pos hc h
    refine x_aloadA_n (pc := 17) hC dX10_without_17 rfl rfl k_166 (by decide) ?_
    refine x_iload_n (pc := 18) hC dX10_without_18 rfl rfl ?_
    obtain ⟨v9, M8, e7, h⟩ := jbW_some h
    refine x_cV (pc := 19) hC mv_X10_423 (ok_X10_noJudge hn e7) rfl (Nat.le_of_ble_eq_true rfl) k_166 rfl (by decide) (jRo0 C) (Nat.le_of_ble_eq_true rfl) dX10_without_19 rfl ?_
    refine x_if_ne (tgt := 32) (pc := 22) hC dX10_without_22 (by decide) (fun hc => ?_) (fun hc => ?_)
    · replace h := jit_neg hc h
      refine x_iconst (pc := 32) hC dX10_without_32 ?_
      exact x_iret (pc := 33) hC hR dX10_without_33 (jr1 h) (jr2 h)
    · replace h := jit_pos hc h
      refine x_aloadA_n (pc := 25) hC dX10_without_25 rfl rfl k_166 (by decide) ?_
      obtain ⟨v12, M11, e10, h⟩ := jbW_some h
      refine x_cV (pc := 26) hC mv_X10_447 (ok_X10_isOnlyOne hn e10) rfl (Nat.le_of_ble_eq_true rfl) k_166 rfl (by decide) (jRo0 C) (Nat.le_of_ble_eq_true rfl) dX10_without_26 rfl ?_
      refine x_if_eq (tgt := 34) (pc := 29) hC dX10_without_29 (by decide) (fun hc => ?_) (fun hc => ?_)
      · replace h := jit_pos hc h
        refine x_aloadA_n (pc := 34) hC dX10_without_34 rfl rfl k_166 (by decide) ?_
        refine x_dup (pc := 35) hC dX10_without_35 (show (2 : Nat) ≠ 3 by decide) ?_
        refine x_gi (pc := 36) (ji := 15) hC fl_X10_275 rfl fn10_15 k_166 dX10_without_36 ?_
        refine x_iconst (pc := 39) hC dX10_without_39 ?_
        refine x_iload_n (pc := 40) hC dX10_without_40 rfl rfl ?_
        refine x_ishl (pc := 41) hC dX10_without_41 ?_
        refine x_iconst (pc := 42) hC dX10_without_42 ?_
        refine x_ixor (pc := 43) hC dX10_without_43 ?_
        refine x_iand (pc := 44) hC dX10_without_44 ?_
        obtain ⟨M13, eM13, h⟩ := jlet_some h
        refine x_pi (pc := 45) (ji := 15) hC fl_X10_275 rfl ft10_15 k_166 dX10_without_45 eM13 ?_
        refine x_aloadA_n (pc := 48) hC dX10_without_48 rfl rfl k_166 (by decide) ?_
        refine x_iload_n (pc := 49) hC dX10_without_49 rfl rfl ?_
        obtain ⟨v16, M15, e14, h⟩ := jbW_some h
        refine x_cV (pc := 50) hC mv_X10_399 (ok_X10_totalOf hn e14) rfl (Nat.le_of_ble_eq_true rfl) k_166 rfl (by decide) (jRo0 C) (Nat.le_of_ble_eq_true rfl) dX10_without_50 rfl ?_
        exact x_iret (pc := 53) hC hR dX10_without_53 (jr1 h) (jr2 h)
      · replace h := jit_neg hc h
        refine x_iconst (pc := 32) hC dX10_without_32 ?_
        exact x_iret (pc := 33) hC hR dX10_without_33 (jr1 h) (jr2 h)

set_option maxHeartbeats 4000000 in
set_option maxRecDepth 20000 in
theorem ok_X10_sways {X : jX} {n : Nat} (hn : 179 ≤ n) {l1 : Int} {M : jM} {rz : Int} {Mz : jM} (h : f_X10_sways l1 M = some (rz, Mz)) : jCt X n yX10_sways cX10_sways 7 (some .int) 10 [jA 166, jI l1] M (some (jI rz)) Mz := by
  refine jCt_of (own := RX10) (ls := [jA 166, jI l1, jN, jN, jN, jN, jN]) (by decide +kernel) rfl hn (Nat.le_of_ble_eq_true rfl) rfl ?_
  intro C hC hR
  unfold f_X10_sways at h
  refine x_aloadA_n (pc := 0) hC dX10_sways_0 rfl rfl k_166 (by decide) ?_
  refine x_iconst (pc := 1) hC dX10_sways_1 ?_
  obtain ⟨M1, eM1, h⟩ := jlet_some h
  refine x_pi (pc := 2) (ji := 0) hC fl_X10_3 rfl ft10_0 k_166 dX10_sways_2 eM1 ?_
  refine x_aloadA_n (pc := 5) hC dX10_sways_5 rfl rfl k_166 (by decide) ?_
  obtain ⟨M3, e2, h⟩ := jbV_some h
  refine x_cV (pc := 6) hC mv_X10_408 (ok_X10_all hn e2) rfl (Nat.le_of_ble_eq_true rfl) k_166 rfl (by decide) (jRo0 C) (Nat.le_of_ble_eq_true rfl) dX10_sways_6 rfl ?_
  refine x_aloadA_n (pc := 9) hC dX10_sways_9 rfl rfl k_166 (by decide) ?_
  refine x_iload_n (pc := 10) hC dX10_sways_10 rfl rfl ?_
  obtain ⟨v6, M5, e4, h⟩ := jbW_some h
  refine x_cV (pc := 11) hC mv_X10_423 (ok_X10_noJudge hn e4) rfl (Nat.le_of_ble_eq_true rfl) k_166 rfl (by decide) (jRo0 C) (Nat.le_of_ble_eq_true rfl) dX10_sways_11 rfl ?_
  refine x_if_ne (tgt := 24) (pc := 14) hC dX10_sways_14 (by decide) (fun hc => ?_) (fun hc => ?_)
  · replace h := jit_neg hc h
    refine x_iconst (pc := 24) hC dX10_sways_24 ?_
    exact x_iret (pc := 25) hC hR dX10_sways_25 (jr1 h) (jr2 h)
  · replace h := jit_pos hc h
    refine x_aloadA_n (pc := 17) hC dX10_sways_17 rfl rfl k_166 (by decide) ?_
    obtain ⟨v9, M8, e7, h⟩ := jbW_some h
    refine x_cV (pc := 18) hC mv_X10_447 (ok_X10_isOnlyOne hn e7) rfl (Nat.le_of_ble_eq_true rfl) k_166 rfl (by decide) (jRo0 C) (Nat.le_of_ble_eq_true rfl) dX10_sways_18 rfl ?_
    refine x_if_eq (tgt := 26) (pc := 21) hC dX10_sways_21 (by decide) (fun hc => ?_) (fun hc => ?_)
    · replace h := jit_pos hc h
      refine x_aloadA_n (pc := 26) hC dX10_sways_26 rfl rfl k_166 (by decide) ?_
      obtain ⟨M11, e10, h⟩ := jbV_some h
      refine x_cV (pc := 27) hC mv_X10_429 (ok_X10_laysTotals hn e10) rfl (Nat.le_of_ble_eq_true rfl) k_166 rfl (by decide) (jRo0 C) (Nat.le_of_ble_eq_true rfl) dX10_sways_27 rfl ?_
      refine x_iconst (pc := 30) hC dX10_sways_30 ?_
      refine x_istore_n (ls2 := [jA 166, jI l1, jI 0, jN, jN, jN, jN]) (pc := 31) hC dX10_sways_31 rfl (by decide) rfl rfl rfl ?_
      refine x_lconst (z := 0) (pc := 32) hC dX10_sways_32 rfl ?_
      refine x_lstore_n (ls2 := [jA 166, jI l1, jI 0, jJ 0, jN, jN, jN]) (pc := 33) hC dX10_sways_33 rfl (by decide) rfl rfl rfl ?_
      refine x_iconst (pc := 34) hC dX10_sways_34 ?_
      refine x_istore (ls2 := [jA 166, jI l1, jI 0, jJ 0, jN, jI 0, jN]) (pc := 35) hC dX10_sways_35 (by decide) rfl rfl rfl ?_
      refine jlp2_ind (P := fun (l3_12 : Int) (l5_13 : Int) => jG C X n 7 0 0 37 [jA 166, jI l1, jI 0, jJ l3_12, jN, jI l5_13, jN] [] M11) ?_ _ _ _ h
      intro self14 l3_12 l5_13 Hself14 h
      refine x_iload (pc := 37) hC dX10_sways_37 rfl ?_
      refine x_aloadA_n (pc := 39) hC dX10_sways_39 rfl rfl k_166 (by decide) ?_
      refine x_gf (pc := 40) (b := 169) hC fl_X10_81 ft10_9 k_166 (by decide) (off := 3) (by decide +kernel) (by decide) dX10_sways_40 ?_
      refine x_iconst (pc := 43) hC dX10_sways_43 ?_
      obtain ⟨hb15, h⟩ := jck_some h
      refine x_iald (pc := 44) hC k_169 (by rw [l_169]; exact hb15) dX10_sways_44 ?_
      refine x_icmp_ge (tgt := 98) (pc := 45) hC dX10_sways_45 (by decide) (fun hc => ?_) (fun hc => ?_)
      · replace h := jit_pos hc h
        refine x_aloadA_n (pc := 98) hC dX10_sways_98 rfl rfl k_166 (by decide) ?_
        refine x_dup (pc := 99) hC dX10_sways_99 (show (2 : Nat) ≠ 3 by decide) ?_
        refine x_gi (pc := 100) (ji := 15) hC fl_X10_275 rfl fn10_15 k_166 dX10_sways_100 ?_
        refine x_iconst (pc := 103) hC dX10_sways_103 ?_
        refine x_iload_n (pc := 104) hC dX10_sways_104 rfl rfl ?_
        refine x_ishl (pc := 105) hC dX10_sways_105 ?_
        refine x_iconst (pc := 106) hC dX10_sways_106 ?_
        refine x_ixor (pc := 107) hC dX10_sways_107 ?_
        refine x_iand (pc := 108) hC dX10_sways_108 ?_
        obtain ⟨M16, eM16, h⟩ := jlet_some h
        refine x_pi (pc := 109) (ji := 15) hC fl_X10_275 rfl ft10_15 k_166 dX10_sways_109 eM16 ?_
        refine x_aloadA_n (pc := 112) hC dX10_sways_112 rfl rfl k_166 (by decide) ?_
        obtain ⟨M18, e17, h⟩ := jbV_some h
        refine x_cV (pc := 113) hC mv_X10_429 (ok_X10_laysTotals hn e17) rfl (Nat.le_of_ble_eq_true rfl) k_166 rfl (by decide) (jRo0 C) (Nat.le_of_ble_eq_true rfl) dX10_sways_113 rfl ?_
        refine x_iconst (pc := 116) hC dX10_sways_116 ?_
        refine x_istore (ls2 := [jA 166, jI l1, jI 0, jJ l3_12, jN, jI 0, jN]) (pc := 117) hC dX10_sways_117 (by decide) rfl rfl rfl ?_
        refine jlp2_ind (P := fun (l2_19 : Int) (l5_20 : Int) => jG C X n 7 0 0 119 [jA 166, jI l1, jI l2_19, jJ l3_12, jN, jI l5_20, jN] [] M18) ?_ _ _ _ h
        intro self21 l2_19 l5_20 Hself21 h
        refine x_iload (pc := 119) hC dX10_sways_119 rfl ?_
        refine x_aloadA_n (pc := 121) hC dX10_sways_121 rfl rfl k_166 (by decide) ?_
        refine x_gf (pc := 122) (b := 169) hC fl_X10_81 ft10_9 k_166 (by decide) (off := 3) (by decide +kernel) (by decide) dX10_sways_122 ?_
        refine x_iconst (pc := 125) hC dX10_sways_125 ?_
        obtain ⟨hb22, h⟩ := jck_some h
        refine x_iald (pc := 126) hC k_169 (by rw [l_169]; exact hb22) dX10_sways_126 ?_
        refine x_icmp_ge (tgt := 193) (pc := 127) hC dX10_sways_127 (by decide) (fun hc => ?_) (fun hc => ?_)
        · replace h := jit_pos hc h
          refine x_iload_n (pc := 193) hC dX10_sways_193 rfl rfl ?_
          exact x_iret (pc := 194) hC hR dX10_sways_194 (jr1 h) (jr2 h)
        · replace h := jit_neg hc h
          refine x_iconst (pc := 130) hC dX10_sways_130 ?_
          refine x_istore (ls2 := [jA 166, jI l1, jI l2_19, jJ l3_12, jN, jI l5_20, jI 0]) (pc := 131) hC dX10_sways_131 (by decide) rfl rfl rfl ?_
          refine jlp2_ind (P := fun (l2_23 : Int) (l6_24 : Int) => jG C X n 7 0 0 133 [jA 166, jI l1, jI l2_23, jJ l3_12, jN, jI l5_20, jI l6_24] [] M18) ?_ _ _ _ h
          intro self25 l2_23 l6_24 Hself25 h
          refine x_iload (pc := 133) hC dX10_sways_133 rfl ?_
          refine x_iload (pc := 135) hC dX10_sways_135 rfl ?_
          refine x_icmp_ge (tgt := 187) (pc := 137) hC dX10_sways_137 (by decide) (fun hc => ?_) (fun hc => ?_)
          · replace h := jit_pos hc h
            obtain ⟨l5_26, el5_26, h⟩ := jlet_some h
            refine x_iinc (ls2 := [jA 166, jI l1, jI l2_23, jJ l3_12, jN, jI l5_26, jI l6_24]) (pc := 187) hC dX10_sways_187 rfl (by decide) rfl el5_26 rfl ?_
            refine x_goto (tgt := 119) (pc := 190) hC dX10_sways_190 (by decide) ?_
            refine x_kill 6 (ls2 := [jA 166, jI l1, jI l2_23, jJ l3_12, jN, jI l5_26, jN]) rfl ?_
            exact Hself21 _ _ h
          · replace h := jit_neg hc h
            refine x_iload_n (pc := 140) hC dX10_sways_140 rfl rfl ?_
            refine x_aloadA_n (pc := 141) hC dX10_sways_141 rfl rfl k_166 (by decide) ?_
            refine x_iload (pc := 142) hC dX10_sways_142 rfl ?_
            refine x_iload (pc := 144) hC dX10_sways_144 rfl ?_
            obtain ⟨v28, e27, h⟩ := jbR_some h
            refine x_cV (pc := 146) hC mv_X10_402 (ok_X10_isAhead hn e27) rfl (Nat.le_of_ble_eq_true rfl) k_166 rfl (by decide) (jRo0 C) (Nat.le_of_ble_eq_true rfl) dX10_sways_146 rfl ?_
            refine x_lload_n (pc := 149) hC dX10_sways_149 rfl rfl ?_
            refine x_bipush (pc := 150) hC dX10_sways_150 rfl ?_
            refine x_iload (pc := 152) hC dX10_sways_152 rfl ?_
            refine x_imul (pc := 154) hC dX10_sways_154 ?_
            refine x_iload (pc := 155) hC dX10_sways_155 rfl ?_
            refine x_iadd (pc := 157) hC dX10_sways_157 ?_
            refine x_lshr (pc := 158) hC dX10_sways_158 ?_
            refine x_lconst (z := 1) (pc := 159) hC dX10_sways_159 rfl ?_
            refine x_land (pc := 160) hC dX10_sways_160 ?_
            refine x_lconst (z := 1) (pc := 161) hC dX10_sways_161 rfl ?_
            refine x_lcmp (pc := 162) hC dX10_sways_162 ?_
            obtain ⟨k30, Hk30, h⟩ := jk_some (P := fun k30 => ∀ (s2_29 : Int), k30 s2_29 = some (rz, Mz) → jG C X n 7 0 0 171 [jA 166, jI l1, jI l2_23, jJ l3_12, jN, jI l5_20, jI l6_24] [jI s2_29, jI v28, jI l2_23] M18) h (by
              intro s2_29 h
              obtain ⟨k32, Hk32, h⟩ := jk_some (P := fun k32 => ∀ (s1_31 : Int), k32 s1_31 = some (rz, Mz) → jG C X n 7 0 0 179 [jA 166, jI l1, jI l2_23, jJ l3_12, jN, jI l5_20, jI l6_24] [jI s1_31, jI l2_23] M18) h (by
                intro s1_31 h
                refine x_iadd (pc := 179) hC dX10_sways_179 ?_
                obtain ⟨l2_33, el2_33, h⟩ := jlet_some h
                refine x_istore_n (ls2 := [jA 166, jI l1, jI l2_33, jJ l3_12, jN, jI l5_20, jI l6_24]) (pc := 180) hC dX10_sways_180 rfl (by decide) rfl el2_33 rfl ?_
                obtain ⟨l6_34, el6_34, h⟩ := jlet_some h
                refine x_iinc (ls2 := [jA 166, jI l1, jI l2_33, jJ l3_12, jN, jI l5_20, jI l6_34]) (pc := 181) hC dX10_sways_181 rfl (by decide) rfl el6_34 rfl ?_
                refine x_goto (tgt := 133) (pc := 184) hC dX10_sways_184 (by decide) ?_
                exact Hself25 _ _ h)
              refine x_icmp_eq (tgt := 178) (pc := 171) hC dX10_sways_171 (by decide) (fun hc => ?_) (fun hc => ?_)
              · replace h := jit_pos hc h
                refine x_iconst (pc := 178) hC dX10_sways_178 ?_
                exact Hk32 _ h
              · replace h := jit_neg hc h
                refine x_iconst (pc := 174) hC dX10_sways_174 ?_
                refine x_goto (tgt := 179) (pc := 175) hC dX10_sways_175 (by decide) ?_
                exact Hk32 _ h)
            refine x_if_ne (tgt := 170) (pc := 163) hC dX10_sways_163 (by decide) (fun hc => ?_) (fun hc => ?_)
            · replace h := jit_neg hc h
              refine x_iconst (pc := 170) hC dX10_sways_170 ?_
              exact Hk30 _ h
            · replace h := jit_pos hc h
              refine x_iconst (pc := 166) hC dX10_sways_166 ?_
              refine x_goto (tgt := 171) (pc := 167) hC dX10_sways_167 (by decide) ?_
              exact Hk30 _ h
      · replace h := jit_neg hc h
        refine x_iconst (pc := 48) hC dX10_sways_48 ?_
        refine x_istore (ls2 := [jA 166, jI l1, jI 0, jJ l3_12, jN, jI l5_13, jI 0]) (pc := 49) hC dX10_sways_49 (by decide) rfl rfl rfl ?_
        refine jlp2_ind (P := fun (l3_35 : Int) (l6_36 : Int) => jG C X n 7 0 0 51 [jA 166, jI l1, jI 0, jJ l3_35, jN, jI l5_13, jI l6_36] [] M11) ?_ _ _ _ h
        intro self37 l3_35 l6_36 Hself37 h
        refine x_iload (pc := 51) hC dX10_sways_51 rfl ?_
        refine x_iload (pc := 53) hC dX10_sways_53 rfl ?_
        refine x_icmp_ge (tgt := 92) (pc := 55) hC dX10_sways_55 (by decide) (fun hc => ?_) (fun hc => ?_)
        · replace h := jit_pos hc h
          obtain ⟨l5_38, el5_38, h⟩ := jlet_some h
          refine x_iinc (ls2 := [jA 166, jI l1, jI 0, jJ l3_35, jN, jI l5_38, jI l6_36]) (pc := 92) hC dX10_sways_92 rfl (by decide) rfl el5_38 rfl ?_
          refine x_goto (tgt := 37) (pc := 95) hC dX10_sways_95 (by decide) ?_
          refine x_kill 6 (ls2 := [jA 166, jI l1, jI 0, jJ l3_35, jN, jI l5_38, jN]) rfl ?_
          exact Hself14 _ _ h
        · replace h := jit_neg hc h
          refine x_lload_n (pc := 58) hC dX10_sways_58 rfl rfl ?_
          refine x_aloadA_n (pc := 59) hC dX10_sways_59 rfl rfl k_166 (by decide) ?_
          refine x_iload (pc := 60) hC dX10_sways_60 rfl ?_
          refine x_iload (pc := 62) hC dX10_sways_62 rfl ?_
          obtain ⟨v40, e39, h⟩ := jbR_some h
          refine x_cV (pc := 64) hC mv_X10_402 (ok_X10_isAhead hn e39) rfl (Nat.le_of_ble_eq_true rfl) k_166 rfl (by decide) (jRo0 C) (Nat.le_of_ble_eq_true rfl) dX10_sways_64 rfl ?_
          obtain ⟨k42, Hk42, h⟩ := jk_some (P := fun k42 => ∀ (s1_41 : Int), k42 s1_41 = some (rz, Mz) → jG C X n 7 0 0 84 [jA 166, jI l1, jI 0, jJ l3_35, jN, jI l5_13, jI l6_36] [jJ s1_41, jJ l3_35] M11) h (by
            intro s1_41 h
            refine x_lor (pc := 84) hC dX10_sways_84 ?_
            obtain ⟨l3_43, el3_43, h⟩ := jlet_some h
            refine x_lstore_n (ls2 := [jA 166, jI l1, jI 0, jJ l3_43, jN, jI l5_13, jI l6_36]) (pc := 85) hC dX10_sways_85 rfl (by decide) rfl el3_43 rfl ?_
            obtain ⟨l6_44, el6_44, h⟩ := jlet_some h
            refine x_iinc (ls2 := [jA 166, jI l1, jI 0, jJ l3_43, jN, jI l5_13, jI l6_44]) (pc := 86) hC dX10_sways_86 rfl (by decide) rfl el6_44 rfl ?_
            refine x_goto (tgt := 51) (pc := 89) hC dX10_sways_89 (by decide) ?_
            exact Hself37 _ _ h)
          refine x_if_eq (tgt := 83) (pc := 67) hC dX10_sways_67 (by decide) (fun hc => ?_) (fun hc => ?_)
          · replace h := jit_pos hc h
            refine x_lconst (z := 0) (pc := 83) hC dX10_sways_83 rfl ?_
            exact Hk42 _ h
          · replace h := jit_neg hc h
            refine x_lconst (z := 1) (pc := 70) hC dX10_sways_70 rfl ?_
            refine x_bipush (pc := 71) hC dX10_sways_71 rfl ?_
            refine x_iload (pc := 73) hC dX10_sways_73 rfl ?_
            refine x_imul (pc := 75) hC dX10_sways_75 ?_
            refine x_iload (pc := 76) hC dX10_sways_76 rfl ?_
            refine x_iadd (pc := 78) hC dX10_sways_78 ?_
            refine x_lshl (pc := 79) hC dX10_sways_79 ?_
            refine x_goto (tgt := 84) (pc := 80) hC dX10_sways_80 (by decide) ?_
            exact Hk42 _ h
    · replace h := jit_neg hc h
      refine x_iconst (pc := 24) hC dX10_sways_24 ?_
      exact x_iret (pc := 25) hC hR dX10_sways_25 (jr1 h) (jr2 h)

set_option maxHeartbeats 4000000 in
set_option maxRecDepth 20000 in
theorem ok_X10_alone {X : jX} {n : Nat} (hn : 179 ≤ n) {l1 : Int} {l2 : Int} {M : jM} {rz : Int} {Mz : jM} (h : f_X10_alone l1 l2 M = some (rz, Mz)) : jCt X n yX10_alone cX10_alone 3 (some .int) 9 [jA 166, jI l1, jI l2] M (some (jI rz)) Mz := by
  refine jCt_of (own := RX10) (ls := [jA 166, jI l1, jI l2]) (by decide +kernel) rfl hn (Nat.le_of_ble_eq_true rfl) rfl ?_
  intro C hC hR
  unfold f_X10_alone at h
  refine x_aloadA_n (pc := 0) hC dX10_alone_0 rfl rfl k_166 (by decide) ?_
  refine x_iconst (pc := 1) hC dX10_alone_1 ?_
  obtain ⟨M1, eM1, h⟩ := jlet_some h
  refine x_pi (pc := 2) (ji := 0) hC fl_X10_3 rfl ft10_0 k_166 dX10_alone_2 eM1 ?_
  refine x_aloadA_n (pc := 5) hC dX10_alone_5 rfl rfl k_166 (by decide) ?_
  obtain ⟨M3, e2, h⟩ := jbV_some h
  refine x_cV (pc := 6) hC mv_X10_408 (ok_X10_all hn e2) rfl (Nat.le_of_ble_eq_true rfl) k_166 rfl (by decide) (jRo0 C) (Nat.le_of_ble_eq_true rfl) dX10_alone_6 rfl ?_
  refine x_aloadA_n (pc := 9) hC dX10_alone_9 rfl rfl k_166 (by decide) ?_
  refine x_iload_n (pc := 10) hC dX10_alone_10 rfl rfl ?_
  obtain ⟨v6, M5, e4, h⟩ := jbW_some h
  refine x_cV (pc := 11) hC mv_X10_411 (ok_X10_noSkater hn e4) rfl (Nat.le_of_ble_eq_true rfl) k_166 rfl (by decide) (jRo0 C) (Nat.le_of_ble_eq_true rfl) dX10_alone_11 rfl ?_
  refine x_if_ne (tgt := 25) (pc := 14) hC dX10_alone_14 (by decide) (fun hc => ?_) (fun hc => ?_)
  · replace h := jit_neg hc h
    refine x_iconst (pc := 25) hC dX10_alone_25 ?_
    exact x_iret (pc := 26) hC hR dX10_alone_26 (jr1 h) (jr2 h)
  · replace h := jit_pos hc h
    refine x_aloadA_n (pc := 17) hC dX10_alone_17 rfl rfl k_166 (by decide) ?_
    refine x_iload_n (pc := 18) hC dX10_alone_18 rfl rfl ?_
    obtain ⟨v9, M8, e7, h⟩ := jbW_some h
    refine x_cV (pc := 19) hC mv_X10_423 (ok_X10_noJudge hn e7) rfl (Nat.le_of_ble_eq_true rfl) k_166 rfl (by decide) (jRo0 C) (Nat.le_of_ble_eq_true rfl) dX10_alone_19 rfl ?_
    refine x_if_eq (tgt := 27) (pc := 22) hC dX10_alone_22 (by decide) (fun hc => ?_) (fun hc => ?_)
    · replace h := jit_pos hc h
      refine x_aloadA_n (pc := 27) hC dX10_alone_27 rfl rfl k_166 (by decide) ?_
      refine x_iconst (pc := 28) hC dX10_alone_28 ?_
      refine x_iload_n (pc := 29) hC dX10_alone_29 rfl rfl ?_
      refine x_ishl (pc := 30) hC dX10_alone_30 ?_
      obtain ⟨M10, eM10, h⟩ := jlet_some h
      refine x_pi (pc := 31) (ji := 15) hC fl_X10_275 rfl ft10_15 k_166 dX10_alone_31 eM10 ?_
      refine x_aloadA_n (pc := 34) hC dX10_alone_34 rfl rfl k_166 (by decide) ?_
      refine x_iload_n (pc := 35) hC dX10_alone_35 rfl rfl ?_
      obtain ⟨v13, M12, e11, h⟩ := jbW_some h
      refine x_cV (pc := 36) hC mv_X10_399 (ok_X10_totalOf hn e11) rfl (Nat.le_of_ble_eq_true rfl) k_166 rfl (by decide) (jRo0 C) (Nat.le_of_ble_eq_true rfl) dX10_alone_36 rfl ?_
      exact x_iret (pc := 39) hC hR dX10_alone_39 (jr1 h) (jr2 h)
    · replace h := jit_neg hc h
      refine x_iconst (pc := 25) hC dX10_alone_25 ?_
      exact x_iret (pc := 26) hC hR dX10_alone_26 (jr1 h) (jr2 h)

set_option maxHeartbeats 4000000 in
set_option maxRecDepth 20000 in
theorem ok_X10_laysPlaces {X : jX} {n : Nat} (hn : 179 ≤ n) {M : jM} {Mz : jM} (h : f_X10_laysPlaces M = some Mz) : jCt X n yX10_laysPlaces cX10_laysPlaces 3 (none) 10 [jA 166] M (none) Mz := by
  refine jCt_of (own := RX10) (ls := [jA 166, jN, jN]) (by decide +kernel) rfl hn (Nat.le_of_ble_eq_true rfl) rfl ?_
  intro C hC hR
  unfold f_X10_laysPlaces at h
  refine x_aloadA_n (pc := 0) hC dX10_laysPlaces_0 rfl rfl k_166 (by decide) ?_
  obtain ⟨M2, e1, h⟩ := jbV_some h
  refine x_cV (pc := 1) hC mv_X10_408 (ok_X10_all hn e1) rfl (Nat.le_of_ble_eq_true rfl) k_166 rfl (by decide) (jRo0 C) (Nat.le_of_ble_eq_true rfl) dX10_laysPlaces_1 rfl ?_
  refine x_iconst (pc := 4) hC dX10_laysPlaces_4 ?_
  refine x_istore_n (ls2 := [jA 166, jI 0, jN]) (pc := 5) hC dX10_laysPlaces_5 rfl (by decide) rfl rfl rfl ?_
  refine jlp2_ind (P := fun (l1_3 : Int) (M4 : jM) => jG C X n 3 0 0 6 [jA 166, jI l1_3, jN] [] M4) ?_ _ _ _ h
  intro self5 l1_3 M4 Hself5 h
  refine x_iload_n (pc := 6) hC dX10_laysPlaces_6 rfl rfl ?_
  refine x_aloadA_n (pc := 7) hC dX10_laysPlaces_7 rfl rfl k_166 (by decide) ?_
  refine x_gf (pc := 8) (b := 169) hC fl_X10_81 ft10_9 k_166 (by decide) (off := 3) (by decide +kernel) (by decide) dX10_laysPlaces_8 ?_
  refine x_iconst (pc := 11) hC dX10_laysPlaces_11 ?_
  obtain ⟨hb6, h⟩ := jck_some h
  refine x_iald (pc := 12) hC k_169 (by rw [l_169]; exact hb6) dX10_laysPlaces_12 ?_
  refine x_icmp_ge (tgt := 67) (pc := 13) hC dX10_laysPlaces_13 (by decide) (fun hc => ?_) (fun hc => ?_)
  · replace h := jit_pos hc h
    exact x_vret (pc := 67) hC hR dX10_laysPlaces_67 (jrR h)
  · replace h := jit_neg hc h
    refine x_aloadA_n (pc := 16) hC dX10_laysPlaces_16 rfl rfl k_166 (by decide) ?_
    refine x_iconst (pc := 17) hC dX10_laysPlaces_17 ?_
    refine x_iload_n (pc := 18) hC dX10_laysPlaces_18 rfl rfl ?_
    refine x_ishl (pc := 19) hC dX10_laysPlaces_19 ?_
    obtain ⟨M7, eM7, h⟩ := jlet_some h
    refine x_pi (pc := 20) (ji := 15) hC fl_X10_275 rfl ft10_15 k_166 dX10_laysPlaces_20 eM7 ?_
    refine x_aloadA_n (pc := 23) hC dX10_laysPlaces_23 rfl rfl k_166 (by decide) ?_
    obtain ⟨M9, e8, h⟩ := jbV_some h
    refine x_cV (pc := 24) hC mv_X10_429 (ok_X10_laysTotals hn e8) rfl (Nat.le_of_ble_eq_true rfl) k_166 rfl (by decide) (jRo0 C) (Nat.le_of_ble_eq_true rfl) dX10_laysPlaces_24 rfl ?_
    refine x_iconst (pc := 27) hC dX10_laysPlaces_27 ?_
    refine x_istore_n (ls2 := [jA 166, jI l1_3, jI 0]) (pc := 28) hC dX10_laysPlaces_28 rfl (by decide) rfl rfl rfl ?_
    refine jlp2_ind (P := fun (l2_10 : Int) (M11 : jM) => jG C X n 3 0 0 29 [jA 166, jI l1_3, jI l2_10] [] M11) ?_ _ _ _ h
    intro self12 l2_10 M11 Hself12 h
    refine x_iload_n (pc := 29) hC dX10_laysPlaces_29 rfl rfl ?_
    refine x_aloadA_n (pc := 30) hC dX10_laysPlaces_30 rfl rfl k_166 (by decide) ?_
    refine x_gf (pc := 31) (b := 169) hC fl_X10_81 ft10_9 k_166 (by decide) (off := 3) (by decide +kernel) (by decide) dX10_laysPlaces_31 ?_
    refine x_iconst (pc := 34) hC dX10_laysPlaces_34 ?_
    obtain ⟨hb13, h⟩ := jck_some h
    refine x_iald (pc := 35) hC k_169 (by rw [l_169]; exact hb13) dX10_laysPlaces_35 ?_
    refine x_icmp_ge (tgt := 61) (pc := 36) hC dX10_laysPlaces_36 (by decide) (fun hc => ?_) (fun hc => ?_)
    · replace h := jit_pos hc h
      obtain ⟨l1_14, el1_14, h⟩ := jlet_some h
      refine x_iinc (ls2 := [jA 166, jI l1_14, jI l2_10]) (pc := 61) hC dX10_laysPlaces_61 rfl (by decide) rfl el1_14 rfl ?_
      refine x_goto (tgt := 6) (pc := 64) hC dX10_laysPlaces_64 (by decide) ?_
      refine x_kill 2 (ls2 := [jA 166, jI l1_14, jN]) rfl ?_
      exact Hself5 _ _ h
    · replace h := jit_neg hc h
      refine x_aloadA_n (pc := 39) hC dX10_laysPlaces_39 rfl rfl k_166 (by decide) ?_
      refine x_gf (pc := 40) (b := 177) hC fl_X10_106 ft10_27 k_166 (by decide) (off := 11) (by decide +kernel) (by decide) dX10_laysPlaces_40 ?_
      refine x_bipush (pc := 43) hC dX10_laysPlaces_43 rfl ?_
      refine x_iload_n (pc := 45) hC dX10_laysPlaces_45 rfl rfl ?_
      refine x_imul (pc := 46) hC dX10_laysPlaces_46 ?_
      refine x_iload_n (pc := 47) hC dX10_laysPlaces_47 rfl rfl ?_
      refine x_iadd (pc := 48) hC dX10_laysPlaces_48 ?_
      refine x_aloadA_n (pc := 49) hC dX10_laysPlaces_49 rfl rfl k_166 (by decide) ?_
      refine x_iload_n (pc := 50) hC dX10_laysPlaces_50 rfl rfl ?_
      obtain ⟨v16, e15, h⟩ := jbR_some h
      refine x_cV (pc := 51) hC mv_X10_405 (ok_X10_rankOf hn e15) rfl (Nat.le_of_ble_eq_true rfl) k_166 rfl (by decide) (jRo0 C) (Nat.le_of_ble_eq_true rfl) dX10_laysPlaces_51 rfl ?_
      obtain ⟨hb17, h⟩ := jck_some h
      obtain ⟨M18, eM18, h⟩ := jlet_some h
      refine x_iast (pc := 54) hC k_177 (by rw [l_177]; exact hb17) dX10_laysPlaces_54 eM18 ?_
      obtain ⟨l2_19, el2_19, h⟩ := jlet_some h
      refine x_iinc (ls2 := [jA 166, jI l1_3, jI l2_19]) (pc := 55) hC dX10_laysPlaces_55 rfl (by decide) rfl el2_19 rfl ?_
      refine x_goto (tgt := 29) (pc := 58) hC dX10_laysPlaces_58 (by decide) ?_
      exact Hself12 _ _ h

set_option maxHeartbeats 4000000 in
set_option maxRecDepth 20000 in
theorem ok_X10_place {X : jX} {n : Nat} (hn : 179 ≤ n) {l1 : Int} {l2 : Int} {M : jM} {rz : Int} {Mz : jM} (h : f_X10_place l1 l2 M = some (rz, Mz)) : jCt X n yX10_place cX10_place 3 (some .int) 11 [jA 166, jI l1, jI l2] M (some (jI rz)) Mz := by
  refine jCt_of (own := RX10) (ls := [jA 166, jI l1, jI l2]) (by decide +kernel) rfl hn (Nat.le_of_ble_eq_true rfl) rfl ?_
  intro C hC hR
  unfold f_X10_place at h
  refine x_aloadA_n (pc := 0) hC dX10_place_0 rfl rfl k_166 (by decide) ?_
  refine x_iconst (pc := 1) hC dX10_place_1 ?_
  obtain ⟨M1, eM1, h⟩ := jlet_some h
  refine x_pi (pc := 2) (ji := 0) hC fl_X10_3 rfl ft10_0 k_166 dX10_place_2 eM1 ?_
  refine x_aloadA_n (pc := 5) hC dX10_place_5 rfl rfl k_166 (by decide) ?_
  refine x_iload_n (pc := 6) hC dX10_place_6 rfl rfl ?_
  obtain ⟨v4, M3, e2, h⟩ := jbW_some h
  refine x_cV (pc := 7) hC mv_X10_411 (ok_X10_noSkater hn e2) rfl (Nat.le_of_ble_eq_true rfl) k_166 rfl (by decide) (jRo0 C) (Nat.le_of_ble_eq_true rfl) dX10_place_7 rfl ?_
  refine x_if_ne (tgt := 21) (pc := 10) hC dX10_place_10 (by decide) (fun hc => ?_) (fun hc => ?_)
  · replace h := jit_neg hc h
    refine x_iconst (pc := 21) hC dX10_place_21 ?_
    exact x_iret (pc := 22) hC hR dX10_place_22 (jr1 h) (jr2 h)
  · replace h := jit_pos hc h
    refine x_aloadA_n (pc := 13) hC dX10_place_13 rfl rfl k_166 (by decide) ?_
    refine x_iload_n (pc := 14) hC dX10_place_14 rfl rfl ?_
    obtain ⟨v7, M6, e5, h⟩ := jbW_some h
    refine x_cV (pc := 15) hC mv_X10_423 (ok_X10_noJudge hn e5) rfl (Nat.le_of_ble_eq_true rfl) k_166 rfl (by decide) (jRo0 C) (Nat.le_of_ble_eq_true rfl) dX10_place_15 rfl ?_
    refine x_if_eq (tgt := 23) (pc := 18) hC dX10_place_18 (by decide) (fun hc => ?_) (fun hc => ?_)
    · replace h := jit_pos hc h
      refine x_aloadA_n (pc := 23) hC dX10_place_23 rfl rfl k_166 (by decide) ?_
      obtain ⟨M9, e8, h⟩ := jbV_some h
      refine x_cV (pc := 24) hC mv_X10_450 (ok_X10_laysPlaces hn e8) rfl (Nat.le_of_ble_eq_true rfl) k_166 rfl (by decide) (jRo0 C) (Nat.le_of_ble_eq_true rfl) dX10_place_24 rfl ?_
      refine x_aloadA_n (pc := 27) hC dX10_place_27 rfl rfl k_166 (by decide) ?_
      refine x_gf (pc := 28) (b := 177) hC fl_X10_106 ft10_27 k_166 (by decide) (off := 11) (by decide +kernel) (by decide) dX10_place_28 ?_
      refine x_bipush (pc := 31) hC dX10_place_31 rfl ?_
      refine x_iload_n (pc := 33) hC dX10_place_33 rfl rfl ?_
      refine x_imul (pc := 34) hC dX10_place_34 ?_
      refine x_iload_n (pc := 35) hC dX10_place_35 rfl rfl ?_
      refine x_iadd (pc := 36) hC dX10_place_36 ?_
      obtain ⟨hb10, h⟩ := jck_some h
      refine x_iald (pc := 37) hC k_177 (by rw [l_177]; exact hb10) dX10_place_37 ?_
      exact x_iret (pc := 38) hC hR dX10_place_38 (jr1 h) (jr2 h)
    · replace h := jit_neg hc h
      refine x_iconst (pc := 21) hC dX10_place_21 ?_
      exact x_iret (pc := 22) hC hR dX10_place_22 (jr1 h) (jr2 h)

set_option maxHeartbeats 4000000 in
set_option maxRecDepth 20000 in
theorem ok_X10_atOrAhead {X : jX} {n : Nat} (hn : 179 ≤ n) {l1 : Int} {l2 : Int} {M : jM} {rz : Int} (h : f_X10_atOrAhead l1 l2 M = some rz) : jCt X n yX10_atOrAhead cX10_atOrAhead 5 (some .int) 0 [jA 166, jI l1, jI l2] M (some (jI rz)) M := by
  refine jCt_of (own := RX10) (ls := [jA 166, jI l1, jI l2, jN, jN]) (by decide +kernel) rfl hn (Nat.le_of_ble_eq_true rfl) rfl ?_
  intro C hC hR
  unfold f_X10_atOrAhead at h
  refine x_iconst (pc := 0) hC dX10_atOrAhead_0 ?_
  refine x_istore_n (ls2 := [jA 166, jI l1, jI l2, jI 0, jN]) (pc := 1) hC dX10_atOrAhead_1 rfl (by decide) rfl rfl rfl ?_
  refine x_iconst (pc := 2) hC dX10_atOrAhead_2 ?_
  refine x_istore (ls2 := [jA 166, jI l1, jI l2, jI 0, jI 0]) (pc := 3) hC dX10_atOrAhead_3 (by decide) rfl rfl rfl ?_
  refine jlp2_ind (P := fun (l3_1 : Int) (l4_2 : Int) => jG C X n 5 0 0 5 [jA 166, jI l1, jI l2, jI l3_1, jI l4_2] [] M) ?_ _ _ _ h
  intro self3 l3_1 l4_2 Hself3 h
  refine x_iload (pc := 5) hC dX10_atOrAhead_5 rfl ?_
  refine x_aloadA_n (pc := 7) hC dX10_atOrAhead_7 rfl rfl k_166 (by decide) ?_
  refine x_gf (pc := 8) (b := 169) hC fl_X10_81 ft10_9 k_166 (by decide) (off := 3) (by decide +kernel) (by decide) dX10_atOrAhead_8 ?_
  refine x_iconst (pc := 11) hC dX10_atOrAhead_11 ?_
  obtain ⟨hb4, h⟩ := jck_some h
  refine x_iald (pc := 12) hC k_169 (by rw [l_169]; exact hb4) dX10_atOrAhead_12 ?_
  refine x_icmp_ge (tgt := 46) (pc := 13) hC dX10_atOrAhead_13 (by decide) (fun hc => ?_) (fun hc => ?_)
  · replace h := jit_pos hc h
    refine x_iload_n (pc := 46) hC dX10_atOrAhead_46 rfl rfl ?_
    exact x_iret (pc := 47) hC hR dX10_atOrAhead_47 (jrR h) rfl
  · replace h := jit_neg hc h
    refine x_iload_n (pc := 16) hC dX10_atOrAhead_16 rfl rfl ?_
    refine x_aloadA_n (pc := 17) hC dX10_atOrAhead_17 rfl rfl k_166 (by decide) ?_
    refine x_gf (pc := 18) (b := 177) hC fl_X10_106 ft10_27 k_166 (by decide) (off := 11) (by decide +kernel) (by decide) dX10_atOrAhead_18 ?_
    refine x_bipush (pc := 21) hC dX10_atOrAhead_21 rfl ?_
    refine x_iload_n (pc := 23) hC dX10_atOrAhead_23 rfl rfl ?_
    refine x_imul (pc := 24) hC dX10_atOrAhead_24 ?_
    refine x_iload (pc := 25) hC dX10_atOrAhead_25 rfl ?_
    refine x_iadd (pc := 27) hC dX10_atOrAhead_27 ?_
    obtain ⟨hb5, h⟩ := jck_some h
    refine x_iald (pc := 28) hC k_177 (by rw [l_177]; exact hb5) dX10_atOrAhead_28 ?_
    refine x_iload_n (pc := 29) hC dX10_atOrAhead_29 rfl rfl ?_
    obtain ⟨k7, Hk7, h⟩ := jk_some (P := fun k7 => ∀ (s1_6 : Int), k7 s1_6 = some rz → jG C X n 5 0 0 38 [jA 166, jI l1, jI l2, jI l3_1, jI l4_2] [jI s1_6, jI l3_1] M) h (by
      intro s1_6 h
      refine x_iadd (pc := 38) hC dX10_atOrAhead_38 ?_
      obtain ⟨l3_8, el3_8, h⟩ := jlet_some h
      refine x_istore_n (ls2 := [jA 166, jI l1, jI l2, jI l3_8, jI l4_2]) (pc := 39) hC dX10_atOrAhead_39 rfl (by decide) rfl el3_8 rfl ?_
      obtain ⟨l4_9, el4_9, h⟩ := jlet_some h
      refine x_iinc (ls2 := [jA 166, jI l1, jI l2, jI l3_8, jI l4_9]) (pc := 40) hC dX10_atOrAhead_40 rfl (by decide) rfl el4_9 rfl ?_
      refine x_goto (tgt := 5) (pc := 43) hC dX10_atOrAhead_43 (by decide) ?_
      exact Hself3 _ _ h)
    refine x_icmp_gt (tgt := 37) (pc := 30) hC dX10_atOrAhead_30 (by decide) (fun hc => ?_) (fun hc => ?_)
    · replace h := jit_pos hc h
      refine x_iconst (pc := 37) hC dX10_atOrAhead_37 ?_
      exact Hk7 _ h
    · replace h := jit_neg hc h
      refine x_iconst (pc := 33) hC dX10_atOrAhead_33 ?_
      refine x_goto (tgt := 38) (pc := 34) hC dX10_atOrAhead_34 (by decide) ?_
      exact Hk7 _ h

set_option maxHeartbeats 4000000 in
set_option maxRecDepth 20000 in
theorem ok_X10_majorityOf {X : jX} {n : Nat} (hn : 179 ≤ n) {l1 : Int} {M : jM} {rz : Int} (h : f_X10_majorityOf l1 M = some rz) : jCt X n yX10_majorityOf cX10_majorityOf 3 (some .int) 1 [jA 166, jI l1] M (some (jI rz)) M := by
  refine jCt_of (own := RX10) (ls := [jA 166, jI l1, jN]) (by decide +kernel) rfl hn (Nat.le_of_ble_eq_true rfl) rfl ?_
  intro C hC hR
  unfold f_X10_majorityOf at h
  refine x_iconst (pc := 0) hC dX10_majorityOf_0 ?_
  refine x_istore_n (ls2 := [jA 166, jI l1, jI 0]) (pc := 1) hC dX10_majorityOf_1 rfl (by decide) rfl rfl rfl ?_
  refine jlp1_ind (P := fun (l2_1 : Int) => jG C X n 3 0 0 2 [jA 166, jI l1, jI l2_1] [] M) ?_ _ _ h
  intro self2 l2_1 Hself2 h
  refine x_iconst (pc := 2) hC dX10_majorityOf_2 ?_
  refine x_aloadA_n (pc := 3) hC dX10_majorityOf_3 rfl rfl k_166 (by decide) ?_
  refine x_iload_n (pc := 4) hC dX10_majorityOf_4 rfl rfl ?_
  refine x_iload_n (pc := 5) hC dX10_majorityOf_5 rfl rfl ?_
  obtain ⟨v4, e3, h⟩ := jbR_some h
  refine x_cV (pc := 6) hC mv_X10_453 (ok_X10_atOrAhead hn e3) rfl (Nat.le_of_ble_eq_true rfl) k_166 rfl (by decide) (jRo0 C) (Nat.le_of_ble_eq_true rfl) dX10_majorityOf_6 rfl ?_
  refine x_imul (pc := 9) hC dX10_majorityOf_9 ?_
  refine x_aloadA_n (pc := 10) hC dX10_majorityOf_10 rfl rfl k_166 (by decide) ?_
  refine x_gf (pc := 11) (b := 169) hC fl_X10_81 ft10_9 k_166 (by decide) (off := 3) (by decide +kernel) (by decide) dX10_majorityOf_11 ?_
  refine x_iconst (pc := 14) hC dX10_majorityOf_14 ?_
  obtain ⟨hb5, h⟩ := jck_some h
  refine x_iald (pc := 15) hC k_169 (by rw [l_169]; exact hb5) dX10_majorityOf_15 ?_
  refine x_icmp_gt (tgt := 25) (pc := 16) hC dX10_majorityOf_16 (by decide) (fun hc => ?_) (fun hc => ?_)
  · replace h := jit_pos hc h
    refine x_iload_n (pc := 25) hC dX10_majorityOf_25 rfl rfl ?_
    exact x_iret (pc := 26) hC hR dX10_majorityOf_26 (jrR h) rfl
  · replace h := jit_neg hc h
    obtain ⟨l2_6, el2_6, h⟩ := jlet_some h
    refine x_iinc (ls2 := [jA 166, jI l1, jI l2_6]) (pc := 19) hC dX10_majorityOf_19 rfl (by decide) rfl el2_6 rfl ?_
    refine x_goto (tgt := 2) (pc := 22) hC dX10_majorityOf_22 (by decide) ?_
    exact Hself2 _ h

set_option maxHeartbeats 4000000 in
set_option maxRecDepth 20000 in
theorem ok_X10_majority {X : jX} {n : Nat} (hn : 179 ≤ n) {l1 : Int} {M : jM} {rz : Int} {Mz : jM} (h : f_X10_majority l1 M = some (rz, Mz)) : jCt X n yX10_majority cX10_majority 2 (some .int) 11 [jA 166, jI l1] M (some (jI rz)) Mz := by
  refine jCt_of (own := RX10) (ls := [jA 166, jI l1]) (by decide +kernel) rfl hn (Nat.le_of_ble_eq_true rfl) rfl ?_
  intro C hC hR
  unfold f_X10_majority at h
  refine x_aloadA_n (pc := 0) hC dX10_majority_0 rfl rfl k_166 (by decide) ?_
  refine x_iconst (pc := 1) hC dX10_majority_1 ?_
  obtain ⟨M1, eM1, h⟩ := jlet_some h
  refine x_pi (pc := 2) (ji := 0) hC fl_X10_3 rfl ft10_0 k_166 dX10_majority_2 eM1 ?_
  refine x_aloadA_n (pc := 5) hC dX10_majority_5 rfl rfl k_166 (by decide) ?_
  refine x_iload_n (pc := 6) hC dX10_majority_6 rfl rfl ?_
  obtain ⟨v4, M3, e2, h⟩ := jbW_some h
  refine x_cV (pc := 7) hC mv_X10_411 (ok_X10_noSkater hn e2) rfl (Nat.le_of_ble_eq_true rfl) k_166 rfl (by decide) (jRo0 C) (Nat.le_of_ble_eq_true rfl) dX10_majority_7 rfl ?_
  refine x_if_eq (tgt := 15) (pc := 10) hC dX10_majority_10 (by decide) (fun hc => ?_) (fun hc => ?_)
  · replace h := jit_pos hc h
    refine x_aloadA_n (pc := 15) hC dX10_majority_15 rfl rfl k_166 (by decide) ?_
    obtain ⟨M6, e5, h⟩ := jbV_some h
    refine x_cV (pc := 16) hC mv_X10_450 (ok_X10_laysPlaces hn e5) rfl (Nat.le_of_ble_eq_true rfl) k_166 rfl (by decide) (jRo0 C) (Nat.le_of_ble_eq_true rfl) dX10_majority_16 rfl ?_
    refine x_aloadA_n (pc := 19) hC dX10_majority_19 rfl rfl k_166 (by decide) ?_
    refine x_iload_n (pc := 20) hC dX10_majority_20 rfl rfl ?_
    obtain ⟨v8, e7, h⟩ := jbR_some h
    refine x_cV (pc := 21) hC mv_X10_456 (ok_X10_majorityOf hn e7) rfl (Nat.le_of_ble_eq_true rfl) k_166 rfl (by decide) (jRo0 C) (Nat.le_of_ble_eq_true rfl) dX10_majority_21 rfl ?_
    exact x_iret (pc := 24) hC hR dX10_majority_24 (jr1 h) (jr2 h)
  · replace h := jit_neg hc h
    refine x_iconst (pc := 13) hC dX10_majority_13 ?_
    exact x_iret (pc := 14) hC hR dX10_majority_14 (jr1 h) (jr2 h)

set_option maxHeartbeats 4000000 in
set_option maxRecDepth 20000 in
theorem ok_X10_placesOf {X : jX} {n : Nat} (hn : 179 ≤ n) {l1 : Int} {M : jM} {rz : Int} (h : f_X10_placesOf l1 M = some rz) : jCt X n yX10_placesOf cX10_placesOf 4 (some .int) 0 [jA 166, jI l1] M (some (jI rz)) M := by
  refine jCt_of (own := RX10) (ls := [jA 166, jI l1, jN, jN]) (by decide +kernel) rfl hn (Nat.le_of_ble_eq_true rfl) rfl ?_
  intro C hC hR
  unfold f_X10_placesOf at h
  refine x_iconst (pc := 0) hC dX10_placesOf_0 ?_
  refine x_istore_n (ls2 := [jA 166, jI l1, jI 0, jN]) (pc := 1) hC dX10_placesOf_1 rfl (by decide) rfl rfl rfl ?_
  refine x_iconst (pc := 2) hC dX10_placesOf_2 ?_
  refine x_istore_n (ls2 := [jA 166, jI l1, jI 0, jI 0]) (pc := 3) hC dX10_placesOf_3 rfl (by decide) rfl rfl rfl ?_
  refine jlp2_ind (P := fun (l2_1 : Int) (l3_2 : Int) => jG C X n 4 0 0 4 [jA 166, jI l1, jI l2_1, jI l3_2] [] M) ?_ _ _ _ h
  intro self3 l2_1 l3_2 Hself3 h
  refine x_iload_n (pc := 4) hC dX10_placesOf_4 rfl rfl ?_
  refine x_aloadA_n (pc := 5) hC dX10_placesOf_5 rfl rfl k_166 (by decide) ?_
  refine x_gf (pc := 6) (b := 169) hC fl_X10_81 ft10_9 k_166 (by decide) (off := 3) (by decide +kernel) (by decide) dX10_placesOf_6 ?_
  refine x_iconst (pc := 9) hC dX10_placesOf_9 ?_
  obtain ⟨hb4, h⟩ := jck_some h
  refine x_iald (pc := 10) hC k_169 (by rw [l_169]; exact hb4) dX10_placesOf_10 ?_
  refine x_icmp_ge (tgt := 34) (pc := 11) hC dX10_placesOf_11 (by decide) (fun hc => ?_) (fun hc => ?_)
  · replace h := jit_pos hc h
    refine x_iload_n (pc := 34) hC dX10_placesOf_34 rfl rfl ?_
    exact x_iret (pc := 35) hC hR dX10_placesOf_35 (jrR h) rfl
  · replace h := jit_neg hc h
    refine x_iload_n (pc := 14) hC dX10_placesOf_14 rfl rfl ?_
    refine x_aloadA_n (pc := 15) hC dX10_placesOf_15 rfl rfl k_166 (by decide) ?_
    refine x_gf (pc := 16) (b := 177) hC fl_X10_106 ft10_27 k_166 (by decide) (off := 11) (by decide +kernel) (by decide) dX10_placesOf_16 ?_
    refine x_bipush (pc := 19) hC dX10_placesOf_19 rfl ?_
    refine x_iload_n (pc := 21) hC dX10_placesOf_21 rfl rfl ?_
    refine x_imul (pc := 22) hC dX10_placesOf_22 ?_
    refine x_iload_n (pc := 23) hC dX10_placesOf_23 rfl rfl ?_
    refine x_iadd (pc := 24) hC dX10_placesOf_24 ?_
    obtain ⟨hb5, h⟩ := jck_some h
    refine x_iald (pc := 25) hC k_177 (by rw [l_177]; exact hb5) dX10_placesOf_25 ?_
    refine x_iadd (pc := 26) hC dX10_placesOf_26 ?_
    obtain ⟨l2_6, el2_6, h⟩ := jlet_some h
    refine x_istore_n (ls2 := [jA 166, jI l1, jI l2_6, jI l3_2]) (pc := 27) hC dX10_placesOf_27 rfl (by decide) rfl el2_6 rfl ?_
    obtain ⟨l3_7, el3_7, h⟩ := jlet_some h
    refine x_iinc (ls2 := [jA 166, jI l1, jI l2_6, jI l3_7]) (pc := 28) hC dX10_placesOf_28 rfl (by decide) rfl el3_7 rfl ?_
    refine x_goto (tgt := 4) (pc := 31) hC dX10_placesOf_31 (by decide) ?_
    exact Hself3 _ _ h

set_option maxHeartbeats 4000000 in
set_option maxRecDepth 20000 in
theorem ok_X10_isMajor {X : jX} {n : Nat} (hn : 179 ≤ n) {l1 : Int} {l2 : Int} {M : jM} {rz : Int} (h : f_X10_isMajor l1 l2 M = some rz) : jCt X n yX10_isMajor cX10_isMajor 4 (some .boolean) 2 [jA 166, jI l1, jI l2] M (some (jI rz)) M := by
  refine jCt_of (own := RX10) (ls := [jA 166, jI l1, jI l2, jN]) (by decide +kernel) rfl hn (Nat.le_of_ble_eq_true rfl) rfl ?_
  intro C hC hR
  unfold f_X10_isMajor at h
  refine x_aloadA_n (pc := 0) hC dX10_isMajor_0 rfl rfl k_166 (by decide) ?_
  refine x_iload_n (pc := 1) hC dX10_isMajor_1 rfl rfl ?_
  obtain ⟨v2, e1, h⟩ := jbR_some h
  refine x_cV (pc := 2) hC mv_X10_456 (ok_X10_majorityOf hn e1) rfl (Nat.le_of_ble_eq_true rfl) k_166 rfl (by decide) (jRo0 C) (Nat.le_of_ble_eq_true rfl) dX10_isMajor_2 rfl ?_
  refine x_aloadA_n (pc := 5) hC dX10_isMajor_5 rfl rfl k_166 (by decide) ?_
  refine x_iload_n (pc := 6) hC dX10_isMajor_6 rfl rfl ?_
  obtain ⟨v4, e3, h⟩ := jbR_some h
  refine x_cV (pc := 7) hC mv_X10_456 (ok_X10_majorityOf hn e3) rfl (Nat.le_of_ble_eq_true rfl) k_166 rfl (by decide) (jRo0 C) (Nat.le_of_ble_eq_true rfl) dX10_isMajor_7 rfl ?_
  refine x_isub (pc := 10) hC dX10_isMajor_10 ?_
  obtain ⟨l3_5, el3_5, h⟩ := jlet_some h
  refine x_istore_n (ls2 := [jA 166, jI l1, jI l2, jI l3_5]) (pc := 11) hC dX10_isMajor_11 rfl (by decide) rfl el3_5 rfl ?_
  refine x_iload_n (pc := 12) hC dX10_isMajor_12 rfl rfl ?_
  obtain ⟨k7, Hk7, h⟩ := jk_some (P := fun k7 => ∀ (l3_6 : Int), k7 l3_6 = some rz → jG C X n 4 0 0 38 [jA 166, jI l1, jI l2, jI l3_6] [] M) h (by
    intro l3_6 h
    refine x_iload_n (pc := 38) hC dX10_isMajor_38 rfl rfl ?_
    obtain ⟨k9, Hk9, h⟩ := jk_some (P := fun k9 => ∀ (l3_8 : Int), k9 l3_8 = some rz → jG C X n 4 0 0 54 [jA 166, jI l1, jI l2, jI l3_8] [] M) h (by
      intro l3_8 h
      refine x_iload_n (pc := 54) hC dX10_isMajor_54 rfl rfl ?_
      refine x_if_lt (tgt := 67) (pc := 55) hC dX10_isMajor_55 (by decide) (fun hc => ?_) (fun hc => ?_)
      · replace h := jit_pos hc h
        refine x_iconst (pc := 67) hC dX10_isMajor_67 ?_
        refine x_goto (tgt := 72) (pc := 68) hC dX10_isMajor_68 (by decide) ?_
        exact x_zret (pc := 72) hC hR dX10_isMajor_72 (Or.inr jw1) (jrR h) rfl
      · replace h := jit_neg hc h
        refine x_iload_n (pc := 58) hC dX10_isMajor_58 rfl rfl ?_
        refine x_if_ne (tgt := 71) (pc := 59) hC dX10_isMajor_59 (by decide) (fun hc => ?_) (fun hc => ?_)
        · replace h := jit_neg hc h
          refine x_iconst (pc := 71) hC dX10_isMajor_71 ?_
          exact x_zret (pc := 72) hC hR dX10_isMajor_72 (Or.inl jw0) (jrR h) rfl
        · replace h := jit_pos hc h
          refine x_iload_n (pc := 62) hC dX10_isMajor_62 rfl rfl ?_
          refine x_iload_n (pc := 63) hC dX10_isMajor_63 rfl rfl ?_
          refine x_icmp_ge (tgt := 71) (pc := 64) hC dX10_isMajor_64 (by decide) (fun hc => ?_) (fun hc => ?_)
          · replace h := jit_pos hc h
            refine x_iconst (pc := 71) hC dX10_isMajor_71 ?_
            exact x_zret (pc := 72) hC hR dX10_isMajor_72 (Or.inl jw0) (jrR h) rfl
          · replace h := jit_neg hc h
            refine x_iconst (pc := 67) hC dX10_isMajor_67 ?_
            refine x_goto (tgt := 72) (pc := 68) hC dX10_isMajor_68 (by decide) ?_
            exact x_zret (pc := 72) hC hR dX10_isMajor_72 (Or.inr jw1) (jrR h) rfl)
    refine x_if_ne (tgt := 54) (pc := 39) hC dX10_isMajor_39 (by decide) (fun hc => ?_) (fun hc => ?_)
    · replace h := jit_neg hc h
      exact Hk9 _ h
    · replace h := jit_pos hc h
      refine x_aloadA_n (pc := 42) hC dX10_isMajor_42 rfl rfl k_166 (by decide) ?_
      refine x_iload_n (pc := 43) hC dX10_isMajor_43 rfl rfl ?_
      obtain ⟨v11, e10, h⟩ := jbR_some h
      refine x_cV (pc := 44) hC mv_X10_459 (ok_X10_placesOf hn e10) rfl (Nat.le_of_ble_eq_true rfl) k_166 rfl (by decide) (jRo0 C) (Nat.le_of_ble_eq_true rfl) dX10_isMajor_44 rfl ?_
      refine x_aloadA_n (pc := 47) hC dX10_isMajor_47 rfl rfl k_166 (by decide) ?_
      refine x_iload_n (pc := 48) hC dX10_isMajor_48 rfl rfl ?_
      obtain ⟨v13, e12, h⟩ := jbR_some h
      refine x_cV (pc := 49) hC mv_X10_459 (ok_X10_placesOf hn e12) rfl (Nat.le_of_ble_eq_true rfl) k_166 rfl (by decide) (jRo0 C) (Nat.le_of_ble_eq_true rfl) dX10_isMajor_49 rfl ?_
      refine x_isub (pc := 52) hC dX10_isMajor_52 ?_
      obtain ⟨l3_14, el3_14, h⟩ := jlet_some h
      refine x_istore_n (ls2 := [jA 166, jI l1, jI l2, jI l3_14]) (pc := 53) hC dX10_isMajor_53 rfl (by decide) rfl el3_14 rfl ?_
      exact Hk9 _ h)
  refine x_if_ne (tgt := 38) (pc := 13) hC dX10_isMajor_13 (by decide) (fun hc => ?_) (fun hc => ?_)
  · replace h := jit_neg hc h
    exact Hk7 _ h
  · replace h := jit_pos hc h
    refine x_aloadA_n (pc := 16) hC dX10_isMajor_16 rfl rfl k_166 (by decide) ?_
    refine x_iload_n (pc := 17) hC dX10_isMajor_17 rfl rfl ?_
    refine x_aloadA_n (pc := 18) hC dX10_isMajor_18 rfl rfl k_166 (by decide) ?_
    refine x_iload_n (pc := 19) hC dX10_isMajor_19 rfl rfl ?_
    obtain ⟨v16, e15, h⟩ := jbR_some h
    refine x_cV (pc := 20) hC mv_X10_456 (ok_X10_majorityOf hn e15) rfl (Nat.le_of_ble_eq_true rfl) k_166 rfl (by decide) (jRo0 C) (Nat.le_of_ble_eq_true rfl) dX10_isMajor_20 rfl ?_
    obtain ⟨v18, e17, h⟩ := jbR_some h
    refine x_cV (pc := 23) hC mv_X10_453 (ok_X10_atOrAhead hn e17) rfl (Nat.le_of_ble_eq_true rfl) k_166 rfl (by decide) (jRo0 C) (Nat.le_of_ble_eq_true rfl) dX10_isMajor_23 rfl ?_
    refine x_aloadA_n (pc := 26) hC dX10_isMajor_26 rfl rfl k_166 (by decide) ?_
    refine x_iload_n (pc := 27) hC dX10_isMajor_27 rfl rfl ?_
    refine x_aloadA_n (pc := 28) hC dX10_isMajor_28 rfl rfl k_166 (by decide) ?_
    refine x_iload_n (pc := 29) hC dX10_isMajor_29 rfl rfl ?_
    obtain ⟨v20, e19, h⟩ := jbR_some h
    refine x_cV (pc := 30) hC mv_X10_456 (ok_X10_majorityOf hn e19) rfl (Nat.le_of_ble_eq_true rfl) k_166 rfl (by decide) (jRo0 C) (Nat.le_of_ble_eq_true rfl) dX10_isMajor_30 rfl ?_
    obtain ⟨v22, e21, h⟩ := jbR_some h
    refine x_cV (pc := 33) hC mv_X10_453 (ok_X10_atOrAhead hn e21) rfl (Nat.le_of_ble_eq_true rfl) k_166 rfl (by decide) (jRo0 C) (Nat.le_of_ble_eq_true rfl) dX10_isMajor_33 rfl ?_
    refine x_isub (pc := 36) hC dX10_isMajor_36 ?_
    obtain ⟨l3_23, el3_23, h⟩ := jlet_some h
    refine x_istore_n (ls2 := [jA 166, jI l1, jI l2, jI l3_23]) (pc := 37) hC dX10_isMajor_37 rfl (by decide) rfl el3_23 rfl ?_
    exact Hk7 _ h

set_option maxHeartbeats 4000000 in
set_option maxRecDepth 20000 in
theorem ok_X10_major {X : jX} {n : Nat} (hn : 179 ≤ n) {l1 : Int} {M : jM} {rz : Int} {Mz : jM} (h : f_X10_major l1 M = some (rz, Mz)) : jCt X n yX10_major cX10_major 5 (some .int) 11 [jA 166, jI l1] M (some (jI rz)) Mz := by
  refine jCt_of (own := RX10) (ls := [jA 166, jI l1, jN, jN, jN]) (by decide +kernel) rfl hn (Nat.le_of_ble_eq_true rfl) rfl ?_
  intro C hC hR
  unfold f_X10_major at h
  refine x_aloadA_n (pc := 0) hC dX10_major_0 rfl rfl k_166 (by decide) ?_
  refine x_iconst (pc := 1) hC dX10_major_1 ?_
  obtain ⟨M1, eM1, h⟩ := jlet_some h
  refine x_pi (pc := 2) (ji := 0) hC fl_X10_3 rfl ft10_0 k_166 dX10_major_2 eM1 ?_
  refine x_aloadA_n (pc := 5) hC dX10_major_5 rfl rfl k_166 (by decide) ?_
  obtain ⟨M3, e2, h⟩ := jbV_some h
  refine x_cV (pc := 6) hC mv_X10_450 (ok_X10_laysPlaces hn e2) rfl (Nat.le_of_ble_eq_true rfl) k_166 rfl (by decide) (jRo0 C) (Nat.le_of_ble_eq_true rfl) dX10_major_6 rfl ?_
  refine x_iconst (pc := 9) hC dX10_major_9 ?_
  refine x_istore_n (ls2 := [jA 166, jI l1, jI 0, jN, jN]) (pc := 10) hC dX10_major_10 rfl (by decide) rfl rfl rfl ?_
  refine jlp1_ind (P := fun (l2_4 : Int) => jG C X n 5 0 0 11 [jA 166, jI l1, jI l2_4, jN, jN] [] M3) ?_ _ _ h
  intro self5 l2_4 Hself5 h
  refine x_iload_n (pc := 11) hC dX10_major_11 rfl rfl ?_
  refine x_aloadA_n (pc := 12) hC dX10_major_12 rfl rfl k_166 (by decide) ?_
  refine x_gf (pc := 13) (b := 169) hC fl_X10_81 ft10_9 k_166 (by decide) (off := 3) (by decide +kernel) (by decide) dX10_major_13 ?_
  refine x_iconst (pc := 16) hC dX10_major_16 ?_
  obtain ⟨hb6, h⟩ := jck_some h
  refine x_iald (pc := 17) hC k_169 (by rw [l_169]; exact hb6) dX10_major_17 ?_
  refine x_icmp_ge (tgt := 80) (pc := 18) hC dX10_major_18 (by decide) (fun hc => ?_) (fun hc => ?_)
  · replace h := jit_pos hc h
    refine x_iconst (pc := 80) hC dX10_major_80 ?_
    exact x_iret (pc := 81) hC hR dX10_major_81 (jr1 h) (jr2 h)
  · replace h := jit_neg hc h
    refine x_iconst (pc := 21) hC dX10_major_21 ?_
    refine x_istore_n (ls2 := [jA 166, jI l1, jI l2_4, jI 0, jN]) (pc := 22) hC dX10_major_22 rfl (by decide) rfl rfl rfl ?_
    refine x_iconst (pc := 23) hC dX10_major_23 ?_
    refine x_istore (ls2 := [jA 166, jI l1, jI l2_4, jI 0, jI 0]) (pc := 24) hC dX10_major_24 (by decide) rfl rfl rfl ?_
    refine jlp2_ind (P := fun (l3_7 : Int) (l4_8 : Int) => jG C X n 5 0 0 26 [jA 166, jI l1, jI l2_4, jI l3_7, jI l4_8] [] M3) ?_ _ _ _ h
    intro self9 l3_7 l4_8 Hself9 h
    refine x_iload (pc := 26) hC dX10_major_26 rfl ?_
    refine x_aloadA_n (pc := 28) hC dX10_major_28 rfl rfl k_166 (by decide) ?_
    refine x_gf (pc := 29) (b := 169) hC fl_X10_81 ft10_9 k_166 (by decide) (off := 3) (by decide +kernel) (by decide) dX10_major_29 ?_
    refine x_iconst (pc := 32) hC dX10_major_32 ?_
    obtain ⟨hb10, h⟩ := jck_some h
    refine x_iald (pc := 33) hC k_169 (by rw [l_169]; exact hb10) dX10_major_33 ?_
    refine x_icmp_ge (tgt := 67) (pc := 34) hC dX10_major_34 (by decide) (fun hc => ?_) (fun hc => ?_)
    · replace h := jit_pos hc h
      refine x_iload_n (pc := 67) hC dX10_major_67 rfl rfl ?_
      refine x_iload_n (pc := 68) hC dX10_major_68 rfl rfl ?_
      refine x_icmp_ne (tgt := 74) (pc := 69) hC dX10_major_69 (by decide) (fun hc => ?_) (fun hc => ?_)
      · replace h := jit_neg hc h
        obtain ⟨l2_11, el2_11, h⟩ := jlet_some h
        refine x_iinc (ls2 := [jA 166, jI l1, jI l2_11, jI l3_7, jI l4_8]) (pc := 74) hC dX10_major_74 rfl (by decide) rfl el2_11 rfl ?_
        refine x_goto (tgt := 11) (pc := 77) hC dX10_major_77 (by decide) ?_
        refine x_kill 3 (ls2 := [jA 166, jI l1, jI l2_11, jN, jI l4_8]) rfl ?_
        refine x_kill 4 (ls2 := [jA 166, jI l1, jI l2_11, jN, jN]) rfl ?_
        exact Hself5 _ h
      · replace h := jit_pos hc h
        refine x_iload_n (pc := 72) hC dX10_major_72 rfl rfl ?_
        exact x_iret (pc := 73) hC hR dX10_major_73 (jr1 h) (jr2 h)
    · replace h := jit_neg hc h
      refine x_iload_n (pc := 37) hC dX10_major_37 rfl rfl ?_
      refine x_iload (pc := 38) hC dX10_major_38 rfl ?_
      refine x_iload_n (pc := 40) hC dX10_major_40 rfl rfl ?_
      obtain ⟨k13, Hk13, h⟩ := jk_some (P := fun k13 => ∀ (s1_12 : Int), k13 s1_12 = some (rz, Mz) → jG C X n 5 0 0 59 [jA 166, jI l1, jI l2_4, jI l3_7, jI l4_8] [jI s1_12, jI l3_7] M3) h (by
        intro s1_12 h
        refine x_iadd (pc := 59) hC dX10_major_59 ?_
        obtain ⟨l3_14, el3_14, h⟩ := jlet_some h
        refine x_istore_n (ls2 := [jA 166, jI l1, jI l2_4, jI l3_14, jI l4_8]) (pc := 60) hC dX10_major_60 rfl (by decide) rfl el3_14 rfl ?_
        obtain ⟨l4_15, el4_15, h⟩ := jlet_some h
        refine x_iinc (ls2 := [jA 166, jI l1, jI l2_4, jI l3_14, jI l4_15]) (pc := 61) hC dX10_major_61 rfl (by decide) rfl el4_15 rfl ?_
        refine x_goto (tgt := 26) (pc := 64) hC dX10_major_64 (by decide) ?_
        exact Hself9 _ _ h)
      obtain ⟨k16, Hk16, h⟩ := jk_some (P := fun k16 => k16 = some (rz, Mz) → jG C X n 5 0 0 58 [jA 166, jI l1, jI l2_4, jI l3_7, jI l4_8] [jI l3_7] M3) h (by
        intro h
        refine x_iconst (pc := 58) hC dX10_major_58 ?_
        exact Hk13 _ h)
      refine x_icmp_eq (tgt := 58) (pc := 41) hC dX10_major_41 (by decide) (fun hc => ?_) (fun hc => ?_)
      · replace h := jit_pos hc h
        exact Hk16 h
      · replace h := jit_neg hc h
        refine x_aloadA_n (pc := 44) hC dX10_major_44 rfl rfl k_166 (by decide) ?_
        refine x_iload (pc := 45) hC dX10_major_45 rfl ?_
        refine x_iload_n (pc := 47) hC dX10_major_47 rfl rfl ?_
        obtain ⟨v18, e17, h⟩ := jbR_some h
        refine x_cV (pc := 48) hC mv_X10_462 (ok_X10_isMajor hn e17) rfl (Nat.le_of_ble_eq_true rfl) k_166 rfl (by decide) (jRo0 C) (Nat.le_of_ble_eq_true rfl) dX10_major_48 rfl ?_
        refine x_if_eq (tgt := 58) (pc := 51) hC dX10_major_51 (by decide) (fun hc => ?_) (fun hc => ?_)
        · replace h := jit_pos hc h
          exact Hk16 h
        · replace h := jit_neg hc h
          refine x_iconst (pc := 54) hC dX10_major_54 ?_
          refine x_goto (tgt := 59) (pc := 55) hC dX10_major_55 (by decide) ?_
          exact Hk13 _ h

set_option maxHeartbeats 4000000 in
set_option maxRecDepth 20000 in
theorem ok_X10_panel {X : jX} {n : Nat} (hn : 179 ≤ n) {l1 : Int} {l2 : Int} {M : jM} {rz : Int} {Mz : jM} (h : f_X10_panel l1 l2 M = some (rz, Mz)) : jCt X n yX10_panel cX10_panel 8 (some .int) 1 [jA 166, jI l1, jI l2] M (some (jI rz)) Mz := by
  refine jCt_of (own := RX10) (ls := [jA 166, jI l1, jI l2, jN, jN, jN, jN, jN]) (by decide +kernel) rfl hn (Nat.le_of_ble_eq_true rfl) rfl ?_
  intro C hC hR
  unfold f_X10_panel at h
  refine x_aloadA_n (pc := 0) hC dX10_panel_0 rfl rfl k_166 (by decide) ?_
  refine x_iconst (pc := 1) hC dX10_panel_1 ?_
  obtain ⟨M1, eM1, h⟩ := jlet_some h
  refine x_pi (pc := 2) (ji := 0) hC fl_X10_3 rfl ft10_0 k_166 dX10_panel_2 eM1 ?_
  refine x_aloadA_n (pc := 5) hC dX10_panel_5 rfl rfl k_166 (by decide) ?_
  refine x_iload_n (pc := 6) hC dX10_panel_6 rfl rfl ?_
  refine x_iconst (pc := 7) hC dX10_panel_7 ?_
  refine x_aloadA_n (pc := 8) hC dX10_panel_8 rfl rfl k_166 (by decide) ?_
  refine x_gf (pc := 9) (b := 169) hC fl_X10_81 ft10_9 k_166 (by decide) (off := 3) (by decide +kernel) (by decide) dX10_panel_9 ?_
  refine x_iconst (pc := 12) hC dX10_panel_12 ?_
  obtain ⟨hb2, h⟩ := jck_some h
  refine x_iald (pc := 13) hC k_169 (by rw [l_169]; exact hb2) dX10_panel_13 ?_
  obtain ⟨v4, e3, h⟩ := jbR_some h
  refine x_cS (pc := 14) hC ms_X10_69 (ok_X10_in hn e3) rfl (Nat.le_of_ble_eq_true rfl) (jRo0 C) (Nat.le_of_ble_eq_true rfl) dX10_panel_14 rfl ?_
  obtain ⟨k6, Hk6, h⟩ := jk_some (P := fun k6 => ∀ (s1_5 : Int), k6 s1_5 = some (rz, Mz) → jG C X n 8 0 0 25 [jA 166, jI l1, jI l2, jN, jN, jN, jN, jN] [jI s1_5, jA 166] M1) h (by
    intro s1_5 h
    refine x_iconst (pc := 25) hC dX10_panel_25 ?_
    obtain ⟨v9, M8, e7, h⟩ := jbW_some h
    refine x_cV (pc := 26) hC mv_X10_268 (ok_X10_throwsIf hn e7) rfl (Nat.le_of_ble_eq_true rfl) k_166 rfl (by decide) (jRo0 C) (Nat.le_of_ble_eq_true rfl) dX10_panel_26 rfl ?_
    refine x_if_eq (tgt := 34) (pc := 29) hC dX10_panel_29 (by decide) (fun hc => ?_) (fun hc => ?_)
    · replace h := jit_pos hc h
      refine x_iload_n (pc := 34) hC dX10_panel_34 rfl rfl ?_
      refine x_istore_n (ls2 := [jA 166, jI l1, jI l2, jI l1, jN, jN, jN, jN]) (pc := 35) hC dX10_panel_35 rfl (by decide) rfl rfl rfl ?_
      refine x_iconst (pc := 36) hC dX10_panel_36 ?_
      refine x_istore (ls2 := [jA 166, jI l1, jI l2, jI l1, jI 0, jN, jN, jN]) (pc := 37) hC dX10_panel_37 (by decide) rfl rfl rfl ?_
      refine x_aloadA_n (pc := 39) hC dX10_panel_39 rfl rfl k_166 (by decide) ?_
      refine x_gf (pc := 40) (b := 169) hC fl_X10_81 ft10_9 k_166 (by decide) (off := 3) (by decide +kernel) (by decide) dX10_panel_40 ?_
      refine x_iconst (pc := 43) hC dX10_panel_43 ?_
      obtain ⟨hb10, h⟩ := jck_some h
      refine x_iald (pc := 44) hC k_169 (by rw [l_169]; exact hb10) dX10_panel_44 ?_
      obtain ⟨l5_11, el5_11, h⟩ := jlet_some h
      refine x_istore (ls2 := [jA 166, jI l1, jI l2, jI l1, jI 0, jI l5_11, jN, jN]) (pc := 45) hC dX10_panel_45 (by decide) rfl el5_11 rfl ?_
      refine jlp3_ind (P := fun (l3_12 : Int) (l4_13 : Int) (l5_14 : Int) => jG C X n 8 0 0 47 [jA 166, jI l1, jI l2, jI l3_12, jI l4_13, jI l5_14, jN, jN] [] M8) ?_ _ _ _ _ h
      intro self15 l3_12 l4_13 l5_14 Hself15 h
      refine x_iload (pc := 47) hC dX10_panel_47 rfl ?_
      refine x_aloadA_n (pc := 49) hC dX10_panel_49 rfl rfl k_166 (by decide) ?_
      refine x_gf (pc := 50) (b := 169) hC fl_X10_81 ft10_9 k_166 (by decide) (off := 3) (by decide +kernel) (by decide) dX10_panel_50 ?_
      refine x_iconst (pc := 53) hC dX10_panel_53 ?_
      obtain ⟨hb16, h⟩ := jck_some h
      refine x_iald (pc := 54) hC k_169 (by rw [l_169]; exact hb16) dX10_panel_54 ?_
      refine x_iload_n (pc := 55) hC dX10_panel_55 rfl rfl ?_
      refine x_isub (pc := 56) hC dX10_panel_56 ?_
      refine x_icmp_le (tgt := 142) (pc := 57) hC dX10_panel_57 (by decide) (fun hc => ?_) (fun hc => ?_)
      · replace h := jit_pos hc h
        refine x_iload (pc := 142) hC dX10_panel_142 rfl ?_
        exact x_iret (pc := 144) hC hR dX10_panel_144 (jr1 h) (jr2 h)
      · replace h := jit_neg hc h
        refine x_ldcwi (pc := 60) hC cw_X10_465 dX10_panel_60 ?_
        refine x_iload_n (pc := 63) hC dX10_panel_63 rfl rfl ?_
        refine x_imul (pc := 64) hC dX10_panel_64 ?_
        refine x_sipush (pc := 65) hC dX10_panel_65 rfl ?_
        refine x_iadd (pc := 68) hC dX10_panel_68 ?_
        obtain ⟨l3_17, el3_17, h⟩ := jlet_some h
        refine x_istore_n (ls2 := [jA 166, jI l1, jI l2, jI l3_17, jI l4_13, jI l5_14, jN, jN]) (pc := 69) hC dX10_panel_69 rfl (by decide) rfl el3_17 rfl ?_
        refine x_iload_n (pc := 70) hC dX10_panel_70 rfl rfl ?_
        refine x_bipush (pc := 71) hC dX10_panel_71 rfl ?_
        refine x_ishr (pc := 73) hC dX10_panel_73 ?_
        refine x_sipush (pc := 74) hC dX10_panel_74 rfl ?_
        refine x_iand (pc := 77) hC dX10_panel_77 ?_
        refine x_iload (pc := 78) hC dX10_panel_78 rfl ?_
        obtain ⟨hz18, h⟩ := jck_some h
        refine x_irem (pc := 80) hC dX10_panel_80 hz18 ?_
        obtain ⟨l6_19, el6_19, h⟩ := jlet_some h
        refine x_istore (ls2 := [jA 166, jI l1, jI l2, jI l3_17, jI l4_13, jI l5_14, jI l6_19, jN]) (pc := 81) hC dX10_panel_81 (by decide) rfl el6_19 rfl ?_
        refine x_iconst (pc := 83) hC dX10_panel_83 ?_
        refine x_istore (ls2 := [jA 166, jI l1, jI l2, jI l3_17, jI l4_13, jI l5_14, jI l6_19, jI 0]) (pc := 84) hC dX10_panel_84 (by decide) rfl rfl rfl ?_
        refine jlp2_ind (P := fun (l6_20 : Int) (l7_21 : Int) => jG C X n 8 0 0 86 [jA 166, jI l1, jI l2, jI l3_17, jI l4_13, jI l5_14, jI l6_20, jI l7_21] [] M8) ?_ _ _ _ h
        intro self22 l6_20 l7_21 Hself22 h
        refine x_iload (pc := 86) hC dX10_panel_86 rfl ?_
        refine x_iload (pc := 88) hC dX10_panel_88 rfl ?_
        obtain ⟨v24, e23, h⟩ := jbR_some h
        refine x_cS (pc := 90) hC ms_X10_212 (ok_X10_isIn hn e23) rfl (Nat.le_of_ble_eq_true rfl) (jRo0 C) (Nat.le_of_ble_eq_true rfl) dX10_panel_90 rfl ?_
        obtain ⟨k25, Hk25, h⟩ := jk_some (P := fun k25 => k25 = some (rz, Mz) → jG C X n 8 0 0 101 [jA 166, jI l1, jI l2, jI l3_17, jI l4_13, jI l5_14, jI l6_20, jI l7_21] [] M8) h (by
          intro h
          refine x_iload (pc := 101) hC dX10_panel_101 rfl ?_
          refine x_iload (pc := 103) hC dX10_panel_103 rfl ?_
          refine x_iload (pc := 105) hC dX10_panel_105 rfl ?_
          obtain ⟨v27, e26, h⟩ := jbR_some h
          refine x_cS (pc := 107) hC ms_X10_212 (ok_X10_isIn hn e26) rfl (Nat.le_of_ble_eq_true rfl) (jRo0 C) (Nat.le_of_ble_eq_true rfl) dX10_panel_107 rfl ?_
          obtain ⟨k29, Hk29, h⟩ := jk_some (P := fun k29 => ∀ (s1_28 : Int), k29 s1_28 = some (rz, Mz) → jG C X n 8 0 0 118 [jA 166, jI l1, jI l2, jI l3_17, jI l4_13, jI l5_14, jI l6_20, jI l7_21] [jI s1_28, jI l6_20] M8) h (by
            intro s1_28 h
            refine x_isub (pc := 118) hC dX10_panel_118 ?_
            obtain ⟨l6_30, el6_30, h⟩ := jlet_some h
            refine x_istore (ls2 := [jA 166, jI l1, jI l2, jI l3_17, jI l4_13, jI l5_14, jI l6_30, jI l7_21]) (pc := 119) hC dX10_panel_119 (by decide) rfl el6_30 rfl ?_
            obtain ⟨l7_31, el7_31, h⟩ := jlet_some h
            refine x_iinc (ls2 := [jA 166, jI l1, jI l2, jI l3_17, jI l4_13, jI l5_14, jI l6_30, jI l7_31]) (pc := 121) hC dX10_panel_121 rfl (by decide) rfl el7_31 rfl ?_
            refine x_goto (tgt := 86) (pc := 124) hC dX10_panel_124 (by decide) ?_
            exact Hself22 _ _ h)
          refine x_if_eq (tgt := 117) (pc := 110) hC dX10_panel_110 (by decide) (fun hc => ?_) (fun hc => ?_)
          · replace h := jit_pos hc h
            refine x_iconst (pc := 117) hC dX10_panel_117 ?_
            exact Hk29 _ h
          · replace h := jit_neg hc h
            refine x_iconst (pc := 113) hC dX10_panel_113 ?_
            refine x_goto (tgt := 118) (pc := 114) hC dX10_panel_114 (by decide) ?_
            exact Hk29 _ h)
        refine x_if_ne (tgt := 101) (pc := 93) hC dX10_panel_93 (by decide) (fun hc => ?_) (fun hc => ?_)
        · replace h := jit_neg hc h
          exact Hk25 h
        · replace h := jit_pos hc h
          refine x_iload (pc := 96) hC dX10_panel_96 rfl ?_
          refine x_if_le (tgt := 127) (pc := 98) hC dX10_panel_98 (by decide) (fun hc => ?_) (fun hc => ?_)
          · replace h := jit_pos hc h
            refine x_iload (pc := 127) hC dX10_panel_127 rfl ?_
            refine x_iconst (pc := 129) hC dX10_panel_129 ?_
            refine x_iload (pc := 130) hC dX10_panel_130 rfl ?_
            refine x_ishl (pc := 132) hC dX10_panel_132 ?_
            refine x_ior (pc := 133) hC dX10_panel_133 ?_
            obtain ⟨l4_32, el4_32, h⟩ := jlet_some h
            refine x_istore (ls2 := [jA 166, jI l1, jI l2, jI l3_17, jI l4_32, jI l5_14, jI l6_20, jI l7_21]) (pc := 134) hC dX10_panel_134 (by decide) rfl el4_32 rfl ?_
            obtain ⟨l5_33, el5_33, h⟩ := jlet_some h
            refine x_iinc (ls2 := [jA 166, jI l1, jI l2, jI l3_17, jI l4_32, jI l5_33, jI l6_20, jI l7_21]) (pc := 136) hC dX10_panel_136 rfl (by decide) rfl el5_33 rfl ?_
            refine x_goto (tgt := 47) (pc := 139) hC dX10_panel_139 (by decide) ?_
            refine x_kill 6 (ls2 := [jA 166, jI l1, jI l2, jI l3_17, jI l4_32, jI l5_33, jN, jI l7_21]) rfl ?_
            refine x_kill 7 (ls2 := [jA 166, jI l1, jI l2, jI l3_17, jI l4_32, jI l5_33, jN, jN]) rfl ?_
            exact Hself15 _ _ _ h
          · replace h := jit_neg hc h
            exact Hk25 h
    · replace h := jit_neg hc h
      refine x_iconst (pc := 32) hC dX10_panel_32 ?_
      exact x_iret (pc := 33) hC hR dX10_panel_33 (jr1 h) (jr2 h))
  refine x_if_ne (tgt := 24) (pc := 17) hC dX10_panel_17 (by decide) (fun hc => ?_) (fun hc => ?_)
  · replace h := jit_neg hc h
    refine x_iconst (pc := 24) hC dX10_panel_24 ?_
    exact Hk6 _ h
  · replace h := jit_pos hc h
    refine x_iconst (pc := 20) hC dX10_panel_20 ?_
    refine x_goto (tgt := 25) (pc := 21) hC dX10_panel_21 (by decide) ?_
    exact Hk6 _ h

set_option maxHeartbeats 4000000 in
set_option maxRecDepth 20000 in
theorem ok_X10_by {X : jX} {n : Nat} (hn : 179 ≤ n) {l1 : Int} {l2 : Int} {M : jM} {rz : Int} {Mz : jM} (h : f_X10_by l1 l2 M = some (rz, Mz)) : jCt X n yX10_by cX10_by 3 (some .int) 9 [jA 166, jI l1, jI l2] M (some (jI rz)) Mz := by
  refine jCt_of (own := RX10) (ls := [jA 166, jI l1, jI l2]) (by decide +kernel) rfl hn (Nat.le_of_ble_eq_true rfl) rfl ?_
  intro C hC hR
  unfold f_X10_by at h
  refine x_aloadA_n (pc := 0) hC dX10_by_0 rfl rfl k_166 (by decide) ?_
  refine x_iconst (pc := 1) hC dX10_by_1 ?_
  obtain ⟨M1, eM1, h⟩ := jlet_some h
  refine x_pi (pc := 2) (ji := 0) hC fl_X10_3 rfl ft10_0 k_166 dX10_by_2 eM1 ?_
  refine x_aloadA_n (pc := 5) hC dX10_by_5 rfl rfl k_166 (by decide) ?_
  obtain ⟨M3, e2, h⟩ := jbV_some h
  refine x_cV (pc := 6) hC mv_X10_408 (ok_X10_all hn e2) rfl (Nat.le_of_ble_eq_true rfl) k_166 rfl (by decide) (jRo0 C) (Nat.le_of_ble_eq_true rfl) dX10_by_6 rfl ?_
  refine x_aloadA_n (pc := 9) hC dX10_by_9 rfl rfl k_166 (by decide) ?_
  refine x_iload_n (pc := 10) hC dX10_by_10 rfl rfl ?_
  obtain ⟨v6, M5, e4, h⟩ := jbW_some h
  refine x_cV (pc := 11) hC mv_X10_411 (ok_X10_noSkater hn e4) rfl (Nat.le_of_ble_eq_true rfl) k_166 rfl (by decide) (jRo0 C) (Nat.le_of_ble_eq_true rfl) dX10_by_11 rfl ?_
  refine x_if_ne (tgt := 45) (pc := 14) hC dX10_by_14 (by decide) (fun hc => ?_) (fun hc => ?_)
  · replace h := jit_neg hc h
    refine x_iconst (pc := 45) hC dX10_by_45 ?_
    exact x_iret (pc := 46) hC hR dX10_by_46 (jr1 h) (jr2 h)
  · replace h := jit_pos hc h
    refine x_aloadA_n (pc := 17) hC dX10_by_17 rfl rfl k_166 (by decide) ?_
    refine x_iload_n (pc := 18) hC dX10_by_18 rfl rfl ?_
    obtain ⟨k8, Hk8, h⟩ := jk_some (P := fun k8 => ∀ (s1_7 : Int), k8 s1_7 = some (rz, Mz) → jG C X n 3 0 0 38 [jA 166, jI l1, jI l2] [jI s1_7, jA 166] M5) h (by
      intro s1_7 h
      refine x_iconst (pc := 38) hC dX10_by_38 ?_
      obtain ⟨v11, M10, e9, h⟩ := jbW_some h
      refine x_cV (pc := 39) hC mv_X10_268 (ok_X10_throwsIf hn e9) rfl (Nat.le_of_ble_eq_true rfl) k_166 rfl (by decide) (jRo0 C) (Nat.le_of_ble_eq_true rfl) dX10_by_39 rfl ?_
      refine x_if_eq (tgt := 47) (pc := 42) hC dX10_by_42 (by decide) (fun hc => ?_) (fun hc => ?_)
      · replace h := jit_pos hc h
        refine x_aloadA_n (pc := 47) hC dX10_by_47 rfl rfl k_166 (by decide) ?_
        refine x_iload_n (pc := 48) hC dX10_by_48 rfl rfl ?_
        obtain ⟨M12, eM12, h⟩ := jlet_some h
        refine x_pi (pc := 49) (ji := 15) hC fl_X10_275 rfl ft10_15 k_166 dX10_by_49 eM12 ?_
        refine x_aloadA_n (pc := 52) hC dX10_by_52 rfl rfl k_166 (by decide) ?_
        refine x_iload_n (pc := 53) hC dX10_by_53 rfl rfl ?_
        obtain ⟨v15, M14, e13, h⟩ := jbW_some h
        refine x_cV (pc := 54) hC mv_X10_399 (ok_X10_totalOf hn e13) rfl (Nat.le_of_ble_eq_true rfl) k_166 rfl (by decide) (jRo0 C) (Nat.le_of_ble_eq_true rfl) dX10_by_54 rfl ?_
        exact x_iret (pc := 57) hC hR dX10_by_57 (jr1 h) (jr2 h)
      · replace h := jit_neg hc h
        refine x_iconst (pc := 45) hC dX10_by_45 ?_
        exact x_iret (pc := 46) hC hR dX10_by_46 (jr1 h) (jr2 h))
    obtain ⟨k16, Hk16, h⟩ := jk_some (P := fun k16 => k16 = some (rz, Mz) → jG C X n 3 0 0 33 [jA 166, jI l1, jI l2] [jA 166] M5) h (by
      intro h
      refine x_iconst (pc := 33) hC dX10_by_33 ?_
      refine x_goto (tgt := 38) (pc := 34) hC dX10_by_34 (by decide) ?_
      exact Hk8 _ h)
    refine x_if_eq (tgt := 33) (pc := 19) hC dX10_by_19 (by decide) (fun hc => ?_) (fun hc => ?_)
    · replace h := jit_pos hc h
      exact Hk16 h
    · replace h := jit_neg hc h
      refine x_iload_n (pc := 22) hC dX10_by_22 rfl rfl ?_
      refine x_aloadA_n (pc := 23) hC dX10_by_23 rfl rfl k_166 (by decide) ?_
      refine x_gi (pc := 24) (ji := 15) hC fl_X10_275 rfl fn10_15 k_166 dX10_by_24 ?_
      refine x_iconst (pc := 27) hC dX10_by_27 ?_
      refine x_ixor (pc := 28) hC dX10_by_28 ?_
      refine x_iand (pc := 29) hC dX10_by_29 ?_
      refine x_if_eq (tgt := 37) (pc := 30) hC dX10_by_30 (by decide) (fun hc => ?_) (fun hc => ?_)
      · replace h := jit_pos hc h
        refine x_iconst (pc := 37) hC dX10_by_37 ?_
        exact Hk8 _ h
      · replace h := jit_neg hc h
        exact Hk16 h

set_option maxHeartbeats 4000000 in
set_option maxRecDepth 20000 in
theorem ok_X10_firsts {X : jX} {n : Nat} (hn : 179 ≤ n) {l1 : Int} {l2 : Int} {M : jM} {rz : Int} {Mz : jM} (h : f_X10_firsts l1 l2 M = some (rz, Mz)) : jCt X n yX10_firsts cX10_firsts 5 (some .int) 10 [jA 166, jI l1, jI l2] M (some (jI rz)) Mz := by
  refine jCt_of (own := RX10) (ls := [jA 166, jI l1, jI l2, jN, jN]) (by decide +kernel) rfl hn (Nat.le_of_ble_eq_true rfl) rfl ?_
  intro C hC hR
  unfold f_X10_firsts at h
  refine x_aloadA_n (pc := 0) hC dX10_firsts_0 rfl rfl k_166 (by decide) ?_
  refine x_iconst (pc := 1) hC dX10_firsts_1 ?_
  obtain ⟨M1, eM1, h⟩ := jlet_some h
  refine x_pi (pc := 2) (ji := 0) hC fl_X10_3 rfl ft10_0 k_166 dX10_firsts_2 eM1 ?_
  refine x_aloadA_n (pc := 5) hC dX10_firsts_5 rfl rfl k_166 (by decide) ?_
  obtain ⟨M3, e2, h⟩ := jbV_some h
  refine x_cV (pc := 6) hC mv_X10_408 (ok_X10_all hn e2) rfl (Nat.le_of_ble_eq_true rfl) k_166 rfl (by decide) (jRo0 C) (Nat.le_of_ble_eq_true rfl) dX10_firsts_6 rfl ?_
  refine x_aloadA_n (pc := 9) hC dX10_firsts_9 rfl rfl k_166 (by decide) ?_
  refine x_iload_n (pc := 10) hC dX10_firsts_10 rfl rfl ?_
  obtain ⟨v6, M5, e4, h⟩ := jbW_some h
  refine x_cV (pc := 11) hC mv_X10_411 (ok_X10_noSkater hn e4) rfl (Nat.le_of_ble_eq_true rfl) k_166 rfl (by decide) (jRo0 C) (Nat.le_of_ble_eq_true rfl) dX10_firsts_11 rfl ?_
  refine x_if_ne (tgt := 44) (pc := 14) hC dX10_firsts_14 (by decide) (fun hc => ?_) (fun hc => ?_)
  · replace h := jit_neg hc h
    refine x_iconst (pc := 44) hC dX10_firsts_44 ?_
    exact x_iret (pc := 45) hC hR dX10_firsts_45 (jr1 h) (jr2 h)
  · replace h := jit_pos hc h
    refine x_aloadA_n (pc := 17) hC dX10_firsts_17 rfl rfl k_166 (by decide) ?_
    refine x_iload_n (pc := 18) hC dX10_firsts_18 rfl rfl ?_
    refine x_iconst (pc := 19) hC dX10_firsts_19 ?_
    refine x_aloadA_n (pc := 20) hC dX10_firsts_20 rfl rfl k_166 (by decide) ?_
    refine x_gf (pc := 21) (b := 169) hC fl_X10_81 ft10_9 k_166 (by decide) (off := 3) (by decide +kernel) (by decide) dX10_firsts_21 ?_
    refine x_iconst (pc := 24) hC dX10_firsts_24 ?_
    obtain ⟨hb7, h⟩ := jck_some h
    refine x_iald (pc := 25) hC k_169 (by rw [l_169]; exact hb7) dX10_firsts_25 ?_
    obtain ⟨v9, e8, h⟩ := jbR_some h
    refine x_cS (pc := 26) hC ms_X10_69 (ok_X10_in hn e8) rfl (Nat.le_of_ble_eq_true rfl) (jRo0 C) (Nat.le_of_ble_eq_true rfl) dX10_firsts_26 rfl ?_
    obtain ⟨k11, Hk11, h⟩ := jk_some (P := fun k11 => ∀ (s1_10 : Int), k11 s1_10 = some (rz, Mz) → jG C X n 5 0 0 37 [jA 166, jI l1, jI l2, jN, jN] [jI s1_10, jA 166] M5) h (by
      intro s1_10 h
      refine x_iconst (pc := 37) hC dX10_firsts_37 ?_
      obtain ⟨v14, M13, e12, h⟩ := jbW_some h
      refine x_cV (pc := 38) hC mv_X10_268 (ok_X10_throwsIf hn e12) rfl (Nat.le_of_ble_eq_true rfl) k_166 rfl (by decide) (jRo0 C) (Nat.le_of_ble_eq_true rfl) dX10_firsts_38 rfl ?_
      refine x_if_eq (tgt := 46) (pc := 41) hC dX10_firsts_41 (by decide) (fun hc => ?_) (fun hc => ?_)
      · replace h := jit_pos hc h
        refine x_iconst (pc := 46) hC dX10_firsts_46 ?_
        refine x_istore_n (ls2 := [jA 166, jI l1, jI l2, jI 0, jN]) (pc := 47) hC dX10_firsts_47 rfl (by decide) rfl rfl rfl ?_
        refine x_iconst (pc := 48) hC dX10_firsts_48 ?_
        refine x_istore (ls2 := [jA 166, jI l1, jI l2, jI 0, jI 1]) (pc := 49) hC dX10_firsts_49 (by decide) rfl rfl rfl ?_
        refine jlp3_ind (P := fun (l3_15 : Int) (l4_16 : Int) (M17 : jM) => jG C X n 5 0 0 51 [jA 166, jI l1, jI l2, jI l3_15, jI l4_16] [] M17) ?_ _ _ _ _ h
        intro self18 l3_15 l4_16 M17 Hself18 h
        refine x_iload (pc := 51) hC dX10_firsts_51 rfl ?_
        refine x_iconst (pc := 53) hC dX10_firsts_53 ?_
        refine x_aloadA_n (pc := 54) hC dX10_firsts_54 rfl rfl k_166 (by decide) ?_
        refine x_gf (pc := 55) (b := 169) hC fl_X10_81 ft10_9 k_166 (by decide) (off := 3) (by decide +kernel) (by decide) dX10_firsts_55 ?_
        refine x_iconst (pc := 58) hC dX10_firsts_58 ?_
        obtain ⟨hb19, h⟩ := jck_some h
        refine x_iald (pc := 59) hC k_169 (by rw [l_169]; exact hb19) dX10_firsts_59 ?_
        refine x_ishl (pc := 60) hC dX10_firsts_60 ?_
        refine x_icmp_ge (tgt := 108) (pc := 61) hC dX10_firsts_61 (by decide) (fun hc => ?_) (fun hc => ?_)
        · replace h := jit_pos hc h
          refine x_iload_n (pc := 108) hC dX10_firsts_108 rfl rfl ?_
          exact x_iret (pc := 109) hC hR dX10_firsts_109 (jr1 h) (jr2 h)
        · replace h := jit_neg hc h
          refine x_iload (pc := 64) hC dX10_firsts_64 rfl ?_
          obtain ⟨v21, e20, h⟩ := jbR_some h
          refine x_cS (pc := 66) hC ms_X10_466 (ok_X10_bits hn e20) rfl (Nat.le_of_ble_eq_true rfl) (jRo0 C) (Nat.le_of_ble_eq_true rfl) dX10_firsts_66 rfl ?_
          refine x_iload_n (pc := 69) hC dX10_firsts_69 rfl rfl ?_
          refine x_icmp_eq (tgt := 76) (pc := 70) hC dX10_firsts_70 (by decide) (fun hc => ?_) (fun hc => ?_)
          · replace h := jit_pos hc h
            refine x_aloadA_n (pc := 76) hC dX10_firsts_76 rfl rfl k_166 (by decide) ?_
            refine x_iload (pc := 77) hC dX10_firsts_77 rfl ?_
            obtain ⟨M22, eM22, h⟩ := jlet_some h
            refine x_pi (pc := 79) (ji := 15) hC fl_X10_275 rfl ft10_15 k_166 dX10_firsts_79 eM22 ?_
            refine x_aloadA_n (pc := 82) hC dX10_firsts_82 rfl rfl k_166 (by decide) ?_
            obtain ⟨M24, e23, h⟩ := jbV_some h
            refine x_cV (pc := 83) hC mv_X10_429 (ok_X10_laysTotals hn e23) rfl (Nat.le_of_ble_eq_true rfl) k_166 rfl (by decide) (jRo0 C) (Nat.le_of_ble_eq_true rfl) dX10_firsts_83 rfl ?_
            refine x_iload_n (pc := 86) hC dX10_firsts_86 rfl rfl ?_
            refine x_aloadA_n (pc := 87) hC dX10_firsts_87 rfl rfl k_166 (by decide) ?_
            refine x_iload_n (pc := 88) hC dX10_firsts_88 rfl rfl ?_
            obtain ⟨v26, e25, h⟩ := jbR_some h
            refine x_cV (pc := 89) hC mv_X10_405 (ok_X10_rankOf hn e25) rfl (Nat.le_of_ble_eq_true rfl) k_166 rfl (by decide) (jRo0 C) (Nat.le_of_ble_eq_true rfl) dX10_firsts_89 rfl ?_
            obtain ⟨k28, Hk28, h⟩ := jk_some (P := fun k28 => ∀ (s1_27 : Int), k28 s1_27 = some (rz, Mz) → jG C X n 5 0 0 100 [jA 166, jI l1, jI l2, jI l3_15, jI l4_16] [jI s1_27, jI l3_15] M24) h (by
              intro s1_27 h
              refine x_iadd (pc := 100) hC dX10_firsts_100 ?_
              obtain ⟨l3_29, el3_29, h⟩ := jlet_some h
              refine x_istore_n (ls2 := [jA 166, jI l1, jI l2, jI l3_29, jI l4_16]) (pc := 101) hC dX10_firsts_101 rfl (by decide) rfl el3_29 rfl ?_
              obtain ⟨l4_30, el4_30, h⟩ := jlet_some h
              refine x_iinc (ls2 := [jA 166, jI l1, jI l2, jI l3_29, jI l4_30]) (pc := 102) hC dX10_firsts_102 rfl (by decide) rfl el4_30 rfl ?_
              refine x_goto (tgt := 51) (pc := 105) hC dX10_firsts_105 (by decide) ?_
              exact Hself18 _ _ _ h)
            refine x_if_ne (tgt := 99) (pc := 92) hC dX10_firsts_92 (by decide) (fun hc => ?_) (fun hc => ?_)
            · replace h := jit_neg hc h
              refine x_iconst (pc := 99) hC dX10_firsts_99 ?_
              exact Hk28 _ h
            · replace h := jit_pos hc h
              refine x_iconst (pc := 95) hC dX10_firsts_95 ?_
              refine x_goto (tgt := 100) (pc := 96) hC dX10_firsts_96 (by decide) ?_
              exact Hk28 _ h
          · replace h := jit_neg hc h
            refine x_goto (tgt := 102) (pc := 73) hC dX10_firsts_73 (by decide) ?_
            obtain ⟨l4_31, el4_31, h⟩ := jlet_some h
            refine x_iinc (ls2 := [jA 166, jI l1, jI l2, jI l3_15, jI l4_31]) (pc := 102) hC dX10_firsts_102 rfl (by decide) rfl el4_31 rfl ?_
            refine x_goto (tgt := 51) (pc := 105) hC dX10_firsts_105 (by decide) ?_
            exact Hself18 _ _ _ h
      · replace h := jit_neg hc h
        refine x_iconst (pc := 44) hC dX10_firsts_44 ?_
        exact x_iret (pc := 45) hC hR dX10_firsts_45 (jr1 h) (jr2 h))
    refine x_if_ne (tgt := 36) (pc := 29) hC dX10_firsts_29 (by decide) (fun hc => ?_) (fun hc => ?_)
    · replace h := jit_neg hc h
      refine x_iconst (pc := 36) hC dX10_firsts_36 ?_
      exact Hk11 _ h
    · replace h := jit_pos hc h
      refine x_iconst (pc := 32) hC dX10_firsts_32 ?_
      refine x_goto (tgt := 37) (pc := 33) hC dX10_firsts_33 (by decide) ?_
      exact Hk11 _ h

set_option maxHeartbeats 4000000 in
set_option maxRecDepth 20000 in
theorem ok_X10_lastTry {X : jX} {n : Nat} (hn : 179 ≤ n) {l1 : Int} {M : jM} {rz : Int} (h : f_X10_lastTry l1 M = some rz) : jCt X n yX10_lastTry cX10_lastTry 4 (some .int) 2 [jA 166, jI l1] M (some (jI rz)) M := by
  refine jCt_of (own := RX10) (ls := [jA 166, jI l1, jN, jN]) (by decide +kernel) rfl hn (Nat.le_of_ble_eq_true rfl) rfl ?_
  intro C hC hR
  unfold f_X10_lastTry at h
  refine x_iconst (pc := 0) hC dX10_lastTry_0 ?_
  refine x_istore_n (ls2 := [jA 166, jI l1, jI (-1), jN]) (pc := 1) hC dX10_lastTry_1 rfl (by decide) rfl rfl rfl ?_
  refine x_iconst (pc := 2) hC dX10_lastTry_2 ?_
  refine x_istore_n (ls2 := [jA 166, jI l1, jI (-1), jI 0]) (pc := 3) hC dX10_lastTry_3 rfl (by decide) rfl rfl rfl ?_
  refine jlp2_ind (P := fun (l2_1 : Int) (l3_2 : Int) => jG C X n 4 0 0 4 [jA 166, jI l1, jI l2_1, jI l3_2] [] M) ?_ _ _ _ h
  intro self3 l2_1 l3_2 Hself3 h
  refine x_iload_n (pc := 4) hC dX10_lastTry_4 rfl rfl ?_
  refine x_aloadA_n (pc := 5) hC dX10_lastTry_5 rfl rfl k_166 (by decide) ?_
  refine x_gf (pc := 6) (b := 169) hC fl_X10_81 ft10_9 k_166 (by decide) (off := 3) (by decide +kernel) (by decide) dX10_lastTry_6 ?_
  refine x_bipush (pc := 9) hC dX10_lastTry_9 rfl ?_
  refine x_iload_n (pc := 11) hC dX10_lastTry_11 rfl rfl ?_
  refine x_iadd (pc := 12) hC dX10_lastTry_12 ?_
  obtain ⟨hb4, h⟩ := jck_some h
  refine x_iald (pc := 13) hC k_169 (by rw [l_169]; exact hb4) dX10_lastTry_13 ?_
  refine x_icmp_ge (tgt := 38) (pc := 14) hC dX10_lastTry_14 (by decide) (fun hc => ?_) (fun hc => ?_)
  · replace h := jit_pos hc h
    refine x_iload_n (pc := 38) hC dX10_lastTry_38 rfl rfl ?_
    exact x_iret (pc := 39) hC hR dX10_lastTry_39 (jrR h) rfl
  · replace h := jit_neg hc h
    refine x_aloadA_n (pc := 17) hC dX10_lastTry_17 rfl rfl k_166 (by decide) ?_
    refine x_iload_n (pc := 18) hC dX10_lastTry_18 rfl rfl ?_
    refine x_iload_n (pc := 19) hC dX10_lastTry_19 rfl rfl ?_
    obtain ⟨v6, e5, h⟩ := jbR_some h
    refine x_cV (pc := 20) hC mv_X10_322 (ok_X10_is hn e5) rfl (Nat.le_of_ble_eq_true rfl) k_166 rfl (by decide) (jRo0 C) (Nat.le_of_ble_eq_true rfl) dX10_lastTry_20 rfl ?_
    obtain ⟨k8, Hk8, h⟩ := jk_some (P := fun k8 => ∀ (s0_7 : Int), k8 s0_7 = some rz → jG C X n 4 0 0 31 [jA 166, jI l1, jI l2_1, jI l3_2] [jI s0_7] M) h (by
      intro s0_7 h
      refine x_istore_n (ls2 := [jA 166, jI l1, jI s0_7, jI l3_2]) (pc := 31) hC dX10_lastTry_31 rfl (by decide) rfl rfl rfl ?_
      obtain ⟨l3_9, el3_9, h⟩ := jlet_some h
      refine x_iinc (ls2 := [jA 166, jI l1, jI s0_7, jI l3_9]) (pc := 32) hC dX10_lastTry_32 rfl (by decide) rfl el3_9 rfl ?_
      refine x_goto (tgt := 4) (pc := 35) hC dX10_lastTry_35 (by decide) ?_
      exact Hself3 _ _ h)
    refine x_if_eq (tgt := 30) (pc := 23) hC dX10_lastTry_23 (by decide) (fun hc => ?_) (fun hc => ?_)
    · replace h := jit_pos hc h
      refine x_iload_n (pc := 30) hC dX10_lastTry_30 rfl rfl ?_
      exact Hk8 _ h
    · replace h := jit_neg hc h
      refine x_iload_n (pc := 26) hC dX10_lastTry_26 rfl rfl ?_
      refine x_goto (tgt := 31) (pc := 27) hC dX10_lastTry_27 (by decide) ?_
      exact Hk8 _ h

set_option maxHeartbeats 4000000 in
set_option maxRecDepth 20000 in
theorem ok_X10_needed {X : jX} {n : Nat} (hn : 179 ≤ n) {l1 : Int} {l2 : Int} {M : jM} {rz : Int} {Mz : jM} (h : f_X10_needed l1 l2 M = some (rz, Mz)) : jCt X n yX10_needed cX10_needed 5 (some .int) 10 [jA 166, jI l1, jI l2] M (some (jI rz)) Mz := by
  refine jCt_of (own := RX10) (ls := [jA 166, jI l1, jI l2, jN, jN]) (by decide +kernel) rfl hn (Nat.le_of_ble_eq_true rfl) rfl ?_
  intro C hC hR
  unfold f_X10_needed at h
  refine x_aloadA_n (pc := 0) hC dX10_needed_0 rfl rfl k_166 (by decide) ?_
  refine x_iconst (pc := 1) hC dX10_needed_1 ?_
  obtain ⟨M1, eM1, h⟩ := jlet_some h
  refine x_pi (pc := 2) (ji := 0) hC fl_X10_3 rfl ft10_0 k_166 dX10_needed_2 eM1 ?_
  refine x_aloadA_n (pc := 5) hC dX10_needed_5 rfl rfl k_166 (by decide) ?_
  obtain ⟨M3, e2, h⟩ := jbV_some h
  refine x_cV (pc := 6) hC mv_X10_408 (ok_X10_all hn e2) rfl (Nat.le_of_ble_eq_true rfl) k_166 rfl (by decide) (jRo0 C) (Nat.le_of_ble_eq_true rfl) dX10_needed_6 rfl ?_
  refine x_aloadA_n (pc := 9) hC dX10_needed_9 rfl rfl k_166 (by decide) ?_
  refine x_iload_n (pc := 10) hC dX10_needed_10 rfl rfl ?_
  obtain ⟨v6, M5, e4, h⟩ := jbW_some h
  refine x_cV (pc := 11) hC mv_X10_411 (ok_X10_noSkater hn e4) rfl (Nat.le_of_ble_eq_true rfl) k_166 rfl (by decide) (jRo0 C) (Nat.le_of_ble_eq_true rfl) dX10_needed_11 rfl ?_
  refine x_if_ne (tgt := 43) (pc := 14) hC dX10_needed_14 (by decide) (fun hc => ?_) (fun hc => ?_)
  · replace h := jit_neg hc h
    refine x_iconst (pc := 43) hC dX10_needed_43 ?_
    exact x_iret (pc := 44) hC hR dX10_needed_44 (jr1 h) (jr2 h)
  · replace h := jit_pos hc h
    refine x_aloadA_n (pc := 17) hC dX10_needed_17 rfl rfl k_166 (by decide) ?_
    refine x_iload_n (pc := 18) hC dX10_needed_18 rfl rfl ?_
    obtain ⟨v9, M8, e7, h⟩ := jbW_some h
    refine x_cV (pc := 19) hC mv_X10_411 (ok_X10_noSkater hn e7) rfl (Nat.le_of_ble_eq_true rfl) k_166 rfl (by decide) (jRo0 C) (Nat.le_of_ble_eq_true rfl) dX10_needed_19 rfl ?_
    refine x_if_ne (tgt := 43) (pc := 22) hC dX10_needed_22 (by decide) (fun hc => ?_) (fun hc => ?_)
    · replace h := jit_neg hc h
      refine x_iconst (pc := 43) hC dX10_needed_43 ?_
      exact x_iret (pc := 44) hC hR dX10_needed_44 (jr1 h) (jr2 h)
    · replace h := jit_pos hc h
      refine x_aloadA_n (pc := 25) hC dX10_needed_25 rfl rfl k_166 (by decide) ?_
      refine x_iload_n (pc := 26) hC dX10_needed_26 rfl rfl ?_
      refine x_iload_n (pc := 27) hC dX10_needed_27 rfl rfl ?_
      obtain ⟨k11, Hk11, h⟩ := jk_some (P := fun k11 => ∀ (s1_10 : Int), k11 s1_10 = some (rz, Mz) → jG C X n 5 0 0 36 [jA 166, jI l1, jI l2, jN, jN] [jI s1_10, jA 166] M8) h (by
        intro s1_10 h
        refine x_iconst (pc := 36) hC dX10_needed_36 ?_
        obtain ⟨v14, M13, e12, h⟩ := jbW_some h
        refine x_cV (pc := 37) hC mv_X10_268 (ok_X10_throwsIf hn e12) rfl (Nat.le_of_ble_eq_true rfl) k_166 rfl (by decide) (jRo0 C) (Nat.le_of_ble_eq_true rfl) dX10_needed_37 rfl ?_
        refine x_if_eq (tgt := 45) (pc := 40) hC dX10_needed_40 (by decide) (fun hc => ?_) (fun hc => ?_)
        · replace h := jit_pos hc h
          refine x_aloadA_n (pc := 45) hC dX10_needed_45 rfl rfl k_166 (by decide) ?_
          refine x_iload_n (pc := 46) hC dX10_needed_46 rfl rfl ?_
          obtain ⟨v16, e15, h⟩ := jbR_some h
          refine x_cV (pc := 47) hC mv_X10_469 (ok_X10_lastTry hn e15) rfl (Nat.le_of_ble_eq_true rfl) k_166 rfl (by decide) (jRo0 C) (Nat.le_of_ble_eq_true rfl) dX10_needed_47 rfl ?_
          refine x_istore_n (ls2 := [jA 166, jI l1, jI l2, jI v16, jN]) (pc := 50) hC dX10_needed_50 rfl (by decide) rfl rfl rfl ?_
          refine x_aloadA_n (pc := 51) hC dX10_needed_51 rfl rfl k_166 (by decide) ?_
          refine x_iload_n (pc := 52) hC dX10_needed_52 rfl rfl ?_
          obtain ⟨M17, eM17, h⟩ := jlet_some h
          refine x_pi (pc := 53) (ji := 19) hC fl_X10_284 rfl ft10_19 k_166 dX10_needed_53 eM17 ?_
          refine x_aloadA_n (pc := 56) hC dX10_needed_56 rfl rfl k_166 (by decide) ?_
          refine x_iload_n (pc := 57) hC dX10_needed_57 rfl rfl ?_
          obtain ⟨M18, eM18, h⟩ := jlet_some h
          refine x_pi (pc := 58) (ji := 20) hC fl_X10_300 rfl ft10_20 k_166 dX10_needed_58 eM18 ?_
          refine x_bipush (pc := 61) hC dX10_needed_61 rfl ?_
          refine x_istore (ls2 := [jA 166, jI l1, jI l2, jI v16, jI (-5)]) (pc := 63) hC dX10_needed_63 (by decide) rfl rfl rfl ?_
          refine jlp2_ind (P := fun (l4_19 : Int) (M20 : jM) => jG C X n 5 0 0 65 [jA 166, jI l1, jI l2, jI v16, jI l4_19] [] M20) ?_ _ _ _ h
          intro self21 l4_19 M20 Hself21 h
          refine x_iload (pc := 65) hC dX10_needed_65 rfl ?_
          refine x_iconst (pc := 67) hC dX10_needed_67 ?_
          refine x_icmp_gt (tgt := 104) (pc := 68) hC dX10_needed_68 (by decide) (fun hc => ?_) (fun hc => ?_)
          · replace h := jit_pos hc h
            refine x_bipush (pc := 104) hC dX10_needed_104 rfl ?_
            exact x_iret (pc := 106) hC hR dX10_needed_106 (jr1 h) (jr2 h)
          · replace h := jit_neg hc h
            refine x_iload_n (pc := 71) hC dX10_needed_71 rfl rfl ?_
            refine x_iconst (pc := 72) hC dX10_needed_72 ?_
            refine x_icmp_eq (tgt := 104) (pc := 73) hC dX10_needed_73 (by decide) (fun hc => ?_) (fun hc => ?_)
            · replace h := jit_pos hc h
              refine x_bipush (pc := 104) hC dX10_needed_104 rfl ?_
              exact x_iret (pc := 106) hC hR dX10_needed_106 (jr1 h) (jr2 h)
            · replace h := jit_neg hc h
              refine x_aloadA_n (pc := 76) hC dX10_needed_76 rfl rfl k_166 (by decide) ?_
              refine x_iload (pc := 77) hC dX10_needed_77 rfl ?_
              obtain ⟨M22, eM22, h⟩ := jlet_some h
              refine x_pi (pc := 79) (ji := 21) hC fl_X10_303 rfl ft10_21 k_166 dX10_needed_79 eM22 ?_
              refine x_aloadA_n (pc := 82) hC dX10_needed_82 rfl rfl k_166 (by decide) ?_
              obtain ⟨M24, e23, h⟩ := jbV_some h
              refine x_cV (pc := 83) hC mv_X10_429 (ok_X10_laysTotals hn e23) rfl (Nat.le_of_ble_eq_true rfl) k_166 rfl (by decide) (jRo0 C) (Nat.le_of_ble_eq_true rfl) dX10_needed_83 rfl ?_
              refine x_aloadA_n (pc := 86) hC dX10_needed_86 rfl rfl k_166 (by decide) ?_
              refine x_iload_n (pc := 87) hC dX10_needed_87 rfl rfl ?_
              refine x_iload_n (pc := 88) hC dX10_needed_88 rfl rfl ?_
              obtain ⟨v26, e25, h⟩ := jbR_some h
              refine x_cV (pc := 89) hC mv_X10_402 (ok_X10_isAhead hn e25) rfl (Nat.le_of_ble_eq_true rfl) k_166 rfl (by decide) (jRo0 C) (Nat.le_of_ble_eq_true rfl) dX10_needed_89 rfl ?_
              refine x_if_eq (tgt := 98) (pc := 92) hC dX10_needed_92 (by decide) (fun hc => ?_) (fun hc => ?_)
              · replace h := jit_pos hc h
                obtain ⟨l4_27, el4_27, h⟩ := jlet_some h
                refine x_iinc (ls2 := [jA 166, jI l1, jI l2, jI v16, jI l4_27]) (pc := 98) hC dX10_needed_98 rfl (by decide) rfl el4_27 rfl ?_
                refine x_goto (tgt := 65) (pc := 101) hC dX10_needed_101 (by decide) ?_
                exact Hself21 _ _ h
              · replace h := jit_neg hc h
                refine x_iload (pc := 95) hC dX10_needed_95 rfl ?_
                exact x_iret (pc := 97) hC hR dX10_needed_97 (jr1 h) (jr2 h)
        · replace h := jit_neg hc h
          refine x_iconst (pc := 43) hC dX10_needed_43 ?_
          exact x_iret (pc := 44) hC hR dX10_needed_44 (jr1 h) (jr2 h))
      refine x_icmp_ne (tgt := 35) (pc := 28) hC dX10_needed_28 (by decide) (fun hc => ?_) (fun hc => ?_)
      · replace h := jit_neg hc h
        refine x_iconst (pc := 35) hC dX10_needed_35 ?_
        exact Hk11 _ h
      · replace h := jit_pos hc h
        refine x_iconst (pc := 31) hC dX10_needed_31 ?_
        refine x_goto (tgt := 36) (pc := 32) hC dX10_needed_32 (by decide) ?_
        exact Hk11 _ h

set_option maxHeartbeats 4000000 in
set_option maxRecDepth 20000 in
theorem ok_X10_raise {X : jX} {n : Nat} (hn : 179 ≤ n) {l1 : Int} {l2 : Int} {l3 : Int} {M : jM} {rz : Int} {Mz : jM} (h : f_X10_raise l1 l2 l3 M = some (rz, Mz)) : jCt X n yX10_raise cX10_raise 7 (some .int) 9 [jA 166, jI l1, jI l2, jI l3] M (some (jI rz)) Mz := by
  refine jCt_of (own := RX10) (ls := [jA 166, jI l1, jI l2, jI l3, jN, jN, jN]) (by decide +kernel) rfl hn (Nat.le_of_ble_eq_true rfl) rfl ?_
  intro C hC hR
  unfold f_X10_raise at h
  refine x_aloadA_n (pc := 0) hC dX10_raise_0 rfl rfl k_166 (by decide) ?_
  refine x_iconst (pc := 1) hC dX10_raise_1 ?_
  obtain ⟨M1, eM1, h⟩ := jlet_some h
  refine x_pi (pc := 2) (ji := 0) hC fl_X10_3 rfl ft10_0 k_166 dX10_raise_2 eM1 ?_
  refine x_aloadA_n (pc := 5) hC dX10_raise_5 rfl rfl k_166 (by decide) ?_
  refine x_iload_n (pc := 6) hC dX10_raise_6 rfl rfl ?_
  refine x_iload_n (pc := 7) hC dX10_raise_7 rfl rfl ?_
  obtain ⟨v4, M3, e2, h⟩ := jbW_some h
  refine x_cV (pc := 8) hC mv_X10_417 (ok_X10_noTry hn e2) rfl (Nat.le_of_ble_eq_true rfl) k_166 rfl (by decide) (jRo0 C) (Nat.le_of_ble_eq_true rfl) dX10_raise_8 rfl ?_
  refine x_if_ne (tgt := 22) (pc := 11) hC dX10_raise_11 (by decide) (fun hc => ?_) (fun hc => ?_)
  · replace h := jit_neg hc h
    refine x_iconst (pc := 22) hC dX10_raise_22 ?_
    exact x_iret (pc := 23) hC hR dX10_raise_23 (jr1 h) (jr2 h)
  · replace h := jit_pos hc h
    refine x_aloadA_n (pc := 14) hC dX10_raise_14 rfl rfl k_166 (by decide) ?_
    refine x_iload_n (pc := 15) hC dX10_raise_15 rfl rfl ?_
    obtain ⟨v7, M6, e5, h⟩ := jbW_some h
    refine x_cV (pc := 16) hC mv_X10_423 (ok_X10_noJudge hn e5) rfl (Nat.le_of_ble_eq_true rfl) k_166 rfl (by decide) (jRo0 C) (Nat.le_of_ble_eq_true rfl) dX10_raise_16 rfl ?_
    refine x_if_eq (tgt := 24) (pc := 19) hC dX10_raise_19 (by decide) (fun hc => ?_) (fun hc => ?_)
    · replace h := jit_pos hc h
      refine x_iconst (pc := 24) hC dX10_raise_24 ?_
      refine x_bipush (pc := 25) hC dX10_raise_25 rfl ?_
      refine x_iload_n (pc := 27) hC dX10_raise_27 rfl rfl ?_
      refine x_iload_n (pc := 28) hC dX10_raise_28 rfl rfl ?_
      obtain ⟨v9, e8, h⟩ := jbR_some h
      refine x_cS (pc := 29) hC ms_X10_199 (ok_X10_tryAt hn e8) rfl (Nat.le_of_ble_eq_true rfl) (jRo0 C) (Nat.le_of_ble_eq_true rfl) dX10_raise_29 rfl ?_
      refine x_imul (pc := 32) hC dX10_raise_32 ?_
      refine x_iadd (pc := 33) hC dX10_raise_33 ?_
      refine x_iload_n (pc := 34) hC dX10_raise_34 rfl rfl ?_
      refine x_iadd (pc := 35) hC dX10_raise_35 ?_
      obtain ⟨l4_10, el4_10, h⟩ := jlet_some h
      refine x_istore (ls2 := [jA 166, jI l1, jI l2, jI l3, jI l4_10, jN, jN]) (pc := 36) hC dX10_raise_36 (by decide) rfl el4_10 rfl ?_
      refine x_aloadA_n (pc := 38) hC dX10_raise_38 rfl rfl k_166 (by decide) ?_
      refine x_aloadA_n (pc := 39) hC dX10_raise_39 rfl rfl k_166 (by decide) ?_
      refine x_gf (pc := 40) (b := 170) hC fl_X10_84 ft10_10 k_166 (by decide) (off := 4) (by decide +kernel) (by decide) dX10_raise_40 ?_
      refine x_iload (pc := 43) hC dX10_raise_43 rfl ?_
      obtain ⟨hb11, h⟩ := jck_some h
      refine x_iald (pc := 45) hC k_170 (by rw [l_170]; exact hb11) dX10_raise_45 ?_
      refine x_iconst (pc := 46) hC dX10_raise_46 ?_
      obtain ⟨k13, Hk13, h⟩ := jk_some (P := fun k13 => ∀ (s1_12 : Int), k13 s1_12 = some (rz, Mz) → jG C X n 7 0 0 55 [jA 166, jI l1, jI l2, jI l3, jI l4_10, jN, jN] [jI s1_12, jA 166] M6) h (by
        intro s1_12 h
        refine x_iconst (pc := 55) hC dX10_raise_55 ?_
        obtain ⟨v16, M15, e14, h⟩ := jbW_some h
        refine x_cV (pc := 56) hC mv_X10_268 (ok_X10_throwsIf hn e14) rfl (Nat.le_of_ble_eq_true rfl) k_166 rfl (by decide) (jRo0 C) (Nat.le_of_ble_eq_true rfl) dX10_raise_56 rfl ?_
        refine x_if_eq (tgt := 64) (pc := 59) hC dX10_raise_59 (by decide) (fun hc => ?_) (fun hc => ?_)
        · replace h := jit_pos hc h
          refine x_aloadA_n (pc := 64) hC dX10_raise_64 rfl rfl k_166 (by decide) ?_
          refine x_iload_n (pc := 65) hC dX10_raise_65 rfl rfl ?_
          obtain ⟨v19, M18, e17, h⟩ := jbW_some h
          refine x_cV (pc := 66) hC mv_X10_399 (ok_X10_totalOf hn e17) rfl (Nat.le_of_ble_eq_true rfl) k_166 rfl (by decide) (jRo0 C) (Nat.le_of_ble_eq_true rfl) dX10_raise_66 rfl ?_
          refine x_istore (ls2 := [jA 166, jI l1, jI l2, jI l3, jI l4_10, jI v19, jN]) (pc := 69) hC dX10_raise_69 (by decide) rfl rfl rfl ?_
          refine x_aloadA_n (pc := 71) hC dX10_raise_71 rfl rfl k_166 (by decide) ?_
          refine x_gf (pc := 72) (b := 170) hC fl_X10_84 ft10_10 k_166 (by decide) (off := 4) (by decide +kernel) (by decide) dX10_raise_72 ?_
          refine x_iload (pc := 75) hC dX10_raise_75 rfl ?_
          refine x_dup2 (pc := 77) hC dX10_raise_77 (show (1 : Nat) ≠ 3 by decide) (show (2 : Nat) ≠ 3 by decide) ?_
          obtain ⟨hb20, h⟩ := jck_some h
          refine x_iald (pc := 78) hC k_170 (by rw [l_170]; exact hb20) dX10_raise_78 ?_
          refine x_iconst (pc := 79) hC dX10_raise_79 ?_
          refine x_iadd (pc := 80) hC dX10_raise_80 ?_
          obtain ⟨hb21, h⟩ := jck_some h
          obtain ⟨M22, eM22, h⟩ := jlet_some h
          refine x_iast (pc := 81) hC k_170 (by rw [l_170]; exact hb21) dX10_raise_81 eM22 ?_
          refine x_aloadA_n (pc := 82) hC dX10_raise_82 rfl rfl k_166 (by decide) ?_
          refine x_iload_n (pc := 83) hC dX10_raise_83 rfl rfl ?_
          obtain ⟨v25, M24, e23, h⟩ := jbW_some h
          refine x_cV (pc := 84) hC mv_X10_399 (ok_X10_totalOf hn e23) rfl (Nat.le_of_ble_eq_true rfl) k_166 rfl (by decide) (jRo0 C) (Nat.le_of_ble_eq_true rfl) dX10_raise_84 rfl ?_
          refine x_istore (ls2 := [jA 166, jI l1, jI l2, jI l3, jI l4_10, jI v19, jI v25]) (pc := 87) hC dX10_raise_87 (by decide) rfl rfl rfl ?_
          refine x_aloadA_n (pc := 89) hC dX10_raise_89 rfl rfl k_166 (by decide) ?_
          refine x_gf (pc := 90) (b := 170) hC fl_X10_84 ft10_10 k_166 (by decide) (off := 4) (by decide +kernel) (by decide) dX10_raise_90 ?_
          refine x_iload (pc := 93) hC dX10_raise_93 rfl ?_
          refine x_dup2 (pc := 95) hC dX10_raise_95 (show (1 : Nat) ≠ 3 by decide) (show (2 : Nat) ≠ 3 by decide) ?_
          obtain ⟨hb26, h⟩ := jck_some h
          refine x_iald (pc := 96) hC k_170 (by rw [l_170]; exact hb26) dX10_raise_96 ?_
          refine x_iconst (pc := 97) hC dX10_raise_97 ?_
          refine x_isub (pc := 98) hC dX10_raise_98 ?_
          obtain ⟨hb27, h⟩ := jck_some h
          obtain ⟨M28, eM28, h⟩ := jlet_some h
          refine x_iast (pc := 99) hC k_170 (by rw [l_170]; exact hb27) dX10_raise_99 eM28 ?_
          refine x_iload (pc := 100) hC dX10_raise_100 rfl ?_
          refine x_iload (pc := 102) hC dX10_raise_102 rfl ?_
          refine x_isub (pc := 104) hC dX10_raise_104 ?_
          exact x_iret (pc := 105) hC hR dX10_raise_105 (jr1 h) (jr2 h)
        · replace h := jit_neg hc h
          refine x_iconst (pc := 62) hC dX10_raise_62 ?_
          exact x_iret (pc := 63) hC hR dX10_raise_63 (jr1 h) (jr2 h))
      refine x_icmp_ne (tgt := 54) (pc := 47) hC dX10_raise_47 (by decide) (fun hc => ?_) (fun hc => ?_)
      · replace h := jit_neg hc h
        refine x_iconst (pc := 54) hC dX10_raise_54 ?_
        exact Hk13 _ h
      · replace h := jit_pos hc h
        refine x_iconst (pc := 50) hC dX10_raise_50 ?_
        refine x_goto (tgt := 55) (pc := 51) hC dX10_raise_51 (by decide) ?_
        exact Hk13 _ h
    · replace h := jit_neg hc h
      refine x_iconst (pc := 22) hC dX10_raise_22 ?_
      exact x_iret (pc := 23) hC hR dX10_raise_23 (jr1 h) (jr2 h)

