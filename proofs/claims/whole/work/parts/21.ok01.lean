/-! ===== the machine does what the functions say; by program ===== -/
set_option maxHeartbeats 4000000 in
set_option maxRecDepth 20000 in
theorem ok_X4_doLine {X : jX} {n : Nat} (hn : 179 ≤ n) {M : jM} {rz : Int} {Mz : jM} (h : f_X4_doLine M = some (rz, Mz)) : jCt X n yX4_doLine cX4_doLine 4 (some .boolean) 7 [jA 109] M (some (jI rz)) Mz := by
  refine jCt_of (own := RX4) (ls := [jA 109, jN, jN, jN]) (by decide +kernel) rfl hn (Nat.le_of_ble_eq_true rfl) rfl ?_
  intro C hC hR
  unfold f_X4_doLine at h
  refine x_aloadA_n (pc := 0) hC dX4_doLine_0 rfl rfl k_109 (by decide) ?_
  obtain ⟨hk1, h⟩ := jck_some h
  refine x_gr (pc := 1) (ji := 1) hC fl_X4_38 rfl ft4_1 k_109 dX4_doLine_1 ?_
  refine x_gf (pc := 4) (b := ((M 109 1) + 13)) hC fl_X4_153 ft1_6 hk1 (by decide) (off := 13) (by decide +kernel) rfl dX4_doLine_4 ?_
  refine x_gi (pc := 7) (ji := 3) hC fl_X4_121 rfl fn2_3 (ko1_6 hk1) dX4_doLine_7 ?_
  refine x_iconst (pc := 10) hC dX4_doLine_10 ?_
  refine x_isub (pc := 11) hC dX4_doLine_11 ?_
  obtain ⟨l1_2, el1_2, h⟩ := jlet_some h
  refine x_istore_n (ls2 := [jA 109, jI l1_2, jN, jN]) (pc := 12) hC dX4_doLine_12 rfl (by decide) rfl el1_2 rfl ?_
  refine x_iload_n (pc := 13) hC dX4_doLine_13 rfl rfl ?_
  obtain ⟨k3, Hk3, h⟩ := jk_some (P := fun k3 => k3 = some (rz, Mz) → jG C X n 4 0 0 34 [jA 109, jI l1_2, jN, jN] [] M) h (by
    intro h
    refine x_aloadA_n (pc := 34) hC dX4_doLine_34 rfl rfl k_109 (by decide) ?_
    obtain ⟨v6, M5, e4, h⟩ := jbW_some h
    refine x_cV (pc := 35) hC mv_X4_74 (ok_X4_refuse hn e4) rfl (Nat.le_of_ble_eq_true rfl) k_109 rfl (by decide) (jRo0 C) (Nat.le_of_ble_eq_true rfl) dX4_doLine_35 rfl ?_
    obtain ⟨hz7, h⟩ := jck_some h
    exact x_zret (pc := 38) hC hR dX4_doLine_38 hz7 (jr1 h) (jr2 h))
  refine x_if_lt (tgt := 34) (pc := 14) hC dX4_doLine_14 (by decide) (fun hc => ?_) (fun hc => ?_)
  · replace h := jit_pos hc h
    exact Hk3 h
  · replace h := jit_neg hc h
    refine x_aloadA_n (pc := 17) hC dX4_doLine_17 rfl rfl k_109 (by decide) ?_
    refine x_gr (pc := 18) (ji := 1) hC fl_X4_38 rfl ft4_1 k_109 dX4_doLine_18 ?_
    refine x_gf (pc := 21) (b := ((M 109 1) + 16)) hC fl_X4_156 ft1_7 hk1 (by decide) (off := 16) (by decide +kernel) rfl dX4_doLine_21 ?_
    refine x_iload_n (pc := 24) hC dX4_doLine_24 rfl rfl ?_
    obtain ⟨hb8, h⟩ := jck_some h
    refine x_aald14 (pc := 25) hC (ko1_7 hk1) hb8 rfl dX4_doLine_25 ?_
    refine x_gi (pc := 26) (ji := 0) hC fl_X4_169 rfl fn6_0 (jsk (ko1_7 hk1) hb8.1 hb8.2) dX4_doLine_26 ?_
    refine x_bipush (pc := 29) hC dX4_doLine_29 rfl ?_
    refine x_icmp_lt (tgt := 39) (pc := 31) hC dX4_doLine_31 (by decide) (fun hc => ?_) (fun hc => ?_)
    · replace h := jit_pos hc h
      refine x_aloadA_n (pc := 39) hC dX4_doLine_39 rfl rfl k_109 (by decide) ?_
      refine x_iconst (pc := 40) hC dX4_doLine_40 ?_
      obtain ⟨M9, eM9, h⟩ := jlet_some h
      refine x_pz (pc := 41) (ji := 8) hC fl_X4_30 rfl ft4_8 (by decide) k_109 dX4_doLine_41 eM9 ?_
      refine x_aloadA_n (pc := 44) hC dX4_doLine_44 rfl rfl k_109 (by decide) ?_
      obtain ⟨hk10, h⟩ := jck_some h
      refine x_gr (pc := 45) (ji := 1) hC fl_X4_38 rfl ft4_1 k_109 dX4_doLine_45 ?_
      refine x_gf (pc := 48) (b := ((M9 109 1) + 16)) hC fl_X4_156 ft1_7 hk10 (by decide) (off := 16) (by decide +kernel) rfl dX4_doLine_48 ?_
      refine x_iload_n (pc := 51) hC dX4_doLine_51 rfl rfl ?_
      obtain ⟨hb11, h⟩ := jck_some h
      refine x_aald14 (pc := 52) hC (ko1_7 hk10) hb11 rfl dX4_doLine_52 ?_
      refine x_astoreA_n (ls2 := [jA 109, jI l1_2, jA (((M9 109 1) + 16) + 1 + 6 * jw l1_2), jN]) (pc := 53) hC dX4_doLine_53 rfl (by decide) rfl (jsk (ko1_7 hk10) hb11.1 hb11.2) (by decide) rfl ?_
      refine x_aloadA_n (pc := 54) hC dX4_doLine_54 rfl rfl (jsk (ko1_7 hk10) hb11.1 hb11.2) (by decide) ?_
      refine x_gi (pc := 55) (ji := 0) hC fl_X4_169 rfl fn6_0 (jsk (ko1_7 hk10) hb11.1 hb11.2) dX4_doLine_55 ?_
      obtain ⟨l3_12, el3_12, h⟩ := jlet_some h
      refine x_istore_n (ls2 := [jA 109, jI l1_2, jA (((M9 109 1) + 16) + 1 + 6 * jw l1_2), jI l3_12]) (pc := 58) hC dX4_doLine_58 rfl (by decide) rfl el3_12 rfl ?_
      refine x_aloadA_n (pc := 59) hC dX4_doLine_59 rfl rfl k_109 (by decide) ?_
      obtain ⟨M14, e13, h⟩ := jbV_some h
      refine x_cV (pc := 60) hC mv_X4_95 (ok_X4_advance hn e13) rfl (Nat.le_of_ble_eq_true rfl) k_109 rfl (by decide) (jRo0 C) (Nat.le_of_ble_eq_true rfl) dX4_doLine_60 rfl ?_
      refine x_aloadA_n (pc := 63) hC dX4_doLine_63 rfl rfl k_109 (by decide) ?_
      refine x_aloadA_n (pc := 64) hC dX4_doLine_64 rfl rfl (jsk (ko1_7 hk10) hb11.1 hb11.2) (by decide) ?_
      refine x_iload_n (pc := 65) hC dX4_doLine_65 rfl rfl ?_
      obtain ⟨v17, M16, e15, h⟩ := jbW_some h
      refine x_cV (pc := 66) hC mv_X4_172 (ok_X4_elements hn (jsk (ko1_7 hk10) hb11.1 hb11.2) e15) rfl (Nat.le_of_ble_eq_true rfl) k_109 rfl (by decide) (jRo0 C) (Nat.le_of_ble_eq_true rfl) dX4_doLine_66 rfl ?_
      refine x_if_eq (tgt := 98) (pc := 69) hC dX4_doLine_69 (by decide) (fun hc => ?_) (fun hc => ?_)
      · replace h := jit_pos hc h
        refine x_iconst (pc := 98) hC dX4_doLine_98 ?_
        exact x_zret (pc := 99) hC hR dX4_doLine_99 (Or.inl jw0) (jr1 h) (jr2 h)
      · replace h := jit_neg hc h
        refine x_aloadA_n (pc := 72) hC dX4_doLine_72 rfl rfl k_109 (by decide) ?_
        refine x_iload_n (pc := 73) hC dX4_doLine_73 rfl rfl ?_
        obtain ⟨k19, Hk19, h⟩ := jk_some (P := fun k19 => ∀ (s1_18 : Int), k19 s1_18 = some (rz, Mz) → jG C X n 4 0 0 89 [jA 109, jI l1_2, jA (((M9 109 1) + 16) + 1 + 6 * jw l1_2), jI l3_12] [jI s1_18, jA 109] M16) h (by
          intro s1_18 h
          refine x_sipush (pc := 89) hC dX4_doLine_89 rfl ?_
          obtain ⟨v22, M21, e20, h⟩ := jbW_some h
          refine x_cV (pc := 92) hC mv_X4_131 (ok_X4_number hn e20) rfl (Nat.le_of_ble_eq_true rfl) k_109 rfl (by decide) (jRo0 C) (Nat.le_of_ble_eq_true rfl) dX4_doLine_92 rfl ?_
          refine x_if_ne (tgt := 100) (pc := 95) hC dX4_doLine_95 (by decide) (fun hc => ?_) (fun hc => ?_)
          · replace h := jit_neg hc h
            refine x_aloadA_n (pc := 100) hC dX4_doLine_100 rfl rfl (jsk (ko1_7 hk10) hb11.1 hb11.2) (by decide) ?_
            refine x_gf (pc := 101) (b := ((((M9 109 1) + 16) + 1 + 6 * jw l1_2) + 1)) hC fl_X4_176 ft6_3 (jsk (ko1_7 hk10) hb11.1 hb11.2) (by decide) (off := 1) (by decide +kernel) rfl dX4_doLine_101 ?_
            refine x_iload_n (pc := 104) hC dX4_doLine_104 rfl rfl ?_
            refine x_aloadA_n (pc := 105) hC dX4_doLine_105 rfl rfl k_109 (by decide) ?_
            refine x_gi (pc := 106) (ji := 6) hC fl_X4_24 rfl fn4_6 k_109 dX4_doLine_106 ?_
            obtain ⟨hb23, h⟩ := jck_some h
            obtain ⟨M24, eM24, h⟩ := jlet_some h
            refine x_iast (pc := 109) hC (ko6_3 (jsk (ko1_7 hk10) hb11.1 hb11.2)) (by rw [lo6_3 (jsk (ko1_7 hk10) hb11.1 hb11.2)]; exact hb23) dX4_doLine_109 eM24 ?_
            refine x_aloadA_n (pc := 110) hC dX4_doLine_110 rfl rfl k_109 (by decide) ?_
            refine x_aloadA_n (pc := 111) hC dX4_doLine_111 rfl rfl (jsk (ko1_7 hk10) hb11.1 hb11.2) (by decide) ?_
            refine x_iload_n (pc := 112) hC dX4_doLine_112 rfl rfl ?_
            refine x_bipush (pc := 113) hC dX4_doLine_113 rfl ?_
            obtain ⟨v27, M26, e25, h⟩ := jbW_some h
            refine x_cV (pc := 115) hC mv_X4_165 (ok_X4_votes hn (jsk (ko1_7 hk10) hb11.1 hb11.2) e25) rfl (Nat.le_of_ble_eq_true rfl) k_109 rfl (by decide) (jRo0 C) (Nat.le_of_ble_eq_true rfl) dX4_doLine_115 rfl ?_
            refine x_if_eq (tgt := 130) (pc := 118) hC dX4_doLine_118 (by decide) (fun hc => ?_) (fun hc => ?_)
            · replace h := jit_pos hc h
              refine x_iconst (pc := 130) hC dX4_doLine_130 ?_
              exact x_zret (pc := 131) hC hR dX4_doLine_131 (Or.inl jw0) (jr1 h) (jr2 h)
            · replace h := jit_neg hc h
              refine x_aloadA_n (pc := 121) hC dX4_doLine_121 rfl rfl k_109 (by decide) ?_
              refine x_aloadA_n (pc := 122) hC dX4_doLine_122 rfl rfl (jsk (ko1_7 hk10) hb11.1 hb11.2) (by decide) ?_
              refine x_iload_n (pc := 123) hC dX4_doLine_123 rfl rfl ?_
              obtain ⟨v30, M29, e28, h⟩ := jbW_some h
              refine x_cV (pc := 124) hC mv_X4_179 (ok_X4_calls hn (jsk (ko1_7 hk10) hb11.1 hb11.2) e28) rfl (Nat.le_of_ble_eq_true rfl) k_109 rfl (by decide) (jRo0 C) (Nat.le_of_ble_eq_true rfl) dX4_doLine_124 rfl ?_
              refine x_if_ne (tgt := 132) (pc := 127) hC dX4_doLine_127 (by decide) (fun hc => ?_) (fun hc => ?_)
              · replace h := jit_neg hc h
                refine x_aloadA_n (pc := 132) hC dX4_doLine_132 rfl rfl (jsk (ko1_7 hk10) hb11.1 hb11.2) (by decide) ?_
                refine x_dup (pc := 133) hC dX4_doLine_133 (show (2 : Nat) ≠ 3 by decide) ?_
                refine x_gi (pc := 134) (ji := 0) hC fl_X4_169 rfl fn6_0 (jsk (ko1_7 hk10) hb11.1 hb11.2) dX4_doLine_134 ?_
                refine x_iconst (pc := 137) hC dX4_doLine_137 ?_
                refine x_iadd (pc := 138) hC dX4_doLine_138 ?_
                obtain ⟨M31, eM31, h⟩ := jlet_some h
                refine x_pi (pc := 139) (ji := 0) hC fl_X4_169 rfl ft6_0 (jsk (ko1_7 hk10) hb11.1 hb11.2) dX4_doLine_139 eM31 ?_
                refine x_iconst (pc := 142) hC dX4_doLine_142 ?_
                exact x_zret (pc := 143) hC hR dX4_doLine_143 (Or.inr jw1) (jr1 h) (jr2 h)
              · replace h := jit_pos hc h
                refine x_iconst (pc := 130) hC dX4_doLine_130 ?_
                exact x_zret (pc := 131) hC hR dX4_doLine_131 (Or.inl jw0) (jr1 h) (jr2 h)
          · replace h := jit_pos hc h
            refine x_iconst (pc := 98) hC dX4_doLine_98 ?_
            exact x_zret (pc := 99) hC hR dX4_doLine_99 (Or.inl jw0) (jr1 h) (jr2 h))
        refine x_if_le (tgt := 88) (pc := 74) hC dX4_doLine_74 (by decide) (fun hc => ?_) (fun hc => ?_)
        · replace h := jit_pos hc h
          refine x_iconst (pc := 88) hC dX4_doLine_88 ?_
          exact Hk19 _ h
        · replace h := jit_neg hc h
          refine x_aloadA_n (pc := 77) hC dX4_doLine_77 rfl rfl (jsk (ko1_7 hk10) hb11.1 hb11.2) (by decide) ?_
          refine x_gf (pc := 78) (b := ((((M9 109 1) + 16) + 1 + 6 * jw l1_2) + 1)) hC fl_X4_176 ft6_3 (jsk (ko1_7 hk10) hb11.1 hb11.2) (by decide) (off := 1) (by decide +kernel) rfl dX4_doLine_78 ?_
          refine x_iload_n (pc := 81) hC dX4_doLine_81 rfl rfl ?_
          refine x_iconst (pc := 82) hC dX4_doLine_82 ?_
          refine x_isub (pc := 83) hC dX4_doLine_83 ?_
          obtain ⟨hb32, h⟩ := jck_some h
          refine x_iald (pc := 84) hC (ko6_3 (jsk (ko1_7 hk10) hb11.1 hb11.2)) (by rw [lo6_3 (jsk (ko1_7 hk10) hb11.1 hb11.2)]; exact hb32) dX4_doLine_84 ?_
          refine x_goto (tgt := 89) (pc := 85) hC dX4_doLine_85 (by decide) ?_
          exact Hk19 _ h
    · replace h := jit_neg hc h
      exact Hk3 h

set_option maxHeartbeats 4000000 in
set_option maxRecDepth 20000 in
theorem ok_X4_newName {X : jX} {n : Nat} (hn : 179 ≤ n) {l1 : Int} {M : jM} {rz : Int} {Mz : jM} (hl1 : jkd l1 = 2) (h : f_X4_newName l1 M = some (rz, Mz)) : jCt X n yX4_newName cX4_newName 2 (some .boolean) 3 [jA 109, jA l1] M (some (jI rz)) Mz := by
  refine jCt_of (own := RX4) (ls := [jA 109, jA l1]) (by decide +kernel) rfl hn (Nat.le_of_ble_eq_true rfl) rfl ?_
  intro C hC hR
  unfold f_X4_newName at h
  refine x_aloadA_n (pc := 0) hC dX4_newName_0 rfl rfl k_109 (by decide) ?_
  refine x_gi (pc := 1) (ji := 3) hC fl_X4_15 rfl fn4_3 k_109 dX4_newName_1 ?_
  refine x_bipush (pc := 4) hC dX4_newName_4 rfl ?_
  obtain ⟨k1, Hk1, h⟩ := jk_some (P := fun k1 => k1 = some (rz, Mz) → jG C X n 2 0 0 38 [jA 109, jA l1] [] M) h (by
    intro h
    refine x_aloadA_n (pc := 38) hC dX4_newName_38 rfl rfl k_109 (by decide) ?_
    obtain ⟨v4, M3, e2, h⟩ := jbW_some h
    refine x_cV (pc := 39) hC mv_X4_74 (ok_X4_refuse hn e2) rfl (Nat.le_of_ble_eq_true rfl) k_109 rfl (by decide) (jRo0 C) (Nat.le_of_ble_eq_true rfl) dX4_newName_39 rfl ?_
    obtain ⟨hz5, h⟩ := jck_some h
    exact x_zret (pc := 42) hC hR dX4_newName_42 hz5 (jr1 h) (jr2 h))
  refine x_icmp_ne (tgt := 38) (pc := 6) hC dX4_newName_6 (by decide) (fun hc => ?_) (fun hc => ?_)
  · replace h := jit_neg hc h
    exact Hk1 h
  · replace h := jit_pos hc h
    refine x_aloadA_n (pc := 9) hC dX4_newName_9 rfl rfl k_109 (by decide) ?_
    refine x_gi (pc := 10) (ji := 5) hC fl_X4_21 rfl fn4_5 k_109 dX4_newName_10 ?_
    refine x_bipush (pc := 13) hC dX4_newName_13 rfl ?_
    refine x_icmp_gt (tgt := 38) (pc := 15) hC dX4_newName_15 (by decide) (fun hc => ?_) (fun hc => ?_)
    · replace h := jit_pos hc h
      exact Hk1 h
    · replace h := jit_neg hc h
      refine x_aloadA_n (pc := 18) hC dX4_newName_18 rfl rfl hl1 (by decide) ?_
      refine x_aloadA_n (pc := 19) hC dX4_newName_19 rfl rfl k_109 (by decide) ?_
      refine x_gf (pc := 20) (b := 2) hC fl_X4_34 ft4_0 k_109 (by decide) (off := -107) (by decide +kernel) (by decide) dX4_newName_20 ?_
      refine x_aloadA_n (pc := 23) hC dX4_newName_23 rfl rfl k_109 (by decide) ?_
      refine x_gi (pc := 24) (ji := 4) hC fl_X4_18 rfl fn4_4 k_109 dX4_newName_24 ?_
      refine x_aloadA_n (pc := 27) hC dX4_newName_27 rfl rfl k_109 (by decide) ?_
      refine x_gi (pc := 28) (ji := 5) hC fl_X4_21 rfl fn4_5 k_109 dX4_newName_28 ?_
      obtain ⟨v7, e6, h⟩ := jbR_some h
      refine x_cV (pc := 31) hC mv_X4_107 (ok_X2_find hn hl1 k_2 e6) rfl (Nat.le_of_ble_eq_true rfl) hl1 rfl (by decide) (jRo0 C) (Nat.le_of_ble_eq_true rfl) dX4_newName_31 rfl ?_
      refine x_iconst (pc := 34) hC dX4_newName_34 ?_
      refine x_icmp_eq (tgt := 43) (pc := 35) hC dX4_newName_35 (by decide) (fun hc => ?_) (fun hc => ?_)
      · replace h := jit_pos hc h
        refine x_aloadA_n (pc := 43) hC dX4_newName_43 rfl rfl hl1 (by decide) ?_
        refine x_aloadA_n (pc := 44) hC dX4_newName_44 rfl rfl k_109 (by decide) ?_
        refine x_gf (pc := 45) (b := 2) hC fl_X4_34 ft4_0 k_109 (by decide) (off := -107) (by decide +kernel) (by decide) dX4_newName_45 ?_
        refine x_aloadA_n (pc := 48) hC dX4_newName_48 rfl rfl k_109 (by decide) ?_
        refine x_gi (pc := 49) (ji := 4) hC fl_X4_18 rfl fn4_4 k_109 dX4_newName_49 ?_
        refine x_aloadA_n (pc := 52) hC dX4_newName_52 rfl rfl k_109 (by decide) ?_
        refine x_gi (pc := 53) (ji := 5) hC fl_X4_21 rfl fn4_5 k_109 dX4_newName_53 ?_
        obtain ⟨M9, e8, h⟩ := jbV_some h
        refine x_cV (pc := 56) hC mv_X4_113 (ok_X2_add hn hl1 k_2 e8) rfl (Nat.le_of_ble_eq_true rfl) hl1 rfl (by decide) (jRo0 C) (Nat.le_of_ble_eq_true rfl) dX4_newName_56 rfl ?_
        refine x_aloadA_n (pc := 59) hC dX4_newName_59 rfl rfl k_109 (by decide) ?_
        obtain ⟨M11, e10, h⟩ := jbV_some h
        refine x_cV (pc := 60) hC mv_X4_95 (ok_X4_advance hn e10) rfl (Nat.le_of_ble_eq_true rfl) k_109 rfl (by decide) (jRo0 C) (Nat.le_of_ble_eq_true rfl) dX4_newName_60 rfl ?_
        refine x_iconst (pc := 63) hC dX4_newName_63 ?_
        exact x_zret (pc := 64) hC hR dX4_newName_64 (Or.inr jw1) (jr1 h) (jr2 h)
      · replace h := jit_neg hc h
        exact Hk1 h

set_option maxHeartbeats 4000000 in
set_option maxRecDepth 20000 in
theorem ok_X4_skaterLine {X : jX} {n : Nat} (hn : 179 ≤ n) {M : jM} {rz : Int} {Mz : jM} (h : f_X4_skaterLine M = some (rz, Mz)) : jCt X n yX4_skaterLine cX4_skaterLine 1 (some .boolean) 4 [jA 109] M (some (jI rz)) Mz := by
  refine jCt_of (own := RX4) (ls := [jA 109]) (by decide +kernel) rfl hn (Nat.le_of_ble_eq_true rfl) rfl ?_
  intro C hC hR
  unfold f_X4_skaterLine at h
  refine x_aloadA_n (pc := 0) hC dX4_skaterLine_0 rfl rfl k_109 (by decide) ?_
  obtain ⟨hk1, h⟩ := jck_some h
  refine x_gr (pc := 1) (ji := 1) hC fl_X4_38 rfl ft4_1 k_109 dX4_skaterLine_1 ?_
  refine x_gf (pc := 4) (b := ((M 109 1) + 13)) hC fl_X4_153 ft1_6 hk1 (by decide) (off := 13) (by decide +kernel) rfl dX4_skaterLine_4 ?_
  obtain ⟨v3, e2, h⟩ := jbR_some h
  refine x_cV (pc := 7) hC mv_X4_122 (ok_X2_isFull hn (ko1_6 hk1) e2) rfl (Nat.le_of_ble_eq_true rfl) (ko1_6 hk1) rfl (by decide) (jRo0 C) (Nat.le_of_ble_eq_true rfl) dX4_skaterLine_7 rfl ?_
  refine x_if_eq (tgt := 18) (pc := 10) hC dX4_skaterLine_10 (by decide) (fun hc => ?_) (fun hc => ?_)
  · replace h := jit_pos hc h
    refine x_aloadA_n (pc := 18) hC dX4_skaterLine_18 rfl rfl k_109 (by decide) ?_
    obtain ⟨M5, e4, h⟩ := jbV_some h
    refine x_cV (pc := 19) hC mv_X4_95 (ok_X4_advance hn e4) rfl (Nat.le_of_ble_eq_true rfl) k_109 rfl (by decide) (jRo0 C) (Nat.le_of_ble_eq_true rfl) dX4_skaterLine_19 rfl ?_
    refine x_aloadA_n (pc := 22) hC dX4_skaterLine_22 rfl rfl k_109 (by decide) ?_
    refine x_aloadA_n (pc := 23) hC dX4_skaterLine_23 rfl rfl k_109 (by decide) ?_
    obtain ⟨hk6, h⟩ := jck_some h
    refine x_gr (pc := 24) (ji := 1) hC fl_X4_38 rfl ft4_1 k_109 dX4_skaterLine_24 ?_
    refine x_gf (pc := 27) (b := ((M5 109 1) + 13)) hC fl_X4_153 ft1_6 hk6 (by decide) (off := 13) (by decide +kernel) rfl dX4_skaterLine_27 ?_
    obtain ⟨v9, M8, e7, h⟩ := jbW_some h
    refine x_cV (pc := 30) hC mv_X4_125 (ok_X4_newName hn (ko1_6 hk6) e7) rfl (Nat.le_of_ble_eq_true rfl) k_109 rfl (by decide) (jRo0 C) (Nat.le_of_ble_eq_true rfl) dX4_skaterLine_30 rfl ?_
    obtain ⟨hz10, h⟩ := jck_some h
    exact x_zret (pc := 33) hC hR dX4_skaterLine_33 hz10 (jr1 h) (jr2 h)
  · replace h := jit_neg hc h
    refine x_aloadA_n (pc := 13) hC dX4_skaterLine_13 rfl rfl k_109 (by decide) ?_
    obtain ⟨v13, M12, e11, h⟩ := jbW_some h
    refine x_cV (pc := 14) hC mv_X4_74 (ok_X4_refuse hn e11) rfl (Nat.le_of_ble_eq_true rfl) k_109 rfl (by decide) (jRo0 C) (Nat.le_of_ble_eq_true rfl) dX4_skaterLine_14 rfl ?_
    obtain ⟨hz14, h⟩ := jck_some h
    exact x_zret (pc := 17) hC hR dX4_skaterLine_17 hz14 (jr1 h) (jr2 h)

set_option maxHeartbeats 4000000 in
set_option maxRecDepth 20000 in
theorem ok_X5_isFull {X : jX} {n : Nat} (hn : 179 ≤ n) {t : Int} {M : jM} {rz : Int} (ht : jkd t = 5) (h : f_X5_isFull t M = some rz) : jCt X n yX5_isFull cX5_isFull 1 (some .boolean) 0 [jA t] M (some (jI rz)) M := by
  refine jCt_of (own := RX5) (ls := [jA t]) (by decide +kernel) rfl hn (Nat.le_of_ble_eq_true rfl) rfl ?_
  intro C hC hR
  unfold f_X5_isFull at h
  refine x_aloadA_n (pc := 0) hC dX5_isFull_0 rfl rfl ht (by decide) ?_
  refine x_gi (pc := 1) (ji := 0) hC fl_X5_9 rfl fn5_0 ht dX5_isFull_1 ?_
  refine x_bipush (pc := 4) hC dX5_isFull_4 rfl ?_
  refine x_icmp_lt (tgt := 13) (pc := 6) hC dX5_isFull_6 (by decide) (fun hc => ?_) (fun hc => ?_)
  · replace h := jit_pos hc h
    refine x_iconst (pc := 13) hC dX5_isFull_13 ?_
    exact x_zret (pc := 14) hC hR dX5_isFull_14 (Or.inl jw0) (jrR h) rfl
  · replace h := jit_neg hc h
    refine x_iconst (pc := 9) hC dX5_isFull_9 ?_
    refine x_goto (tgt := 14) (pc := 10) hC dX5_isFull_10 (by decide) ?_
    exact x_zret (pc := 14) hC hR dX5_isFull_14 (Or.inr jw1) (jrR h) rfl

set_option maxHeartbeats 4000000 in
set_option maxRecDepth 20000 in
theorem ok_X4_sign {X : jX} {n : Nat} (hn : 179 ≤ n) {l1 : Int} {M : jM} {rz : Int} {Mz : jM} (h : f_X4_sign l1 M = some (rz, Mz)) : jCt X n yX4_sign cX4_sign 2 (some .boolean) 1 [jA 109, jI l1] M (some (jI rz)) Mz := by
  refine jCt_of (own := RX4) (ls := [jA 109, jI l1]) (by decide +kernel) rfl hn (Nat.le_of_ble_eq_true rfl) rfl ?_
  intro C hC hR
  unfold f_X4_sign at h
  refine x_aloadA_n (pc := 0) hC dX4_sign_0 rfl rfl k_109 (by decide) ?_
  refine x_gi (pc := 1) (ji := 3) hC fl_X4_15 rfl fn4_3 k_109 dX4_sign_1 ?_
  refine x_iload_n (pc := 4) hC dX4_sign_4 rfl rfl ?_
  refine x_icmp_eq (tgt := 13) (pc := 5) hC dX4_sign_5 (by decide) (fun hc => ?_) (fun hc => ?_)
  · replace h := jit_pos hc h
    refine x_aloadA_n (pc := 13) hC dX4_sign_13 rfl rfl k_109 (by decide) ?_
    obtain ⟨M2, e1, h⟩ := jbV_some h
    refine x_cV (pc := 14) hC mv_X4_95 (ok_X4_advance hn e1) rfl (Nat.le_of_ble_eq_true rfl) k_109 rfl (by decide) (jRo0 C) (Nat.le_of_ble_eq_true rfl) dX4_sign_14 rfl ?_
    refine x_iconst (pc := 17) hC dX4_sign_17 ?_
    exact x_zret (pc := 18) hC hR dX4_sign_18 (Or.inr jw1) (jr1 h) (jr2 h)
  · replace h := jit_neg hc h
    refine x_aloadA_n (pc := 8) hC dX4_sign_8 rfl rfl k_109 (by decide) ?_
    obtain ⟨v5, M4, e3, h⟩ := jbW_some h
    refine x_cV (pc := 9) hC mv_X4_74 (ok_X4_refuse hn e3) rfl (Nat.le_of_ble_eq_true rfl) k_109 rfl (by decide) (jRo0 C) (Nat.le_of_ble_eq_true rfl) dX4_sign_9 rfl ?_
    obtain ⟨hz6, h⟩ := jck_some h
    exact x_zret (pc := 12) hC hR dX4_sign_12 hz6 (jr1 h) (jr2 h)

set_option maxHeartbeats 4000000 in
set_option maxRecDepth 20000 in
theorem ok_X5_add {X : jX} {n : Nat} (hn : 179 ≤ n) {t : Int} {l1 : Int} {M : jM} {Mz : jM} (ht : jkd t = 5) (h : f_X5_add t l1 M = some Mz) : jCt X n yX5_add cX5_add 2 (none) 0 [jA t, jI l1] M (none) Mz := by
  refine jCt_of (own := RX5) (ls := [jA t, jI l1]) (by decide +kernel) rfl hn (Nat.le_of_ble_eq_true rfl) rfl ?_
  intro C hC hR
  unfold f_X5_add at h
  refine x_aloadA_n (pc := 0) hC dX5_add_0 rfl rfl ht (by decide) ?_
  refine x_gi (pc := 1) (ji := 1) hC fl_X5_15 rfl fn5_1 ht dX5_add_1 ?_
  refine x_aloadA_n (pc := 4) hC dX5_add_4 rfl rfl ht (by decide) ?_
  refine x_gf (pc := 5) (b := (t + 1)) hC fl_X5_18 ft5_2 ht (by decide) (off := 1) (by decide +kernel) rfl dX5_add_5 ?_
  refine x_alen (pc := 8) hC (ko5_2 ht) dX5_add_8 ?_
  refine x_icmp_ge (tgt := 32) (pc := 9) hC dX5_add_9 (by decide) (fun hc => ?_) (fun hc => ?_)
  · replace h := jit_pos hc h
    exact x_vret (pc := 32) hC hR dX5_add_32 (jrR h)
  · replace h := jit_neg hc h
    refine x_aloadA_n (pc := 12) hC dX5_add_12 rfl rfl ht (by decide) ?_
    refine x_gf (pc := 13) (b := (t + 1)) hC fl_X5_18 ft5_2 ht (by decide) (off := 1) (by decide +kernel) rfl dX5_add_13 ?_
    refine x_aloadA_n (pc := 16) hC dX5_add_16 rfl rfl ht (by decide) ?_
    refine x_gi (pc := 17) (ji := 1) hC fl_X5_15 rfl fn5_1 ht dX5_add_17 ?_
    refine x_iload_n (pc := 20) hC dX5_add_20 rfl rfl ?_
    obtain ⟨hb1, h⟩ := jck_some h
    obtain ⟨M2, eM2, h⟩ := jlet_some h
    refine x_iast (pc := 21) hC (ko5_2 ht) (by rw [lo5_2 ht]; exact hb1) dX5_add_21 eM2 ?_
    refine x_aloadA_n (pc := 22) hC dX5_add_22 rfl rfl ht (by decide) ?_
    refine x_dup (pc := 23) hC dX5_add_23 (show (2 : Nat) ≠ 3 by decide) ?_
    refine x_gi (pc := 24) (ji := 1) hC fl_X5_15 rfl fn5_1 ht dX5_add_24 ?_
    refine x_iconst (pc := 27) hC dX5_add_27 ?_
    refine x_iadd (pc := 28) hC dX5_add_28 ?_
    obtain ⟨M3, eM3, h⟩ := jlet_some h
    refine x_pi (pc := 29) (ji := 1) hC fl_X5_15 rfl ft5_1 ht dX5_add_29 eM3 ?_
    exact x_vret (pc := 32) hC hR dX5_add_32 (jrR h)

set_option maxHeartbeats 4000000 in
set_option maxRecDepth 20000 in
theorem ok_X4_relation {X : jX} {n : Nat} (hn : 179 ≤ n) {M : jM} {rz : Int} (h : f_X4_relation M = some rz) : jCt X n yX4_relation cX4_relation 1 (some .int) 0 [jA 109] M (some (jI rz)) M := by
  refine jCt_of (own := RX4) (ls := [jA 109]) (by decide +kernel) rfl hn (Nat.le_of_ble_eq_true rfl) rfl ?_
  intro C hC hR
  unfold f_X4_relation at h
  refine x_aloadA_n (pc := 0) hC dX4_relation_0 rfl rfl k_109 (by decide) ?_
  refine x_gi (pc := 1) (ji := 3) hC fl_X4_15 rfl fn4_3 k_109 dX4_relation_1 ?_
  rcases jit_or h with ⟨hc, h⟩ | ⟨hc, h⟩
  · refine x_tableOut (tgt := 41) (pc := 4) hC dX4_relation_4 hc (by decide) ?_
    refine x_iconst (pc := 41) hC dX4_relation_41 ?_
    exact x_iret (pc := 42) hC hR dX4_relation_42 (jrR h) rfl
  · rcases jit_or h with ⟨hq, h⟩ | ⟨hr0, h⟩
    · refine x_tableIn (tgt := 32) (off := 28) (pc := 4) hC dX4_relation_4 (by omega) (by omega) (by rw [hq]; rfl) (by decide) ?_
      refine x_bipush (pc := 32) hC dX4_relation_32 rfl ?_
      exact x_iret (pc := 34) hC hR dX4_relation_34 (jrR h) rfl
    · rcases jit_or h with ⟨hq, h⟩ | ⟨hr1, h⟩
      · refine x_tableIn (tgt := 35) (off := 31) (pc := 4) hC dX4_relation_4 (by omega) (by omega) (by rw [hq]; rfl) (by decide) ?_
        refine x_bipush (pc := 35) hC dX4_relation_35 rfl ?_
        exact x_iret (pc := 37) hC hR dX4_relation_37 (jrR h) rfl
      · have hq : jw (M 109 3) = 62 := by omega
        refine x_tableIn (tgt := 38) (off := 34) (pc := 4) hC dX4_relation_4 (by omega) (by omega) (by rw [hq]; rfl) (by decide) ?_
        refine x_bipush (pc := 38) hC dX4_relation_38 rfl ?_
        exact x_iret (pc := 40) hC hR dX4_relation_40 (jrR h) rfl

set_option maxHeartbeats 4000000 in
set_option maxRecDepth 20000 in
theorem ok_X5_close {X : jX} {n : Nat} (hn : 179 ≤ n) {t : Int} {l1 : Int} {l2 : Int} {M : jM} {Mz : jM} (ht : jkd t = 5) (h : f_X5_close t l1 l2 M = some Mz) : jCt X n yX5_close cX5_close 3 (none) 1 [jA t, jI l1, jI l2] M (none) Mz := by
  refine jCt_of (own := RX5) (ls := [jA t, jI l1, jI l2]) (by decide +kernel) rfl hn (Nat.le_of_ble_eq_true rfl) rfl ?_
  intro C hC hR
  unfold f_X5_close at h
  refine x_aloadA_n (pc := 0) hC dX5_close_0 rfl rfl ht (by decide) ?_
  obtain ⟨v2, e1, h⟩ := jbR_some h
  refine x_cV (pc := 1) hC mv_X5_34 (ok_X5_isFull hn ht e1) rfl (Nat.le_of_ble_eq_true rfl) ht rfl (by decide) (jRo0 C) (Nat.le_of_ble_eq_true rfl) dX5_close_1 rfl ?_
  refine x_if_eq (tgt := 8) (pc := 4) hC dX5_close_4 (by decide) (fun hc => ?_) (fun hc => ?_)
  · replace h := jit_pos hc h
    refine x_aloadA_n (pc := 8) hC dX5_close_8 rfl rfl ht (by decide) ?_
    refine x_gf (pc := 9) (b := (t + 2)) hC fl_X5_22 ft5_3 ht (by decide) (off := 2) (by decide +kernel) rfl dX5_close_9 ?_
    refine x_aloadA_n (pc := 12) hC dX5_close_12 rfl rfl ht (by decide) ?_
    refine x_gi (pc := 13) (ji := 0) hC fl_X5_9 rfl fn5_0 ht dX5_close_13 ?_
    refine x_iload_n (pc := 16) hC dX5_close_16 rfl rfl ?_
    obtain ⟨hb3, h⟩ := jck_some h
    obtain ⟨M4, eM4, h⟩ := jlet_some h
    refine x_iast (pc := 17) hC (ko5_3 ht) (by rw [lo5_3 ht]; exact hb3) dX5_close_17 eM4 ?_
    refine x_aloadA_n (pc := 18) hC dX5_close_18 rfl rfl ht (by decide) ?_
    refine x_gf (pc := 19) (b := (t + 3)) hC fl_X5_25 ft5_4 ht (by decide) (off := 3) (by decide +kernel) rfl dX5_close_19 ?_
    refine x_aloadA_n (pc := 22) hC dX5_close_22 rfl rfl ht (by decide) ?_
    refine x_gi (pc := 23) (ji := 0) hC fl_X5_9 rfl fn5_0 ht dX5_close_23 ?_
    refine x_iload_n (pc := 26) hC dX5_close_26 rfl rfl ?_
    obtain ⟨hb5, h⟩ := jck_some h
    obtain ⟨M6, eM6, h⟩ := jlet_some h
    refine x_iast (pc := 27) hC (ko5_4 ht) (by rw [lo5_4 ht]; exact hb5) dX5_close_27 eM6 ?_
    refine x_aloadA_n (pc := 28) hC dX5_close_28 rfl rfl ht (by decide) ?_
    refine x_gf (pc := 29) (b := (t + 4)) hC fl_X5_28 ft5_5 ht (by decide) (off := 4) (by decide +kernel) rfl dX5_close_29 ?_
    refine x_aloadA_n (pc := 32) hC dX5_close_32 rfl rfl ht (by decide) ?_
    refine x_gi (pc := 33) (ji := 0) hC fl_X5_9 rfl fn5_0 ht dX5_close_33 ?_
    refine x_aloadA_n (pc := 36) hC dX5_close_36 rfl rfl ht (by decide) ?_
    refine x_gi (pc := 37) (ji := 1) hC fl_X5_15 rfl fn5_1 ht dX5_close_37 ?_
    obtain ⟨hb7, h⟩ := jck_some h
    obtain ⟨M8, eM8, h⟩ := jlet_some h
    refine x_iast (pc := 40) hC (ko5_5 ht) (by rw [lo5_5 ht]; exact hb7) dX5_close_40 eM8 ?_
    refine x_aloadA_n (pc := 41) hC dX5_close_41 rfl rfl ht (by decide) ?_
    refine x_dup (pc := 42) hC dX5_close_42 (show (2 : Nat) ≠ 3 by decide) ?_
    refine x_gi (pc := 43) (ji := 0) hC fl_X5_9 rfl fn5_0 ht dX5_close_43 ?_
    refine x_iconst (pc := 46) hC dX5_close_46 ?_
    refine x_iadd (pc := 47) hC dX5_close_47 ?_
    obtain ⟨M9, eM9, h⟩ := jlet_some h
    refine x_pi (pc := 48) (ji := 0) hC fl_X5_9 rfl ft5_0 ht dX5_close_48 eM9 ?_
    exact x_vret (pc := 51) hC hR dX5_close_51 (jrR h)
  · replace h := jit_neg hc h
    exact x_vret (pc := 7) hC hR dX5_close_7 (jrR h)

set_option maxHeartbeats 4000000 in
set_option maxRecDepth 20000 in
theorem ok_X4_judgesLine {X : jX} {n : Nat} (hn : 179 ≤ n) {M : jM} {rz : Int} {Mz : jM} (h : f_X4_judgesLine M = some (rz, Mz)) : jCt X n yX4_judgesLine cX4_judgesLine 1 (some .boolean) 2 [jA 109] M (some (jI rz)) Mz := by
  refine jCt_of (own := RX4) (ls := [jA 109]) (by decide +kernel) rfl hn (Nat.le_of_ble_eq_true rfl) rfl ?_
  intro C hC hR
  unfold f_X4_judgesLine at h
  refine x_aloadA_n (pc := 0) hC dX4_judgesLine_0 rfl rfl k_109 (by decide) ?_
  refine x_gi (pc := 1) (ji := 8) hC fl_X4_30 rfl fn4_8 k_109 dX4_judgesLine_1 ?_
  refine x_if_eq (tgt := 12) (pc := 4) hC dX4_judgesLine_4 (by decide) (fun hc => ?_) (fun hc => ?_)
  · replace h := jit_pos hc h
    refine x_aloadA_n (pc := 12) hC dX4_judgesLine_12 rfl rfl k_109 (by decide) ?_
    obtain ⟨M2, e1, h⟩ := jbV_some h
    refine x_cV (pc := 13) hC mv_X4_95 (ok_X4_advance hn e1) rfl (Nat.le_of_ble_eq_true rfl) k_109 rfl (by decide) (jRo0 C) (Nat.le_of_ble_eq_true rfl) dX4_judgesLine_13 rfl ?_
    refine x_aloadA_n (pc := 16) hC dX4_judgesLine_16 rfl rfl k_109 (by decide) ?_
    refine x_iconst (pc := 17) hC dX4_judgesLine_17 ?_
    refine x_bipush (pc := 18) hC dX4_judgesLine_18 rfl ?_
    obtain ⟨v5, M4, e3, h⟩ := jbW_some h
    refine x_cV (pc := 20) hC mv_X4_131 (ok_X4_number hn e3) rfl (Nat.le_of_ble_eq_true rfl) k_109 rfl (by decide) (jRo0 C) (Nat.le_of_ble_eq_true rfl) dX4_judgesLine_20 rfl ?_
    refine x_if_ne (tgt := 28) (pc := 23) hC dX4_judgesLine_23 (by decide) (fun hc => ?_) (fun hc => ?_)
    · replace h := jit_neg hc h
      refine x_aloadA_n (pc := 28) hC dX4_judgesLine_28 rfl rfl k_109 (by decide) ?_
      obtain ⟨hk6, h⟩ := jck_some h
      refine x_gr (pc := 29) (ji := 1) hC fl_X4_38 rfl ft4_1 k_109 dX4_judgesLine_29 ?_
      refine x_aloadA_n (pc := 32) hC dX4_judgesLine_32 rfl rfl k_109 (by decide) ?_
      refine x_gi (pc := 33) (ji := 6) hC fl_X4_24 rfl fn4_6 k_109 dX4_judgesLine_33 ?_
      obtain ⟨M7, eM7, h⟩ := jlet_some h
      refine x_pi (pc := 36) (ji := 0) hC fl_X4_141 rfl ft1_0 hk6 dX4_judgesLine_36 eM7 ?_
      refine x_iconst (pc := 39) hC dX4_judgesLine_39 ?_
      exact x_zret (pc := 40) hC hR dX4_judgesLine_40 (Or.inr jw1) (jr1 h) (jr2 h)
    · replace h := jit_pos hc h
      refine x_iconst (pc := 26) hC dX4_judgesLine_26 ?_
      exact x_zret (pc := 27) hC hR dX4_judgesLine_27 (Or.inl jw0) (jr1 h) (jr2 h)
  · replace h := jit_neg hc h
    refine x_aloadA_n (pc := 7) hC dX4_judgesLine_7 rfl rfl k_109 (by decide) ?_
    obtain ⟨v10, M9, e8, h⟩ := jbW_some h
    refine x_cV (pc := 8) hC mv_X4_74 (ok_X4_refuse hn e8) rfl (Nat.le_of_ble_eq_true rfl) k_109 rfl (by decide) (jRo0 C) (Nat.le_of_ble_eq_true rfl) dX4_judgesLine_8 rfl ?_
    obtain ⟨hz11, h⟩ := jck_some h
    exact x_zret (pc := 11) hC hR dX4_judgesLine_11 hz11 (jr1 h) (jr2 h)

set_option maxHeartbeats 4000000 in
set_option maxRecDepth 20000 in
theorem ok_X4_elementLine {X : jX} {n : Nat} (hn : 179 ≤ n) {M : jM} {rz : Int} {Mz : jM} (h : f_X4_elementLine M = some (rz, Mz)) : jCt X n yX4_elementLine cX4_elementLine 3 (some .boolean) 6 [jA 109] M (some (jI rz)) Mz := by
  refine jCt_of (own := RX4) (ls := [jA 109, jN, jN]) (by decide +kernel) rfl hn (Nat.le_of_ble_eq_true rfl) rfl ?_
  intro C hC hR
  unfold f_X4_elementLine at h
  refine x_aloadA_n (pc := 0) hC dX4_elementLine_0 rfl rfl k_109 (by decide) ?_
  obtain ⟨hk1, h⟩ := jck_some h
  refine x_gr (pc := 1) (ji := 1) hC fl_X4_38 rfl ft4_1 k_109 dX4_elementLine_1 ?_
  refine x_gf (pc := 4) (b := ((M 109 1) + 2)) hC fl_X4_117 ft1_2 hk1 (by decide) (off := 2) (by decide +kernel) rfl dX4_elementLine_4 ?_
  refine x_gi (pc := 7) (ji := 3) hC fl_X4_121 rfl fn2_3 (ko1_2 hk1) dX4_elementLine_7 ?_
  obtain ⟨l1_2, el1_2, h⟩ := jlet_some h
  refine x_istore_n (ls2 := [jA 109, jI l1_2, jN]) (pc := 10) hC dX4_elementLine_10 rfl (by decide) rfl el1_2 rfl ?_
  refine x_aloadA_n (pc := 11) hC dX4_elementLine_11 rfl rfl k_109 (by decide) ?_
  refine x_gr (pc := 12) (ji := 1) hC fl_X4_38 rfl ft4_1 k_109 dX4_elementLine_12 ?_
  refine x_gf (pc := 15) (b := ((M 109 1) + 2)) hC fl_X4_117 ft1_2 hk1 (by decide) (off := 2) (by decide +kernel) rfl dX4_elementLine_15 ?_
  obtain ⟨v4, e3, h⟩ := jbR_some h
  refine x_cV (pc := 18) hC mv_X4_122 (ok_X2_isFull hn (ko1_2 hk1) e3) rfl (Nat.le_of_ble_eq_true rfl) (ko1_2 hk1) rfl (by decide) (jRo0 C) (Nat.le_of_ble_eq_true rfl) dX4_elementLine_18 rfl ?_
  refine x_if_eq (tgt := 29) (pc := 21) hC dX4_elementLine_21 (by decide) (fun hc => ?_) (fun hc => ?_)
  · replace h := jit_pos hc h
    refine x_aloadA_n (pc := 29) hC dX4_elementLine_29 rfl rfl k_109 (by decide) ?_
    obtain ⟨M6, e5, h⟩ := jbV_some h
    refine x_cV (pc := 30) hC mv_X4_95 (ok_X4_advance hn e5) rfl (Nat.le_of_ble_eq_true rfl) k_109 rfl (by decide) (jRo0 C) (Nat.le_of_ble_eq_true rfl) dX4_elementLine_30 rfl ?_
    refine x_aloadA_n (pc := 33) hC dX4_elementLine_33 rfl rfl k_109 (by decide) ?_
    refine x_aloadA_n (pc := 34) hC dX4_elementLine_34 rfl rfl k_109 (by decide) ?_
    obtain ⟨hk7, h⟩ := jck_some h
    refine x_gr (pc := 35) (ji := 1) hC fl_X4_38 rfl ft4_1 k_109 dX4_elementLine_35 ?_
    refine x_gf (pc := 38) (b := ((M6 109 1) + 2)) hC fl_X4_117 ft1_2 hk7 (by decide) (off := 2) (by decide +kernel) rfl dX4_elementLine_38 ?_
    obtain ⟨v10, M9, e8, h⟩ := jbW_some h
    refine x_cV (pc := 41) hC mv_X4_125 (ok_X4_newName hn (ko1_2 hk7) e8) rfl (Nat.le_of_ble_eq_true rfl) k_109 rfl (by decide) (jRo0 C) (Nat.le_of_ble_eq_true rfl) dX4_elementLine_41 rfl ?_
    refine x_if_ne (tgt := 49) (pc := 44) hC dX4_elementLine_44 (by decide) (fun hc => ?_) (fun hc => ?_)
    · replace h := jit_neg hc h
      refine x_aloadA_n (pc := 49) hC dX4_elementLine_49 rfl rfl k_109 (by decide) ?_
      refine x_ldcS (pc := 50) hC dX4_elementLine_50 sr_1 (q := 1) rfl ?_
      obtain ⟨v12, e11, h⟩ := jbR_some h
      refine x_cV (pc := 52) hC mv_X4_48 (ok_X4_among hn (by decide) e11) rfl (Nat.le_of_ble_eq_true rfl) k_109 rfl (by decide) (jRo0 C) (Nat.le_of_ble_eq_true rfl) dX4_elementLine_52 rfl ?_
      refine x_istore_n (ls2 := [jA 109, jI l1_2, jI v12]) (pc := 55) hC dX4_elementLine_55 rfl (by decide) rfl rfl rfl ?_
      refine x_iload_n (pc := 56) hC dX4_elementLine_56 rfl rfl ?_
      refine x_iconst (pc := 57) hC dX4_elementLine_57 ?_
      refine x_icmp_ne (tgt := 66) (pc := 58) hC dX4_elementLine_58 (by decide) (fun hc => ?_) (fun hc => ?_)
      · replace h := jit_neg hc h
        refine x_aloadA_n (pc := 66) hC dX4_elementLine_66 rfl rfl k_109 (by decide) ?_
        obtain ⟨M14, e13, h⟩ := jbV_some h
        refine x_cV (pc := 67) hC mv_X4_95 (ok_X4_advance hn e13) rfl (Nat.le_of_ble_eq_true rfl) k_109 rfl (by decide) (jRo0 C) (Nat.le_of_ble_eq_true rfl) dX4_elementLine_67 rfl ?_
        refine x_aloadA_n (pc := 70) hC dX4_elementLine_70 rfl rfl k_109 (by decide) ?_
        refine x_iconst (pc := 71) hC dX4_elementLine_71 ?_
        refine x_sipush (pc := 72) hC dX4_elementLine_72 rfl ?_
        obtain ⟨v17, M16, e15, h⟩ := jbW_some h
        refine x_cV (pc := 75) hC mv_X4_131 (ok_X4_number hn e15) rfl (Nat.le_of_ble_eq_true rfl) k_109 rfl (by decide) (jRo0 C) (Nat.le_of_ble_eq_true rfl) dX4_elementLine_75 rfl ?_
        refine x_if_ne (tgt := 83) (pc := 78) hC dX4_elementLine_78 (by decide) (fun hc => ?_) (fun hc => ?_)
        · replace h := jit_neg hc h
          refine x_aloadA_n (pc := 83) hC dX4_elementLine_83 rfl rfl k_109 (by decide) ?_
          obtain ⟨hk18, h⟩ := jck_some h
          refine x_gr (pc := 84) (ji := 1) hC fl_X4_38 rfl ft4_1 k_109 dX4_elementLine_84 ?_
          refine x_gf (pc := 87) (b := ((M16 109 1) + 6)) hC fl_X4_135 ft1_4 hk18 (by decide) (off := 6) (by decide +kernel) rfl dX4_elementLine_87 ?_
          refine x_iload_n (pc := 90) hC dX4_elementLine_90 rfl rfl ?_
          refine x_iload_n (pc := 91) hC dX4_elementLine_91 rfl rfl ?_
          obtain ⟨hb19, h⟩ := jck_some h
          obtain ⟨M20, eM20, h⟩ := jlet_some h
          refine x_iast (pc := 92) hC (ko1_4 hk18) (by rw [lo1_4 hk18]; exact hb19) dX4_elementLine_92 eM20 ?_
          refine x_aloadA_n (pc := 93) hC dX4_elementLine_93 rfl rfl k_109 (by decide) ?_
          obtain ⟨hk21, h⟩ := jck_some h
          refine x_gr (pc := 94) (ji := 1) hC fl_X4_38 rfl ft4_1 k_109 dX4_elementLine_94 ?_
          refine x_gf (pc := 97) (b := ((M20 109 1) + 5)) hC fl_X4_138 ft1_3 hk21 (by decide) (off := 5) (by decide +kernel) rfl dX4_elementLine_97 ?_
          refine x_iload_n (pc := 100) hC dX4_elementLine_100 rfl rfl ?_
          refine x_aloadA_n (pc := 101) hC dX4_elementLine_101 rfl rfl k_109 (by decide) ?_
          refine x_gi (pc := 102) (ji := 6) hC fl_X4_24 rfl fn4_6 k_109 dX4_elementLine_102 ?_
          obtain ⟨hb22, h⟩ := jck_some h
          obtain ⟨M23, eM23, h⟩ := jlet_some h
          refine x_iast (pc := 105) hC (ko1_3 hk21) (by rw [lo1_3 hk21]; exact hb22) dX4_elementLine_105 eM23 ?_
          refine x_iconst (pc := 106) hC dX4_elementLine_106 ?_
          exact x_zret (pc := 107) hC hR dX4_elementLine_107 (Or.inr jw1) (jr1 h) (jr2 h)
        · replace h := jit_pos hc h
          refine x_iconst (pc := 81) hC dX4_elementLine_81 ?_
          exact x_zret (pc := 82) hC hR dX4_elementLine_82 (Or.inl jw0) (jr1 h) (jr2 h)
      · replace h := jit_pos hc h
        refine x_aloadA_n (pc := 61) hC dX4_elementLine_61 rfl rfl k_109 (by decide) ?_
        obtain ⟨v26, M25, e24, h⟩ := jbW_some h
        refine x_cV (pc := 62) hC mv_X4_74 (ok_X4_refuse hn e24) rfl (Nat.le_of_ble_eq_true rfl) k_109 rfl (by decide) (jRo0 C) (Nat.le_of_ble_eq_true rfl) dX4_elementLine_62 rfl ?_
        obtain ⟨hz27, h⟩ := jck_some h
        exact x_zret (pc := 65) hC hR dX4_elementLine_65 hz27 (jr1 h) (jr2 h)
    · replace h := jit_pos hc h
      refine x_iconst (pc := 47) hC dX4_elementLine_47 ?_
      exact x_zret (pc := 48) hC hR dX4_elementLine_48 (Or.inl jw0) (jr1 h) (jr2 h)
  · replace h := jit_neg hc h
    refine x_aloadA_n (pc := 24) hC dX4_elementLine_24 rfl rfl k_109 (by decide) ?_
    obtain ⟨v30, M29, e28, h⟩ := jbW_some h
    refine x_cV (pc := 25) hC mv_X4_74 (ok_X4_refuse hn e28) rfl (Nat.le_of_ble_eq_true rfl) k_109 rfl (by decide) (jRo0 C) (Nat.le_of_ble_eq_true rfl) dX4_elementLine_25 rfl ?_
    obtain ⟨hz31, h⟩ := jck_some h
    exact x_zret (pc := 28) hC hR dX4_elementLine_28 hz31 (jr1 h) (jr2 h)

set_option maxHeartbeats 4000000 in
set_option maxRecDepth 20000 in
theorem ok_X4_settingLine {X : jX} {n : Nat} (hn : 179 ≤ n) {l1 : Int} {M : jM} {rz : Int} {Mz : jM} (h : f_X4_settingLine l1 M = some (rz, Mz)) : jCt X n yX4_settingLine cX4_settingLine 4 (some .boolean) 2 [jA 109, jI l1] M (some (jI rz)) Mz := by
  refine jCt_of (own := RX4) (ls := [jA 109, jI l1, jN, jN]) (by decide +kernel) rfl hn (Nat.le_of_ble_eq_true rfl) rfl ?_
  intro C hC hR
  unfold f_X4_settingLine at h
  refine x_iload_n (pc := 0) hC dX4_settingLine_0 rfl rfl ?_
  refine x_iconst (pc := 1) hC dX4_settingLine_1 ?_
  obtain ⟨k2, Hk2, h⟩ := jk_some (P := fun k2 => ∀ (s0_1 : Int), k2 s0_1 = some (rz, Mz) → jG C X n 4 0 0 10 [jA 109, jI l1, jN, jN] [jI s0_1] M) h (by
    intro s0_1 h
    refine x_istore_n (ls2 := [jA 109, jI l1, jI s0_1, jN]) (pc := 10) hC dX4_settingLine_10 rfl (by decide) rfl rfl rfl ?_
    refine x_aloadA_n (pc := 11) hC dX4_settingLine_11 rfl rfl k_109 (by decide) ?_
    obtain ⟨M4, e3, h⟩ := jbV_some h
    refine x_cV (pc := 12) hC mv_X4_95 (ok_X4_advance hn e3) rfl (Nat.le_of_ble_eq_true rfl) k_109 rfl (by decide) (jRo0 C) (Nat.le_of_ble_eq_true rfl) dX4_settingLine_12 rfl ?_
    refine x_iload_n (pc := 15) hC dX4_settingLine_15 rfl rfl ?_
    refine x_istore_n (ls2 := [jA 109, jI l1, jI s0_1, jI l1]) (pc := 16) hC dX4_settingLine_16 rfl (by decide) rfl rfl rfl ?_
    refine jlp2_ind (P := fun (l3_5 : Int) (M6 : jM) => jG C X n 4 0 0 17 [jA 109, jI l1, jI s0_1, jI l3_5] [] M6) ?_ _ _ _ h
    intro self7 l3_5 M6 Hself7 h
    refine x_iload_n (pc := 17) hC dX4_settingLine_17 rfl rfl ?_
    refine x_iload_n (pc := 18) hC dX4_settingLine_18 rfl rfl ?_
    refine x_iload_n (pc := 19) hC dX4_settingLine_19 rfl rfl ?_
    refine x_iadd (pc := 20) hC dX4_settingLine_20 ?_
    refine x_icmp_ge (tgt := 68) (pc := 21) hC dX4_settingLine_21 (by decide) (fun hc => ?_) (fun hc => ?_)
    · replace h := jit_pos hc h
      refine x_iconst (pc := 68) hC dX4_settingLine_68 ?_
      exact x_zret (pc := 69) hC hR dX4_settingLine_69 (Or.inr jw1) (jr1 h) (jr2 h)
    · replace h := jit_neg hc h
      refine x_iload_n (pc := 24) hC dX4_settingLine_24 rfl rfl ?_
      refine x_bipush (pc := 25) hC dX4_settingLine_25 rfl ?_
      refine x_icmp_ge (tgt := 68) (pc := 27) hC dX4_settingLine_27 (by decide) (fun hc => ?_) (fun hc => ?_)
      · replace h := jit_pos hc h
        refine x_iconst (pc := 68) hC dX4_settingLine_68 ?_
        exact x_zret (pc := 69) hC hR dX4_settingLine_69 (Or.inr jw1) (jr1 h) (jr2 h)
      · replace h := jit_neg hc h
        refine x_aloadA_n (pc := 30) hC dX4_settingLine_30 rfl rfl k_109 (by decide) ?_
        refine x_gst (pc := 31) hC (k := 0) (by decide) sl_X4_144 dX4_settingLine_31 ?_
        refine x_iload_n (pc := 34) hC dX4_settingLine_34 rfl rfl ?_
        obtain ⟨hb8, h⟩ := jck_some h
        refine x_tald (pc := 35) hC (k := 0) (by decide) hb8 dX4_settingLine_35 ?_
        refine x_gst (pc := 36) hC (k := 1) (by decide) sl_X4_147 dX4_settingLine_36 ?_
        refine x_iload_n (pc := 39) hC dX4_settingLine_39 rfl rfl ?_
        obtain ⟨hb9, h⟩ := jck_some h
        refine x_tald (pc := 40) hC (k := 1) (by decide) hb9 dX4_settingLine_40 ?_
        obtain ⟨v12, M11, e10, h⟩ := jbW_some h
        refine x_cV (pc := 41) hC mv_X4_131 (ok_X4_number hn e10) rfl (Nat.le_of_ble_eq_true rfl) k_109 rfl (by decide) (jRo0 C) (Nat.le_of_ble_eq_true rfl) dX4_settingLine_41 rfl ?_
        refine x_if_ne (tgt := 49) (pc := 44) hC dX4_settingLine_44 (by decide) (fun hc => ?_) (fun hc => ?_)
        · replace h := jit_neg hc h
          refine x_aloadA_n (pc := 49) hC dX4_settingLine_49 rfl rfl k_109 (by decide) ?_
          obtain ⟨hk13, h⟩ := jck_some h
          refine x_gr (pc := 50) (ji := 1) hC fl_X4_38 rfl ft4_1 k_109 dX4_settingLine_50 ?_
          refine x_gf (pc := 53) (b := ((M11 109 1) + 1)) hC fl_X4_150 ft1_1 hk13 (by decide) (off := 1) (by decide +kernel) rfl dX4_settingLine_53 ?_
          refine x_iload_n (pc := 56) hC dX4_settingLine_56 rfl rfl ?_
          refine x_aloadA_n (pc := 57) hC dX4_settingLine_57 rfl rfl k_109 (by decide) ?_
          refine x_gi (pc := 58) (ji := 6) hC fl_X4_24 rfl fn4_6 k_109 dX4_settingLine_58 ?_
          obtain ⟨hb14, h⟩ := jck_some h
          obtain ⟨M15, eM15, h⟩ := jlet_some h
          refine x_iast (pc := 61) hC (ko1_1 hk13) (by rw [lo1_1 hk13]; exact hb14) dX4_settingLine_61 eM15 ?_
          obtain ⟨l3_16, el3_16, h⟩ := jlet_some h
          refine x_iinc (ls2 := [jA 109, jI l1, jI s0_1, jI l3_16]) (pc := 62) hC dX4_settingLine_62 rfl (by decide) rfl el3_16 rfl ?_
          refine x_goto (tgt := 17) (pc := 65) hC dX4_settingLine_65 (by decide) ?_
          exact Hself7 _ _ h
        · replace h := jit_pos hc h
          refine x_iconst (pc := 47) hC dX4_settingLine_47 ?_
          exact x_zret (pc := 48) hC hR dX4_settingLine_48 (Or.inl jw0) (jr1 h) (jr2 h))
  refine x_icmp_ne (tgt := 9) (pc := 2) hC dX4_settingLine_2 (by decide) (fun hc => ?_) (fun hc => ?_)
  · replace h := jit_neg hc h
    refine x_iconst (pc := 9) hC dX4_settingLine_9 ?_
    exact Hk2 _ h
  · replace h := jit_pos hc h
    refine x_iconst (pc := 5) hC dX4_settingLine_5 ?_
    refine x_goto (tgt := 10) (pc := 6) hC dX4_settingLine_6 (by decide) ?_
    exact Hk2 _ h

set_option maxHeartbeats 4000000 in
set_option maxRecDepth 20000 in
theorem ok_X5_valueOf {X : jX} {n : Nat} (hn : 179 ≤ n) {l0 : Int} {l1 : Int} {M : jM} {rz : Int} (hl1 : jkd l1 = 12) (h : f_X5_valueOf l0 l1 M = some rz) : jCt X n yX5_valueOf cX5_valueOf 3 (some .int) 0 [jI l0, jA l1] M (some (jI rz)) M := by
  refine jCt_of (own := RX5) (ls := [jI l0, jA l1, jN]) (by decide +kernel) rfl hn (Nat.le_of_ble_eq_true rfl) rfl ?_
  intro C hC hR
  unfold f_X5_valueOf at h
  refine x_iload_n (pc := 0) hC dX5_valueOf_0 rfl rfl ?_
  refine x_sipush (pc := 1) hC dX5_valueOf_1 rfl ?_
  refine x_isub (pc := 4) hC dX5_valueOf_4 ?_
  obtain ⟨l2_1, el2_1, h⟩ := jlet_some h
  refine x_istore_n (ls2 := [jI l0, jA l1, jI l2_1]) (pc := 5) hC dX5_valueOf_5 rfl (by decide) rfl el2_1 rfl ?_
  refine x_iload_n (pc := 6) hC dX5_valueOf_6 rfl rfl ?_
  refine x_if_lt (tgt := 22) (pc := 7) hC dX5_valueOf_7 (by decide) (fun hc => ?_) (fun hc => ?_)
  · replace h := jit_pos hc h
    refine x_iload_n (pc := 22) hC dX5_valueOf_22 rfl rfl ?_
    exact x_iret (pc := 23) hC hR dX5_valueOf_23 (jrR h) rfl
  · replace h := jit_neg hc h
    refine x_iload_n (pc := 10) hC dX5_valueOf_10 rfl rfl ?_
    refine x_aloadA_n (pc := 11) hC dX5_valueOf_11 rfl rfl hl1 (by decide) ?_
    refine x_alen (pc := 12) hC hl1 dX5_valueOf_12 ?_
    refine x_icmp_ge (tgt := 22) (pc := 13) hC dX5_valueOf_13 (by decide) (fun hc => ?_) (fun hc => ?_)
    · replace h := jit_pos hc h
      refine x_iload_n (pc := 22) hC dX5_valueOf_22 rfl rfl ?_
      exact x_iret (pc := 23) hC hR dX5_valueOf_23 (jrR h) rfl
    · replace h := jit_neg hc h
      refine x_aloadA_n (pc := 16) hC dX5_valueOf_16 rfl rfl hl1 (by decide) ?_
      refine x_iload_n (pc := 17) hC dX5_valueOf_17 rfl rfl ?_
      obtain ⟨hb2, h⟩ := jck_some h
      refine x_iald (pc := 18) hC hl1 hb2 dX5_valueOf_18 ?_
      refine x_goto (tgt := 23) (pc := 19) hC dX5_valueOf_19 (by decide) ?_
      exact x_iret (pc := 23) hC hR dX5_valueOf_23 (jrR h) rfl

set_option maxHeartbeats 4000000 in
set_option maxRecDepth 20000 in
theorem ok_J9_min_f86c9 {X : jX} {n : Nat} (hn : 179 ≤ n) {l0 : Int} {l2 : Int} {M : jM} {rz : Int} (h : f_J9_min_f86c9 l0 l2 = some rz) : jCt X n yJ9_min_f86c9 cJ9_min_f86c9 4 (some .long) 0 [jJ l0, jJ l2] M (some (jJ rz)) M := by
  refine jCt_of (own := RJ9) (ls := [jJ l0, jN, jJ l2, jN]) (by decide +kernel) rfl hn (Nat.le_of_ble_eq_true rfl) rfl ?_
  intro C hC hR
  unfold f_J9_min_f86c9 at h
  refine x_lload_n (pc := 0) hC dJ9_min_f86c9_0 rfl rfl ?_
  refine x_lload_n (pc := 1) hC dJ9_min_f86c9_1 rfl rfl ?_
  refine x_lcmp (pc := 2) hC dJ9_min_f86c9_2 ?_
  refine x_if_gt (tgt := 10) (pc := 3) hC dJ9_min_f86c9_3 (by decide) (fun hc => ?_) (fun hc => ?_)
  · replace h := jit_pos hc h
    refine x_lload_n (pc := 10) hC dJ9_min_f86c9_10 rfl rfl ?_
    exact x_lret (pc := 11) hC hR dJ9_min_f86c9_11 (jrR h) rfl
  · replace h := jit_neg hc h
    refine x_lload_n (pc := 6) hC dJ9_min_f86c9_6 rfl rfl ?_
    refine x_goto (tgt := 11) (pc := 7) hC dJ9_min_f86c9_7 (by decide) ?_
    exact x_lret (pc := 11) hC hR dJ9_min_f86c9_11 (jrR h) rfl

set_option maxHeartbeats 4000000 in
set_option maxRecDepth 20000 in
theorem ok_J9_max_f86c9 {X : jX} {n : Nat} (hn : 179 ≤ n) {l0 : Int} {l2 : Int} {M : jM} {rz : Int} (h : f_J9_max_f86c9 l0 l2 = some rz) : jCt X n yJ9_max_f86c9 cJ9_max_f86c9 4 (some .long) 0 [jJ l0, jJ l2] M (some (jJ rz)) M := by
  refine jCt_of (own := RJ9) (ls := [jJ l0, jN, jJ l2, jN]) (by decide +kernel) rfl hn (Nat.le_of_ble_eq_true rfl) rfl ?_
  intro C hC hR
  unfold f_J9_max_f86c9 at h
  refine x_lload_n (pc := 0) hC dJ9_max_f86c9_0 rfl rfl ?_
  refine x_lload_n (pc := 1) hC dJ9_max_f86c9_1 rfl rfl ?_
  refine x_lcmp (pc := 2) hC dJ9_max_f86c9_2 ?_
  refine x_if_lt (tgt := 10) (pc := 3) hC dJ9_max_f86c9_3 (by decide) (fun hc => ?_) (fun hc => ?_)
  · replace h := jit_pos hc h
    refine x_lload_n (pc := 10) hC dJ9_max_f86c9_10 rfl rfl ?_
    exact x_lret (pc := 11) hC hR dJ9_max_f86c9_11 (jrR h) rfl
  · replace h := jit_neg hc h
    refine x_lload_n (pc := 6) hC dJ9_max_f86c9_6 rfl rfl ?_
    refine x_goto (tgt := 11) (pc := 7) hC dJ9_max_f86c9_7 (by decide) ?_
    exact x_lret (pc := 11) hC hR dJ9_max_f86c9_11 (jrR h) rfl

set_option maxHeartbeats 4000000 in
set_option maxRecDepth 20000 in
theorem ok_X5_joined {X : jX} {n : Nat} (hn : 179 ≤ n) {l0 : Int} {l1 : Int} {l3 : Int} {M : jM} {rz : Int} (h : f_X5_joined l0 l1 l3 = some rz) : jCt X n yX5_joined cX5_joined 7 (some .int) 1 [jI l0, jJ l1, jJ l3] M (some (jI rz)) M := by
  refine jCt_of (own := RX5) (ls := [jI l0, jJ l1, jN, jJ l3, jN, jN, jN]) (by decide +kernel) rfl hn (Nat.le_of_ble_eq_true rfl) rfl ?_
  intro C hC hR
  unfold f_X5_joined at h
  refine x_iload_n (pc := 0) hC dX5_joined_0 rfl rfl ?_
  rcases jit_or h with ⟨hc, h⟩ | ⟨hc, h⟩
  · refine x_tableOut (tgt := 108) (pc := 1) hC dX5_joined_1 hc (by decide) ?_
    refine x_iload_n (pc := 108) hC dX5_joined_108 rfl rfl ?_
    refine x_iconst (pc := 109) hC dX5_joined_109 ?_
    obtain ⟨k2, Hk2, h⟩ := jk_some (P := fun k2 => ∀ (s0_1 : Int), k2 s0_1 = some rz → jG C X n 7 0 0 134 [jI l0, jJ l1, jN, jJ l3, jN, jN, jN] [jJ s0_1] M) h (by
      intro s0_1 h
      refine x_lstore (ls2 := [jI l0, jJ l1, jN, jJ l3, jN, jJ s0_1, jN]) (pc := 134) hC dX5_joined_134 (by decide) rfl rfl rfl ?_
      refine x_ldc2 (pc := 136) hC cl_X5_59 dX5_joined_136 ?_
      refine x_ldc2 (pc := 139) hC cl_X5_61 dX5_joined_139 ?_
      refine x_lload (pc := 142) hC dX5_joined_142 rfl ?_
      obtain ⟨v4, e3, h⟩ := jbR_some h
      refine x_cS (pc := 144) hC ms_X5_63 (ok_J9_min_f86c9 hn e3) rfl (Nat.le_of_ble_eq_true rfl) (jRo0 C) (Nat.le_of_ble_eq_true rfl) dX5_joined_144 rfl ?_
      obtain ⟨v6, e5, h⟩ := jbR_some h
      refine x_cS (pc := 147) hC ms_X5_66 (ok_J9_max_f86c9 hn e5) rfl (Nat.le_of_ble_eq_true rfl) (jRo0 C) (Nat.le_of_ble_eq_true rfl) dX5_joined_147 rfl ?_
      refine x_l2i (pc := 150) hC dX5_joined_150 ?_
      exact x_iret (pc := 151) hC hR dX5_joined_151 (jrR h) rfl)
    refine x_icmp_ne (tgt := 119) (pc := 110) hC dX5_joined_110 (by decide) (fun hc => ?_) (fun hc => ?_)
    · replace h := jit_neg hc h
      refine x_iload_n (pc := 119) hC dX5_joined_119 rfl rfl ?_
      refine x_bipush (pc := 120) hC dX5_joined_120 rfl ?_
      refine x_icmp_ne (tgt := 131) (pc := 122) hC dX5_joined_122 (by decide) (fun hc => ?_) (fun hc => ?_)
      · replace h := jit_neg hc h
        refine x_lload_n (pc := 131) hC dX5_joined_131 rfl rfl ?_
        refine x_lload_n (pc := 132) hC dX5_joined_132 rfl rfl ?_
        refine x_lmul (pc := 133) hC dX5_joined_133 ?_
        exact Hk2 _ h
      · replace h := jit_pos hc h
        refine x_lload_n (pc := 125) hC dX5_joined_125 rfl rfl ?_
        refine x_lload_n (pc := 126) hC dX5_joined_126 rfl rfl ?_
        refine x_lsub (pc := 127) hC dX5_joined_127 ?_
        refine x_goto (tgt := 134) (pc := 128) hC dX5_joined_128 (by decide) ?_
        exact Hk2 _ h
    · replace h := jit_pos hc h
      refine x_lload_n (pc := 113) hC dX5_joined_113 rfl rfl ?_
      refine x_lload_n (pc := 114) hC dX5_joined_114 rfl rfl ?_
      refine x_ladd (pc := 115) hC dX5_joined_115 ?_
      refine x_goto (tgt := 134) (pc := 116) hC dX5_joined_116 (by decide) ?_
      exact Hk2 _ h
  · rcases jit_or h with ⟨hq, h⟩ | ⟨hr0, h⟩
    · refine x_tableIn (tgt := 90) (off := 89) (pc := 1) hC dX5_joined_1 (by omega) (by omega) (by rw [hq]; rfl) (by decide) ?_
      refine x_lload_n (pc := 90) hC dX5_joined_90 rfl rfl ?_
      refine x_lconst (z := 0) (pc := 91) hC dX5_joined_91 rfl ?_
      refine x_lcmp (pc := 92) hC dX5_joined_92 ?_
      refine x_if_ne (tgt := 102) (pc := 93) hC dX5_joined_93 (by decide) (fun hc => ?_) (fun hc => ?_)
      · replace h := jit_neg hc h
        refine x_iconst (pc := 102) hC dX5_joined_102 ?_
        refine x_goto (tgt := 107) (pc := 103) hC dX5_joined_103 (by decide) ?_
        exact x_iret (pc := 107) hC hR dX5_joined_107 (jrR h) rfl
      · replace h := jit_pos hc h
        refine x_lload_n (pc := 96) hC dX5_joined_96 rfl rfl ?_
        refine x_lconst (z := 0) (pc := 97) hC dX5_joined_97 rfl ?_
        refine x_lcmp (pc := 98) hC dX5_joined_98 ?_
        refine x_if_eq (tgt := 106) (pc := 99) hC dX5_joined_99 (by decide) (fun hc => ?_) (fun hc => ?_)
        · replace h := jit_pos hc h
          refine x_iconst (pc := 106) hC dX5_joined_106 ?_
          exact x_iret (pc := 107) hC hR dX5_joined_107 (jrR h) rfl
        · replace h := jit_neg hc h
          refine x_iconst (pc := 102) hC dX5_joined_102 ?_
          refine x_goto (tgt := 107) (pc := 103) hC dX5_joined_103 (by decide) ?_
          exact x_iret (pc := 107) hC hR dX5_joined_107 (jrR h) rfl
    · rcases jit_or h with ⟨hq, h⟩ | ⟨hr1, h⟩
      · refine x_tableIn (tgt := 72) (off := 71) (pc := 1) hC dX5_joined_1 (by omega) (by omega) (by rw [hq]; rfl) (by decide) ?_
        refine x_lload_n (pc := 72) hC dX5_joined_72 rfl rfl ?_
        refine x_lconst (z := 0) (pc := 73) hC dX5_joined_73 rfl ?_
        refine x_lcmp (pc := 74) hC dX5_joined_74 ?_
        refine x_if_eq (tgt := 88) (pc := 75) hC dX5_joined_75 (by decide) (fun hc => ?_) (fun hc => ?_)
        · replace h := jit_pos hc h
          refine x_iconst (pc := 88) hC dX5_joined_88 ?_
          exact x_iret (pc := 89) hC hR dX5_joined_89 (jrR h) rfl
        · replace h := jit_neg hc h
          refine x_lload_n (pc := 78) hC dX5_joined_78 rfl rfl ?_
          refine x_lconst (z := 0) (pc := 79) hC dX5_joined_79 rfl ?_
          refine x_lcmp (pc := 80) hC dX5_joined_80 ?_
          refine x_if_eq (tgt := 88) (pc := 81) hC dX5_joined_81 (by decide) (fun hc => ?_) (fun hc => ?_)
          · replace h := jit_pos hc h
            refine x_iconst (pc := 88) hC dX5_joined_88 ?_
            exact x_iret (pc := 89) hC hR dX5_joined_89 (jrR h) rfl
          · replace h := jit_neg hc h
            refine x_iconst (pc := 84) hC dX5_joined_84 ?_
            refine x_goto (tgt := 89) (pc := 85) hC dX5_joined_85 (by decide) ?_
            exact x_iret (pc := 89) hC hR dX5_joined_89 (jrR h) rfl
      · rcases jit_or h with ⟨hq, h⟩ | ⟨hr2, h⟩
        · refine x_tableIn (tgt := 60) (off := 59) (pc := 1) hC dX5_joined_1 (by omega) (by omega) (by rw [hq]; rfl) (by decide) ?_
          refine x_lload_n (pc := 60) hC dX5_joined_60 rfl rfl ?_
          refine x_lload_n (pc := 61) hC dX5_joined_61 rfl rfl ?_
          refine x_lcmp (pc := 62) hC dX5_joined_62 ?_
          refine x_if_le (tgt := 70) (pc := 63) hC dX5_joined_63 (by decide) (fun hc => ?_) (fun hc => ?_)
          · replace h := jit_pos hc h
            refine x_iconst (pc := 70) hC dX5_joined_70 ?_
            exact x_iret (pc := 71) hC hR dX5_joined_71 (jrR h) rfl
          · replace h := jit_neg hc h
            refine x_iconst (pc := 66) hC dX5_joined_66 ?_
            refine x_goto (tgt := 71) (pc := 67) hC dX5_joined_67 (by decide) ?_
            exact x_iret (pc := 71) hC hR dX5_joined_71 (jrR h) rfl
        · rcases jit_or h with ⟨hq, h⟩ | ⟨hr3, h⟩
          · refine x_tableIn (tgt := 48) (off := 47) (pc := 1) hC dX5_joined_1 (by omega) (by omega) (by rw [hq]; rfl) (by decide) ?_
            refine x_lload_n (pc := 48) hC dX5_joined_48 rfl rfl ?_
            refine x_lload_n (pc := 49) hC dX5_joined_49 rfl rfl ?_
            refine x_lcmp (pc := 50) hC dX5_joined_50 ?_
            refine x_if_ne (tgt := 58) (pc := 51) hC dX5_joined_51 (by decide) (fun hc => ?_) (fun hc => ?_)
            · replace h := jit_neg hc h
              refine x_iconst (pc := 58) hC dX5_joined_58 ?_
              exact x_iret (pc := 59) hC hR dX5_joined_59 (jrR h) rfl
            · replace h := jit_pos hc h
              refine x_iconst (pc := 54) hC dX5_joined_54 ?_
              refine x_goto (tgt := 59) (pc := 55) hC dX5_joined_55 (by decide) ?_
              exact x_iret (pc := 59) hC hR dX5_joined_59 (jrR h) rfl
          · have hq : jw l0 = (-4) := by omega
            refine x_tableIn (tgt := 36) (off := 35) (pc := 1) hC dX5_joined_1 (by omega) (by omega) (by rw [hq]; rfl) (by decide) ?_
            refine x_lload_n (pc := 36) hC dX5_joined_36 rfl rfl ?_
            refine x_lload_n (pc := 37) hC dX5_joined_37 rfl rfl ?_
            refine x_lcmp (pc := 38) hC dX5_joined_38 ?_
            refine x_if_ge (tgt := 46) (pc := 39) hC dX5_joined_39 (by decide) (fun hc => ?_) (fun hc => ?_)
            · replace h := jit_pos hc h
              refine x_iconst (pc := 46) hC dX5_joined_46 ?_
              exact x_iret (pc := 47) hC hR dX5_joined_47 (jrR h) rfl
            · replace h := jit_neg hc h
              refine x_iconst (pc := 42) hC dX5_joined_42 ?_
              refine x_goto (tgt := 47) (pc := 43) hC dX5_joined_43 (by decide) ?_
              exact x_iret (pc := 47) hC hR dX5_joined_47 (jrR h) rfl

set_option maxHeartbeats 4000000 in
set_option maxRecDepth 20000 in
theorem ok_X5_workOut {X : jX} {n : Nat} (hn : 179 ≤ n) {t : Int} {l1 : Int} {l2 : Int} {l3 : Int} {M : jM} {rz : Int} {Mz : jM} (ht : jkd t = 5) (hl3 : jkd l3 = 12) (h : f_X5_workOut t l1 l2 l3 M = some (rz, Mz)) : jCt X n yX5_workOut cX5_workOut 7 (some .int) 2 [jA t, jI l1, jI l2, jA l3] M (some (jI rz)) Mz := by
  refine jCt_of (own := RX5) (ls := [jA t, jI l1, jI l2, jA l3, jN, jN, jN]) (by decide +kernel) rfl hn (Nat.le_of_ble_eq_true rfl) rfl ?_
  intro C hC hR
  unfold f_X5_workOut at h
  refine x_iconst (pc := 0) hC dX5_workOut_0 ?_
  refine x_istore (ls2 := [jA t, jI l1, jI l2, jA l3, jI 0, jN, jN]) (pc := 1) hC dX5_workOut_1 (by decide) rfl rfl rfl ?_
  refine x_iload_n (pc := 3) hC dX5_workOut_3 rfl rfl ?_
  refine x_istore (ls2 := [jA t, jI l1, jI l2, jA l3, jI 0, jI l1, jN]) (pc := 4) hC dX5_workOut_4 (by decide) rfl rfl rfl ?_
  refine jlp3_ind (P := fun (l4_1 : Int) (l5_2 : Int) (M3 : jM) => jG C X n 7 0 0 6 [jA t, jI l1, jI l2, jA l3, jI l4_1, jI l5_2, jN] [] M3) ?_ _ _ _ _ h
  intro self4 l4_1 l5_2 M3 Hself4 h
  refine x_iload (pc := 6) hC dX5_workOut_6 rfl ?_
  refine x_iload_n (pc := 8) hC dX5_workOut_8 rfl rfl ?_
  refine x_icmp_ge (tgt := 103) (pc := 9) hC dX5_workOut_9 (by decide) (fun hc => ?_) (fun hc => ?_)
  · replace h := jit_pos hc h
    refine x_aloadA_n (pc := 103) hC dX5_workOut_103 rfl rfl ht (by decide) ?_
    refine x_gf (pc := 104) (b := (t + 5)) hC fl_X5_31 ft5_6 ht (by decide) (off := 5) (by decide +kernel) rfl dX5_workOut_104 ?_
    refine x_iconst (pc := 107) hC dX5_workOut_107 ?_
    obtain ⟨hb5, h⟩ := jck_some h
    refine x_iald (pc := 108) hC (ko5_6 ht) (by rw [lo5_6 ht]; exact hb5) dX5_workOut_108 ?_
    exact x_iret (pc := 109) hC hR dX5_workOut_109 (jr1 h) (jr2 h)
  · replace h := jit_neg hc h
    refine x_aloadA_n (pc := 12) hC dX5_workOut_12 rfl rfl ht (by decide) ?_
    refine x_gf (pc := 13) (b := (t + 1)) hC fl_X5_18 ft5_2 ht (by decide) (off := 1) (by decide +kernel) rfl dX5_workOut_13 ?_
    refine x_iload (pc := 16) hC dX5_workOut_16 rfl ?_
    obtain ⟨hb6, h⟩ := jck_some h
    refine x_iald (pc := 18) hC (ko5_2 ht) (by rw [lo5_2 ht]; exact hb6) dX5_workOut_18 ?_
    obtain ⟨l6_7, el6_7, h⟩ := jlet_some h
    refine x_istore (ls2 := [jA t, jI l1, jI l2, jA l3, jI l4_1, jI l5_2, jI l6_7]) (pc := 19) hC dX5_workOut_19 (by decide) rfl el6_7 rfl ?_
    refine x_iload (pc := 21) hC dX5_workOut_21 rfl ?_
    refine x_if_lt (tgt := 54) (pc := 23) hC dX5_workOut_23 (by decide) (fun hc => ?_) (fun hc => ?_)
    · replace h := jit_pos hc h
      refine x_iload (pc := 54) hC dX5_workOut_54 rfl ?_
      refine x_iconst (pc := 56) hC dX5_workOut_56 ?_
      refine x_icmp_ge (tgt := 62) (pc := 57) hC dX5_workOut_57 (by decide) (fun hc => ?_) (fun hc => ?_)
      · replace h := jit_pos hc h
        obtain ⟨l4_8, el4_8, h⟩ := jlet_some h
        refine x_iinc (ls2 := [jA t, jI l1, jI l2, jA l3, jI l4_8, jI l5_2, jI l6_7]) (pc := 62) hC dX5_workOut_62 rfl (by decide) rfl el4_8 rfl ?_
        refine x_aloadA_n (pc := 65) hC dX5_workOut_65 rfl rfl ht (by decide) ?_
        refine x_gf (pc := 66) (b := (t + 5)) hC fl_X5_31 ft5_6 ht (by decide) (off := 5) (by decide +kernel) rfl dX5_workOut_66 ?_
        refine x_iload (pc := 69) hC dX5_workOut_69 rfl ?_
        refine x_iconst (pc := 71) hC dX5_workOut_71 ?_
        refine x_isub (pc := 72) hC dX5_workOut_72 ?_
        refine x_iload (pc := 73) hC dX5_workOut_73 rfl ?_
        refine x_aloadA_n (pc := 75) hC dX5_workOut_75 rfl rfl ht (by decide) ?_
        refine x_gf (pc := 76) (b := (t + 5)) hC fl_X5_31 ft5_6 ht (by decide) (off := 5) (by decide +kernel) rfl dX5_workOut_76 ?_
        refine x_iload (pc := 79) hC dX5_workOut_79 rfl ?_
        refine x_iconst (pc := 81) hC dX5_workOut_81 ?_
        refine x_isub (pc := 82) hC dX5_workOut_82 ?_
        obtain ⟨hb9, h⟩ := jck_some h
        refine x_iald (pc := 83) hC (ko5_6 ht) (by rw [lo5_6 ht]; exact hb9) dX5_workOut_83 ?_
        refine x_i2l (pc := 84) hC dX5_workOut_84 ?_
        refine x_aloadA_n (pc := 85) hC dX5_workOut_85 rfl rfl ht (by decide) ?_
        refine x_gf (pc := 86) (b := (t + 5)) hC fl_X5_31 ft5_6 ht (by decide) (off := 5) (by decide +kernel) rfl dX5_workOut_86 ?_
        refine x_iload (pc := 89) hC dX5_workOut_89 rfl ?_
        obtain ⟨hb10, h⟩ := jck_some h
        refine x_iald (pc := 91) hC (ko5_6 ht) (by rw [lo5_6 ht]; exact hb10) dX5_workOut_91 ?_
        refine x_i2l (pc := 92) hC dX5_workOut_92 ?_
        obtain ⟨v12, e11, h⟩ := jbR_some h
        refine x_cS (pc := 93) hC ms_X5_55 (ok_X5_joined hn e11) rfl (Nat.le_of_ble_eq_true rfl) (jRo0 C) (Nat.le_of_ble_eq_true rfl) dX5_workOut_93 rfl ?_
        obtain ⟨hb13, h⟩ := jck_some h
        obtain ⟨M14, eM14, h⟩ := jlet_some h
        refine x_iast (pc := 96) hC (ko5_6 ht) (by rw [lo5_6 ht]; exact hb13) dX5_workOut_96 eM14 ?_
        obtain ⟨l5_15, el5_15, h⟩ := jlet_some h
        refine x_iinc (ls2 := [jA t, jI l1, jI l2, jA l3, jI l4_8, jI l5_15, jI l6_7]) (pc := 97) hC dX5_workOut_97 rfl (by decide) rfl el5_15 rfl ?_
        refine x_goto (tgt := 6) (pc := 100) hC dX5_workOut_100 (by decide) ?_
        refine x_kill 6 (ls2 := [jA t, jI l1, jI l2, jA l3, jI l4_8, jI l5_15, jN]) rfl ?_
        exact Hself4 _ _ _ h
      · replace h := jit_neg hc h
        refine x_iconst (pc := 60) hC dX5_workOut_60 ?_
        exact x_iret (pc := 61) hC hR dX5_workOut_61 (jr1 h) (jr2 h)
    · replace h := jit_neg hc h
      refine x_iload (pc := 26) hC dX5_workOut_26 rfl ?_
      refine x_bipush (pc := 28) hC dX5_workOut_28 rfl ?_
      refine x_icmp_lt (tgt := 35) (pc := 30) hC dX5_workOut_30 (by decide) (fun hc => ?_) (fun hc => ?_)
      · replace h := jit_pos hc h
        refine x_aloadA_n (pc := 35) hC dX5_workOut_35 rfl rfl ht (by decide) ?_
        refine x_gf (pc := 36) (b := (t + 5)) hC fl_X5_31 ft5_6 ht (by decide) (off := 5) (by decide +kernel) rfl dX5_workOut_36 ?_
        refine x_iload (pc := 39) hC dX5_workOut_39 rfl ?_
        refine x_iload (pc := 41) hC dX5_workOut_41 rfl ?_
        refine x_aloadA_n (pc := 43) hC dX5_workOut_43 rfl rfl hl3 (by decide) ?_
        obtain ⟨v17, e16, h⟩ := jbR_some h
        refine x_cS (pc := 44) hC ms_X5_51 (ok_X5_valueOf hn hl3 e16) rfl (Nat.le_of_ble_eq_true rfl) (jRo0 C) (Nat.le_of_ble_eq_true rfl) dX5_workOut_44 rfl ?_
        obtain ⟨hb18, h⟩ := jck_some h
        obtain ⟨M19, eM19, h⟩ := jlet_some h
        refine x_iast (pc := 47) hC (ko5_6 ht) (by rw [lo5_6 ht]; exact hb18) dX5_workOut_47 eM19 ?_
        obtain ⟨l4_20, el4_20, h⟩ := jlet_some h
        refine x_iinc (ls2 := [jA t, jI l1, jI l2, jA l3, jI l4_20, jI l5_2, jI l6_7]) (pc := 48) hC dX5_workOut_48 rfl (by decide) rfl el4_20 rfl ?_
        refine x_goto (tgt := 97) (pc := 51) hC dX5_workOut_51 (by decide) ?_
        obtain ⟨l5_21, el5_21, h⟩ := jlet_some h
        refine x_iinc (ls2 := [jA t, jI l1, jI l2, jA l3, jI l4_20, jI l5_21, jI l6_7]) (pc := 97) hC dX5_workOut_97 rfl (by decide) rfl el5_21 rfl ?_
        refine x_goto (tgt := 6) (pc := 100) hC dX5_workOut_100 (by decide) ?_
        refine x_kill 6 (ls2 := [jA t, jI l1, jI l2, jA l3, jI l4_20, jI l5_21, jN]) rfl ?_
        exact Hself4 _ _ _ h
      · replace h := jit_neg hc h
        refine x_iconst (pc := 33) hC dX5_workOut_33 ?_
        exact x_iret (pc := 34) hC hR dX5_workOut_34 (jr1 h) (jr2 h)

set_option maxHeartbeats 4000000 in
set_option maxRecDepth 20000 in
theorem ok_J9_max_7cf53 {X : jX} {n : Nat} (hn : 179 ≤ n) {l0 : Int} {l1 : Int} {M : jM} {rz : Int} (h : f_J9_max_7cf53 l0 l1 = some rz) : jCt X n yJ9_max_7cf53 cJ9_max_7cf53 2 (some .int) 0 [jI l0, jI l1] M (some (jI rz)) M := by
  refine jCt_of (own := RJ9) (ls := [jI l0, jI l1]) (by decide +kernel) rfl hn (Nat.le_of_ble_eq_true rfl) rfl ?_
  intro C hC hR
  unfold f_J9_max_7cf53 at h
  refine x_iload_n (pc := 0) hC dJ9_max_7cf53_0 rfl rfl ?_
  refine x_iload_n (pc := 1) hC dJ9_max_7cf53_1 rfl rfl ?_
  refine x_icmp_lt (tgt := 9) (pc := 2) hC dJ9_max_7cf53_2 (by decide) (fun hc => ?_) (fun hc => ?_)
  · replace h := jit_pos hc h
    refine x_iload_n (pc := 9) hC dJ9_max_7cf53_9 rfl rfl ?_
    exact x_iret (pc := 10) hC hR dJ9_max_7cf53_10 (jrR h) rfl
  · replace h := jit_neg hc h
    refine x_iload_n (pc := 5) hC dJ9_max_7cf53_5 rfl rfl ?_
    refine x_goto (tgt := 10) (pc := 6) hC dJ9_max_7cf53_6 (by decide) ?_
    exact x_iret (pc := 10) hC hR dJ9_max_7cf53_10 (jrR h) rfl

set_option maxHeartbeats 4000000 in
set_option maxRecDepth 20000 in
theorem ok_X5_amount {X : jX} {n : Nat} (hn : 179 ≤ n) {t : Int} {l1 : Int} {l2 : Int} {M : jM} {rz : Int} {Mz : jM} (ht : jkd t = 5) (hl2 : jkd l2 = 12) (h : f_X5_amount t l1 l2 M = some (rz, Mz)) : jCt X n yX5_amount cX5_amount 4 (some .int) 3 [jA t, jI l1, jA l2] M (some (jI rz)) Mz := by
  refine jCt_of (own := RX5) (ls := [jA t, jI l1, jA l2, jN]) (by decide +kernel) rfl hn (Nat.le_of_ble_eq_true rfl) rfl ?_
  intro C hC hR
  unfold f_X5_amount at h
  refine x_aloadA_n (pc := 0) hC dX5_amount_0 rfl rfl ht (by decide) ?_
  refine x_gf (pc := 1) (b := (t + 4)) hC fl_X5_28 ft5_5 ht (by decide) (off := 4) (by decide +kernel) rfl dX5_amount_1 ?_
  refine x_iload_n (pc := 4) hC dX5_amount_4 rfl rfl ?_
  obtain ⟨hb1, h⟩ := jck_some h
  refine x_iald (pc := 5) hC (ko5_5 ht) (by rw [lo5_5 ht]; exact hb1) dX5_amount_5 ?_
  refine x_aloadA_n (pc := 6) hC dX5_amount_6 rfl rfl ht (by decide) ?_
  refine x_gf (pc := 7) (b := (t + 3)) hC fl_X5_25 ft5_4 ht (by decide) (off := 3) (by decide +kernel) rfl dX5_amount_7 ?_
  refine x_iload_n (pc := 10) hC dX5_amount_10 rfl rfl ?_
  obtain ⟨hb2, h⟩ := jck_some h
  refine x_iald (pc := 11) hC (ko5_4 ht) (by rw [lo5_4 ht]; exact hb2) dX5_amount_11 ?_
  obtain ⟨k4, Hk4, h⟩ := jk_some (P := fun k4 => ∀ (s0_3 : Int), k4 s0_3 = some (rz, Mz) → jG C X n 4 0 0 20 [jA t, jI l1, jA l2, jN] [jI s0_3] M) h (by
    intro s0_3 h
    refine x_istore_n (ls2 := [jA t, jI l1, jA l2, jI s0_3]) (pc := 20) hC dX5_amount_20 rfl (by decide) rfl rfl rfl ?_
    refine x_iload_n (pc := 21) hC dX5_amount_21 rfl rfl ?_
    obtain ⟨k6, Hk6, h⟩ := jk_some (P := fun k6 => ∀ (M5 : jM), k6 M5 = some (rz, Mz) → jG C X n 4 0 0 47 [jA t, jI l1, jA l2, jI s0_3] [] M5) h (by
      intro M5 h
      refine x_iconst (pc := 47) hC dX5_amount_47 ?_
      refine x_sipush (pc := 48) hC dX5_amount_48 rfl ?_
      refine x_aloadA_n (pc := 51) hC dX5_amount_51 rfl rfl ht (by decide) ?_
      refine x_aloadA_n (pc := 52) hC dX5_amount_52 rfl rfl ht (by decide) ?_
      refine x_gf (pc := 53) (b := (t + 2)) hC fl_X5_22 ft5_3 ht (by decide) (off := 2) (by decide +kernel) rfl dX5_amount_53 ?_
      refine x_iload_n (pc := 56) hC dX5_amount_56 rfl rfl ?_
      obtain ⟨hb7, h⟩ := jck_some h
      refine x_iald (pc := 57) hC (ko5_3 ht) (by rw [lo5_3 ht]; exact hb7) dX5_amount_57 ?_
      refine x_aloadA_n (pc := 58) hC dX5_amount_58 rfl rfl ht (by decide) ?_
      refine x_gf (pc := 59) (b := (t + 3)) hC fl_X5_25 ft5_4 ht (by decide) (off := 3) (by decide +kernel) rfl dX5_amount_59 ?_
      refine x_iload_n (pc := 62) hC dX5_amount_62 rfl rfl ?_
      obtain ⟨hb8, h⟩ := jck_some h
      refine x_iald (pc := 63) hC (ko5_4 ht) (by rw [lo5_4 ht]; exact hb8) dX5_amount_63 ?_
      refine x_aloadA_n (pc := 64) hC dX5_amount_64 rfl rfl hl2 (by decide) ?_
      obtain ⟨v11, M10, e9, h⟩ := jbW_some h
      refine x_cV (pc := 65) hC mv_X5_38 (ok_X5_workOut hn ht hl2 e9) rfl (Nat.le_of_ble_eq_true rfl) ht rfl (by decide) (jRo0 C) (Nat.le_of_ble_eq_true rfl) dX5_amount_65 rfl ?_
      obtain ⟨v13, e12, h⟩ := jbR_some h
      refine x_cS (pc := 68) hC ms_X5_42 (ok_J9_min_7cf53 hn e12) rfl (Nat.le_of_ble_eq_true rfl) (jRo0 C) (Nat.le_of_ble_eq_true rfl) dX5_amount_68 rfl ?_
      obtain ⟨v15, e14, h⟩ := jbR_some h
      refine x_cS (pc := 71) hC ms_X5_48 (ok_J9_max_7cf53 hn e14) rfl (Nat.le_of_ble_eq_true rfl) (jRo0 C) (Nat.le_of_ble_eq_true rfl) dX5_amount_71 rfl ?_
      exact x_iret (pc := 74) hC hR dX5_amount_74 (jr1 h) (jr2 h))
    refine x_if_eq (tgt := 47) (pc := 22) hC dX5_amount_22 (by decide) (fun hc => ?_) (fun hc => ?_)
    · replace h := jit_pos hc h
      exact Hk6 _ h
    · replace h := jit_neg hc h
      refine x_aloadA_n (pc := 25) hC dX5_amount_25 rfl rfl ht (by decide) ?_
      refine x_aloadA_n (pc := 26) hC dX5_amount_26 rfl rfl ht (by decide) ?_
      refine x_gf (pc := 27) (b := (t + 3)) hC fl_X5_25 ft5_4 ht (by decide) (off := 3) (by decide +kernel) rfl dX5_amount_27 ?_
      refine x_iload_n (pc := 30) hC dX5_amount_30 rfl rfl ?_
      obtain ⟨hb16, h⟩ := jck_some h
      refine x_iald (pc := 31) hC (ko5_4 ht) (by rw [lo5_4 ht]; exact hb16) dX5_amount_31 ?_
      refine x_aloadA_n (pc := 32) hC dX5_amount_32 rfl rfl ht (by decide) ?_
      refine x_gf (pc := 33) (b := (t + 4)) hC fl_X5_28 ft5_5 ht (by decide) (off := 4) (by decide +kernel) rfl dX5_amount_33 ?_
      refine x_iload_n (pc := 36) hC dX5_amount_36 rfl rfl ?_
      obtain ⟨hb17, h⟩ := jck_some h
      refine x_iald (pc := 37) hC (ko5_5 ht) (by rw [lo5_5 ht]; exact hb17) dX5_amount_37 ?_
      refine x_aloadA_n (pc := 38) hC dX5_amount_38 rfl rfl hl2 (by decide) ?_
      obtain ⟨v20, M19, e18, h⟩ := jbW_some h
      refine x_cV (pc := 39) hC mv_X5_38 (ok_X5_workOut hn ht hl2 e18) rfl (Nat.le_of_ble_eq_true rfl) ht rfl (by decide) (jRo0 C) (Nat.le_of_ble_eq_true rfl) dX5_amount_39 rfl ?_
      refine x_if_ne (tgt := 47) (pc := 42) hC dX5_amount_42 (by decide) (fun hc => ?_) (fun hc => ?_)
      · replace h := jit_neg hc h
        exact Hk6 _ h
      · replace h := jit_pos hc h
        refine x_iconst (pc := 45) hC dX5_amount_45 ?_
        exact x_iret (pc := 46) hC hR dX5_amount_46 (jr1 h) (jr2 h))
  refine x_icmp_le (tgt := 19) (pc := 12) hC dX5_amount_12 (by decide) (fun hc => ?_) (fun hc => ?_)
  · replace h := jit_pos hc h
    refine x_iconst (pc := 19) hC dX5_amount_19 ?_
    exact Hk4 _ h
  · replace h := jit_neg hc h
    refine x_iconst (pc := 15) hC dX5_amount_15 ?_
    refine x_goto (tgt := 20) (pc := 16) hC dX5_amount_16 (by decide) ?_
    exact Hk4 _ h

set_option maxHeartbeats 4000000 in
set_option maxRecDepth 20000 in
theorem ok_X6_left {X : jX} {n : Nat} (hn : 179 ≤ n) {t : Int} {M : jM} {rz : Int} (ht : jkd t = 6) (h : f_X6_left t M = some rz) : jCt X n yX6_left cX6_left 1 (some .int) 1 [jA t] M (some (jI rz)) M := by
  refine jCt_of (own := RX6) (ls := [jA t]) (by decide +kernel) rfl hn (Nat.le_of_ble_eq_true rfl) rfl ?_
  intro C hC hR
  unfold f_X6_left at h
  refine x_aloadA_n (pc := 0) hC dX6_left_0 rfl rfl ht (by decide) ?_
  refine x_gi (pc := 1) (ji := 0) hC fl_X6_9 rfl fn6_0 ht dX6_left_1 ?_
  refine x_aloadA_n (pc := 4) hC dX6_left_4 rfl rfl ht (by decide) ?_
  refine x_gi (pc := 5) (ji := 1) hC fl_X6_15 rfl fn6_1 ht dX6_left_5 ?_
  obtain ⟨v2, e1, h⟩ := jbR_some h
  refine x_cS (pc := 8) hC ms_X6_43 (ok_J6_bitCount_0f7a4 hn e1) rfl (Nat.le_of_ble_eq_true rfl) (jRo0 C) (Nat.le_of_ble_eq_true rfl) dX6_left_8 rfl ?_
  refine x_isub (pc := 11) hC dX6_left_11 ?_
  exact x_iret (pc := 12) hC hR dX6_left_12 (jrR h) rfl

set_option maxHeartbeats 4000000 in
set_option maxRecDepth 20000 in
theorem ok_X6_last {X : jX} {n : Nat} (hn : 179 ≤ n) {t : Int} {M : jM} {rz : Int} (ht : jkd t = 6) (h : f_X6_last t M = some rz) : jCt X n yX6_last cX6_last 2 (some .int) 1 [jA t] M (some (jI rz)) M := by
  refine jCt_of (own := RX6) (ls := [jA t, jN]) (by decide +kernel) rfl hn (Nat.le_of_ble_eq_true rfl) rfl ?_
  intro C hC hR
  unfold f_X6_last at h
  refine x_aloadA_n (pc := 0) hC dX6_last_0 rfl rfl ht (by decide) ?_
  refine x_gi (pc := 1) (ji := 0) hC fl_X6_9 rfl fn6_0 ht dX6_last_1 ?_
  refine x_iconst (pc := 4) hC dX6_last_4 ?_
  refine x_isub (pc := 5) hC dX6_last_5 ?_
  obtain ⟨l1_1, el1_1, h⟩ := jlet_some h
  refine x_istore_n (ls2 := [jA t, jI l1_1]) (pc := 6) hC dX6_last_6 rfl (by decide) rfl el1_1 rfl ?_
  refine jlp1_ind (P := fun (l1_2 : Int) => jG C X n 2 0 0 7 [jA t, jI l1_2] [] M) ?_ _ _ h
  intro self3 l1_2 Hself3 h
  refine x_iload_n (pc := 7) hC dX6_last_7 rfl rfl ?_
  refine x_if_lt (tgt := 27) (pc := 8) hC dX6_last_8 (by decide) (fun hc => ?_) (fun hc => ?_)
  · replace h := jit_pos hc h
    refine x_iconst (pc := 27) hC dX6_last_27 ?_
    exact x_iret (pc := 28) hC hR dX6_last_28 (jrR h) rfl
  · replace h := jit_neg hc h
    refine x_aloadA_n (pc := 11) hC dX6_last_11 rfl rfl ht (by decide) ?_
    refine x_iload_n (pc := 12) hC dX6_last_12 rfl rfl ?_
    obtain ⟨v5, e4, h⟩ := jbR_some h
    refine x_cV (pc := 13) hC mv_X6_49 (ok_X6_has hn ht e4) rfl (Nat.le_of_ble_eq_true rfl) ht rfl (by decide) (jRo0 C) (Nat.le_of_ble_eq_true rfl) dX6_last_13 rfl ?_
    refine x_if_eq (tgt := 21) (pc := 16) hC dX6_last_16 (by decide) (fun hc => ?_) (fun hc => ?_)
    · replace h := jit_pos hc h
      obtain ⟨l1_6, el1_6, h⟩ := jlet_some h
      refine x_iinc (ls2 := [jA t, jI l1_6]) (pc := 21) hC dX6_last_21 rfl (by decide) rfl el1_6 rfl ?_
      refine x_goto (tgt := 7) (pc := 24) hC dX6_last_24 (by decide) ?_
      exact Hself3 _ h
    · replace h := jit_neg hc h
      refine x_iload_n (pc := 19) hC dX6_last_19 rfl rfl ?_
      exact x_iret (pc := 20) hC hR dX6_last_20 (jrR h) rfl

set_option maxHeartbeats 4000000 in
set_option maxRecDepth 20000 in
theorem ok_X6_elementAt {X : jX} {n : Nat} (hn : 179 ≤ n) {t : Int} {l1 : Int} {l2 : Int} {M : jM} {rz : Int} (ht : jkd t = 6) (h : f_X6_elementAt t l1 l2 M = some rz) : jCt X n yX6_elementAt cX6_elementAt 3 (some .int) 0 [jA t, jI l1, jI l2] M (some (jI rz)) M := by
  refine jCt_of (own := RX6) (ls := [jA t, jI l1, jI l2]) (by decide +kernel) rfl hn (Nat.le_of_ble_eq_true rfl) rfl ?_
  intro C hC hR
  unfold f_X6_elementAt at h
  refine x_iload_n (pc := 0) hC dX6_elementAt_0 rfl rfl ?_
  refine x_aloadA_n (pc := 1) hC dX6_elementAt_1 rfl rfl ht (by decide) ?_
  refine x_gf (pc := 2) (b := (t + 2)) hC fl_X6_25 ft6_4 ht (by decide) (off := 2) (by decide +kernel) rfl dX6_elementAt_2 ?_
  refine x_iload_n (pc := 5) hC dX6_elementAt_5 rfl rfl ?_
  obtain ⟨hb1, h⟩ := jck_some h
  refine x_iald (pc := 6) hC (ko6_4 ht) (by rw [lo6_4 ht]; exact hb1) dX6_elementAt_6 ?_
  refine x_icmp_ge (tgt := 23) (pc := 7) hC dX6_elementAt_7 (by decide) (fun hc => ?_) (fun hc => ?_)
  · replace h := jit_pos hc h
    refine x_iconst (pc := 23) hC dX6_elementAt_23 ?_
    exact x_iret (pc := 24) hC hR dX6_elementAt_24 (jrR h) rfl
  · replace h := jit_neg hc h
    refine x_aloadA_n (pc := 10) hC dX6_elementAt_10 rfl rfl ht (by decide) ?_
    refine x_gf (pc := 11) (b := (t + 3)) hC fl_X6_28 ft6_5 ht (by decide) (off := 3) (by decide +kernel) rfl dX6_elementAt_11 ?_
    refine x_iload_n (pc := 14) hC dX6_elementAt_14 rfl rfl ?_
    refine x_iconst (pc := 15) hC dX6_elementAt_15 ?_
    refine x_imul (pc := 16) hC dX6_elementAt_16 ?_
    refine x_iload_n (pc := 17) hC dX6_elementAt_17 rfl rfl ?_
    refine x_iadd (pc := 18) hC dX6_elementAt_18 ?_
    obtain ⟨hb2, h⟩ := jck_some h
    refine x_iald (pc := 19) hC (ko6_5 ht) (by rw [lo6_5 ht]; exact hb2) dX6_elementAt_19 ?_
    refine x_goto (tgt := 24) (pc := 20) hC dX6_elementAt_20 (by decide) ?_
    exact x_iret (pc := 24) hC hR dX6_elementAt_24 (jrR h) rfl

set_option maxHeartbeats 4000000 in
set_option maxRecDepth 20000 in
theorem ok_X9_voteOfGrade {X : jX} {n : Nat} (hn : 179 ≤ n) {l0 : Int} {l1 : Int} {M : jM} {rz : Int} (h : f_X9_voteOfGrade l0 l1 = some rz) : jCt X n yX9_voteOfGrade cX9_voteOfGrade 2 (some .int) 0 [jI l0, jI l1] M (some (jI rz)) M := by
  refine jCt_of (own := RX9) (ls := [jI l0, jI l1]) (by decide +kernel) rfl hn (Nat.le_of_ble_eq_true rfl) rfl ?_
  intro C hC hR
  unfold f_X9_voteOfGrade at h
  refine x_iload_n (pc := 0) hC dX9_voteOfGrade_0 rfl rfl ?_
  refine x_bipush (pc := 1) hC dX9_voteOfGrade_1 rfl ?_
  refine x_imul (pc := 3) hC dX9_voteOfGrade_3 ?_
  refine x_iload_n (pc := 4) hC dX9_voteOfGrade_4 rfl rfl ?_
  refine x_iadd (pc := 5) hC dX9_voteOfGrade_5 ?_
  exact x_iret (pc := 6) hC hR dX9_voteOfGrade_6 (jrR h) rfl

set_option maxHeartbeats 4000000 in
set_option maxRecDepth 20000 in
theorem ok_X6_spanOf {X : jX} {n : Nat} (hn : 179 ≤ n) {t : Int} {l1 : Int} {l2 : Int} {M : jM} {rz : Int} (ht : jkd t = 6) (h : f_X6_spanOf t l1 l2 M = some rz) : jCt X n yX6_spanOf cX6_spanOf 7 (some .int) 1 [jA t, jI l1, jI l2] M (some (jI rz)) M := by
  refine jCt_of (own := RX6) (ls := [jA t, jI l1, jI l2, jN, jN, jN, jN]) (by decide +kernel) rfl hn (Nat.le_of_ble_eq_true rfl) rfl ?_
  intro C hC hR
  unfold f_X6_spanOf at h
  refine x_iconst (pc := 0) hC dX6_spanOf_0 ?_
  refine x_istore_n (ls2 := [jA t, jI l1, jI l2, jI 5, jN, jN, jN]) (pc := 1) hC dX6_spanOf_1 rfl (by decide) rfl rfl rfl ?_
  refine x_bipush (pc := 2) hC dX6_spanOf_2 rfl ?_
  refine x_istore (ls2 := [jA t, jI l1, jI l2, jI 5, jI (-5), jN, jN]) (pc := 4) hC dX6_spanOf_4 (by decide) rfl rfl rfl ?_
  refine x_iconst (pc := 6) hC dX6_spanOf_6 ?_
  refine x_istore (ls2 := [jA t, jI l1, jI l2, jI 5, jI (-5), jI 0, jN]) (pc := 7) hC dX6_spanOf_7 (by decide) rfl rfl rfl ?_
  refine jlp3_ind (P := fun (l3_1 : Int) (l4_2 : Int) (l5_3 : Int) => jG C X n 7 0 0 9 [jA t, jI l1, jI l2, jI l3_1, jI l4_2, jI l5_3, jN] [] M) ?_ _ _ _ _ h
  intro self4 l3_1 l4_2 l5_3 Hself4 h
  refine x_iload (pc := 9) hC dX6_spanOf_9 rfl ?_
  refine x_iload_n (pc := 11) hC dX6_spanOf_11 rfl rfl ?_
  refine x_icmp_ge (tgt := 50) (pc := 12) hC dX6_spanOf_12 (by decide) (fun hc => ?_) (fun hc => ?_)
  · replace h := jit_pos hc h
    refine x_iload (pc := 50) hC dX6_spanOf_50 rfl ?_
    refine x_iload_n (pc := 52) hC dX6_spanOf_52 rfl rfl ?_
    refine x_isub (pc := 53) hC dX6_spanOf_53 ?_
    exact x_iret (pc := 54) hC hR dX6_spanOf_54 (jrR h) rfl
  · replace h := jit_neg hc h
    refine x_aloadA_n (pc := 15) hC dX6_spanOf_15 rfl rfl ht (by decide) ?_
    refine x_gf (pc := 16) (b := (t + 5)) hC fl_X6_34 ft6_7 ht (by decide) (off := 5) (by decide +kernel) rfl dX6_spanOf_16 ?_
    refine x_iload_n (pc := 19) hC dX6_spanOf_19 rfl rfl ?_
    refine x_iload (pc := 20) hC dX6_spanOf_20 rfl ?_
    obtain ⟨v6, e5, h⟩ := jbR_some h
    refine x_cS (pc := 22) hC ms_X6_57 (ok_X9_voteOfGrade hn e5) rfl (Nat.le_of_ble_eq_true rfl) (jRo0 C) (Nat.le_of_ble_eq_true rfl) dX6_spanOf_22 rfl ?_
    obtain ⟨hb7, h⟩ := jck_some h
    refine x_iald (pc := 25) hC (ko6_7 ht) (by rw [lo6_7 ht]; exact hb7) dX6_spanOf_25 ?_
    obtain ⟨l6_8, el6_8, h⟩ := jlet_some h
    refine x_istore (ls2 := [jA t, jI l1, jI l2, jI l3_1, jI l4_2, jI l5_3, jI l6_8]) (pc := 26) hC dX6_spanOf_26 (by decide) rfl el6_8 rfl ?_
    refine x_iload_n (pc := 28) hC dX6_spanOf_28 rfl rfl ?_
    refine x_iload (pc := 29) hC dX6_spanOf_29 rfl ?_
    obtain ⟨v10, e9, h⟩ := jbR_some h
    refine x_cS (pc := 31) hC ms_X6_60 (ok_J9_min_7cf53 hn e9) rfl (Nat.le_of_ble_eq_true rfl) (jRo0 C) (Nat.le_of_ble_eq_true rfl) dX6_spanOf_31 rfl ?_
    refine x_istore_n (ls2 := [jA t, jI l1, jI l2, jI v10, jI l4_2, jI l5_3, jI l6_8]) (pc := 34) hC dX6_spanOf_34 rfl (by decide) rfl rfl rfl ?_
    refine x_iload (pc := 35) hC dX6_spanOf_35 rfl ?_
    refine x_iload (pc := 37) hC dX6_spanOf_37 rfl ?_
    obtain ⟨v12, e11, h⟩ := jbR_some h
    refine x_cS (pc := 39) hC ms_X6_65 (ok_J9_max_7cf53 hn e11) rfl (Nat.le_of_ble_eq_true rfl) (jRo0 C) (Nat.le_of_ble_eq_true rfl) dX6_spanOf_39 rfl ?_
    refine x_istore (ls2 := [jA t, jI l1, jI l2, jI v10, jI v12, jI l5_3, jI l6_8]) (pc := 42) hC dX6_spanOf_42 (by decide) rfl rfl rfl ?_
    obtain ⟨l5_13, el5_13, h⟩ := jlet_some h
    refine x_iinc (ls2 := [jA t, jI l1, jI l2, jI v10, jI v12, jI l5_13, jI l6_8]) (pc := 44) hC dX6_spanOf_44 rfl (by decide) rfl el5_13 rfl ?_
    refine x_goto (tgt := 9) (pc := 47) hC dX6_spanOf_47 (by decide) ?_
    refine x_kill 6 (ls2 := [jA t, jI l1, jI l2, jI v10, jI v12, jI l5_13, jN]) rfl ?_
    exact Hself4 _ _ _ h

set_option maxHeartbeats 4000000 in
set_option maxRecDepth 20000 in
theorem ok_X6_widest {X : jX} {n : Nat} (hn : 179 ≤ n) {t : Int} {l1 : Int} {M : jM} {rz : Int} (ht : jkd t = 6) (h : f_X6_widest t l1 M = some rz) : jCt X n yX6_widest cX6_widest 6 (some .int) 2 [jA t, jI l1] M (some (jI rz)) M := by
  refine jCt_of (own := RX6) (ls := [jA t, jI l1, jN, jN, jN, jN]) (by decide +kernel) rfl hn (Nat.le_of_ble_eq_true rfl) rfl ?_
  intro C hC hR
  unfold f_X6_widest at h
  refine x_iconst (pc := 0) hC dX6_widest_0 ?_
  refine x_istore_n (ls2 := [jA t, jI l1, jI (-1), jN, jN, jN]) (pc := 1) hC dX6_widest_1 rfl (by decide) rfl rfl rfl ?_
  refine x_iconst (pc := 2) hC dX6_widest_2 ?_
  refine x_istore_n (ls2 := [jA t, jI l1, jI (-1), jI (-1), jN, jN]) (pc := 3) hC dX6_widest_3 rfl (by decide) rfl rfl rfl ?_
  refine x_iconst (pc := 4) hC dX6_widest_4 ?_
  refine x_istore (ls2 := [jA t, jI l1, jI (-1), jI (-1), jI 0, jN]) (pc := 5) hC dX6_widest_5 (by decide) rfl rfl rfl ?_
  refine jlp3_ind (P := fun (l2_1 : Int) (l3_2 : Int) (l4_3 : Int) => jG C X n 6 0 0 7 [jA t, jI l1, jI l2_1, jI l3_2, jI l4_3, jN] [] M) ?_ _ _ _ _ h
  intro self4 l2_1 l3_2 l4_3 Hself4 h
  refine x_iload (pc := 7) hC dX6_widest_7 rfl ?_
  refine x_aloadA_n (pc := 9) hC dX6_widest_9 rfl rfl ht (by decide) ?_
  refine x_gi (pc := 10) (ji := 0) hC fl_X6_9 rfl fn6_0 ht dX6_widest_10 ?_
  refine x_icmp_ge (tgt := 56) (pc := 13) hC dX6_widest_13 (by decide) (fun hc => ?_) (fun hc => ?_)
  · replace h := jit_pos hc h
    refine x_iload_n (pc := 56) hC dX6_widest_56 rfl rfl ?_
    exact x_iret (pc := 57) hC hR dX6_widest_57 (jrR h) rfl
  · replace h := jit_neg hc h
    refine x_aloadA_n (pc := 16) hC dX6_widest_16 rfl rfl ht (by decide) ?_
    refine x_iload (pc := 17) hC dX6_widest_17 rfl ?_
    obtain ⟨v6, e5, h⟩ := jbR_some h
    refine x_cV (pc := 19) hC mv_X6_49 (ok_X6_has hn ht e5) rfl (Nat.le_of_ble_eq_true rfl) ht rfl (by decide) (jRo0 C) (Nat.le_of_ble_eq_true rfl) dX6_widest_19 rfl ?_
    obtain ⟨k8, Hk8, h⟩ := jk_some (P := fun k8 => ∀ (s0_7 : Int), k8 s0_7 = some rz → jG C X n 6 0 0 36 [jA t, jI l1, jI l2_1, jI l3_2, jI l4_3, jN] [jI s0_7] M) h (by
      intro s0_7 h
      refine x_istore (ls2 := [jA t, jI l1, jI l2_1, jI l3_2, jI l4_3, jI s0_7]) (pc := 36) hC dX6_widest_36 (by decide) rfl rfl rfl ?_
      refine x_iload (pc := 38) hC dX6_widest_38 rfl ?_
      refine x_iload_n (pc := 40) hC dX6_widest_40 rfl rfl ?_
      refine x_icmp_le (tgt := 50) (pc := 41) hC dX6_widest_41 (by decide) (fun hc => ?_) (fun hc => ?_)
      · replace h := jit_pos hc h
        obtain ⟨l4_9, el4_9, h⟩ := jlet_some h
        refine x_iinc (ls2 := [jA t, jI l1, jI l2_1, jI l3_2, jI l4_9, jI s0_7]) (pc := 50) hC dX6_widest_50 rfl (by decide) rfl el4_9 rfl ?_
        refine x_goto (tgt := 7) (pc := 53) hC dX6_widest_53 (by decide) ?_
        refine x_kill 5 (ls2 := [jA t, jI l1, jI l2_1, jI l3_2, jI l4_9, jN]) rfl ?_
        exact Hself4 _ _ _ h
      · replace h := jit_neg hc h
        refine x_iload (pc := 44) hC dX6_widest_44 rfl ?_
        refine x_istore_n (ls2 := [jA t, jI l1, jI l2_1, jI s0_7, jI l4_3, jI s0_7]) (pc := 46) hC dX6_widest_46 rfl (by decide) rfl rfl rfl ?_
        refine x_iload (pc := 47) hC dX6_widest_47 rfl ?_
        refine x_istore_n (ls2 := [jA t, jI l1, jI l4_3, jI s0_7, jI l4_3, jI s0_7]) (pc := 49) hC dX6_widest_49 rfl (by decide) rfl rfl rfl ?_
        obtain ⟨l4_10, el4_10, h⟩ := jlet_some h
        refine x_iinc (ls2 := [jA t, jI l1, jI l4_3, jI s0_7, jI l4_10, jI s0_7]) (pc := 50) hC dX6_widest_50 rfl (by decide) rfl el4_10 rfl ?_
        refine x_goto (tgt := 7) (pc := 53) hC dX6_widest_53 (by decide) ?_
        refine x_kill 5 (ls2 := [jA t, jI l1, jI l4_3, jI s0_7, jI l4_10, jN]) rfl ?_
        exact Hself4 _ _ _ h)
    refine x_if_eq (tgt := 35) (pc := 22) hC dX6_widest_22 (by decide) (fun hc => ?_) (fun hc => ?_)
    · replace h := jit_pos hc h
      refine x_iconst (pc := 35) hC dX6_widest_35 ?_
      exact Hk8 _ h
    · replace h := jit_neg hc h
      refine x_aloadA_n (pc := 25) hC dX6_widest_25 rfl rfl ht (by decide) ?_
      refine x_iload (pc := 26) hC dX6_widest_26 rfl ?_
      refine x_iload_n (pc := 28) hC dX6_widest_28 rfl rfl ?_
      obtain ⟨v12, e11, h⟩ := jbR_some h
      refine x_cV (pc := 29) hC mv_X6_53 (ok_X6_spanOf hn ht e11) rfl (Nat.le_of_ble_eq_true rfl) ht rfl (by decide) (jRo0 C) (Nat.le_of_ble_eq_true rfl) dX6_widest_29 rfl ?_
      refine x_goto (tgt := 36) (pc := 32) hC dX6_widest_32 (by decide) ?_
      exact Hk8 _ h

set_option maxHeartbeats 4000000 in
set_option maxRecDepth 20000 in
theorem ok_X7_skaters {X : jX} {n : Nat} (hn : 179 ≤ n) {M : jM} {rz : Int} (h : f_X7_skaters M = some rz) : jCt X n yX7_skaters cX7_skaters 1 (some .int) 0 [jA 110] M (some (jI rz)) M := by
  refine jCt_of (own := RX7) (ls := [jA 110]) (by decide +kernel) rfl hn (Nat.le_of_ble_eq_true rfl) rfl ?_
  intro C hC hR
  unfold f_X7_skaters at h
  refine x_aloadA_n (pc := 0) hC dX7_skaters_0 rfl rfl k_110 (by decide) ?_
  obtain ⟨hk1, h⟩ := jck_some h
  refine x_gr (pc := 1) (ji := 0) hC fl_X7_33 rfl ft7_0 k_110 dX7_skaters_1 ?_
  refine x_gf (pc := 4) (b := ((M 110 0) + 13)) hC fl_X7_40 ft1_6 hk1 (by decide) (off := 13) (by decide +kernel) rfl dX7_skaters_4 ?_
  refine x_gi (pc := 7) (ji := 3) hC fl_X7_46 rfl fn2_3 (ko1_6 hk1) dX7_skaters_7 ?_
  exact x_iret (pc := 10) hC hR dX7_skaters_10 (jrR h) rfl

set_option maxHeartbeats 4000000 in
set_option maxRecDepth 20000 in
theorem ok_X8_unstruckBases {X : jX} {n : Nat} (hn : 179 ≤ n) {t : Int} {l1 : Int} {M : jM} {rz : Int} {Mz : jM} (ht : jkd t = 8) (h : f_X8_unstruckBases t l1 M = some (rz, Mz)) : jCt X n yX8_unstruckBases cX8_unstruckBases 7 (some .int) 1 [jA t, jI l1] M (some (jI rz)) Mz := by
  refine jCt_of (own := RX8) (ls := [jA t, jI l1, jN, jN, jN, jN, jN]) (by decide +kernel) rfl hn (Nat.le_of_ble_eq_true rfl) rfl ?_
  intro C hC hR
  unfold f_X8_unstruckBases at h
  refine x_iconst (pc := 0) hC dX8_unstruckBases_0 ?_
  refine x_istore_n (ls2 := [jA t, jI l1, jI 0, jN, jN, jN, jN]) (pc := 1) hC dX8_unstruckBases_1 rfl (by decide) rfl rfl rfl ?_
  refine x_aloadA_n (pc := 2) hC dX8_unstruckBases_2 rfl rfl ht (by decide) ?_
  refine x_gf (pc := 3) (b := (t + 3)) hC fl_X8_40 ft8_11 ht (by decide) (off := 3) (by decide +kernel) rfl dX8_unstruckBases_3 ?_
  refine x_iload_n (pc := 6) hC dX8_unstruckBases_6 rfl rfl ?_
  refine x_iconst (pc := 7) hC dX8_unstruckBases_7 ?_
  obtain ⟨hb1, h⟩ := jck_some h
  obtain ⟨M2, eM2, h⟩ := jlet_some h
  refine x_iast (pc := 8) hC (ko8_11 ht) (by rw [lo8_11 ht]; exact hb1) dX8_unstruckBases_8 eM2 ?_
  refine x_aloadA_n (pc := 9) hC dX8_unstruckBases_9 rfl rfl ht (by decide) ?_
  refine x_gf (pc := 10) (b := (t + 1)) hC fl_X8_33 ft8_9 ht (by decide) (off := 1) (by decide +kernel) rfl dX8_unstruckBases_10 ?_
  refine x_iload_n (pc := 13) hC dX8_unstruckBases_13 rfl rfl ?_
  refine x_iconst (pc := 14) hC dX8_unstruckBases_14 ?_
  obtain ⟨hb3, h⟩ := jck_some h
  obtain ⟨M4, eM4, h⟩ := jlet_some h
  refine x_iast (pc := 15) hC (ko8_9 ht) (by rw [lo8_9 ht]; exact hb3) dX8_unstruckBases_15 eM4 ?_
  refine x_iconst (pc := 16) hC dX8_unstruckBases_16 ?_
  refine x_istore_n (ls2 := [jA t, jI l1, jI 0, jI 0, jN, jN, jN]) (pc := 17) hC dX8_unstruckBases_17 rfl (by decide) rfl rfl rfl ?_
  refine jlp3_ind (P := fun (l2_5 : Int) (l3_6 : Int) (M7 : jM) => jG C X n 7 0 0 18 [jA t, jI l1, jI l2_5, jI l3_6, jN, jN, jN] [] M7) ?_ _ _ _ _ h
  intro self8 l2_5 l3_6 M7 Hself8 h
  refine x_iload_n (pc := 18) hC dX8_unstruckBases_18 rfl rfl ?_
  refine x_aloadA_n (pc := 19) hC dX8_unstruckBases_19 rfl rfl ht (by decide) ?_
  obtain ⟨hk9, h⟩ := jck_some h
  refine x_gr (pc := 20) (ji := 1) hC fl_X8_64 rfl ft8_1 ht dX8_unstruckBases_20 ?_
  refine x_gf (pc := 23) (b := ((M7 t 1) + 2)) hC fl_X8_131 ft6_4 hk9 (by decide) (off := 2) (by decide +kernel) rfl dX8_unstruckBases_23 ?_
  refine x_iload_n (pc := 26) hC dX8_unstruckBases_26 rfl rfl ?_
  obtain ⟨hb10, h⟩ := jck_some h
  refine x_iald (pc := 27) hC (ko6_4 hk9) (by rw [lo6_4 hk9]; exact hb10) dX8_unstruckBases_27 ?_
  refine x_icmp_ge (tgt := 184) (pc := 28) hC dX8_unstruckBases_28 (by decide) (fun hc => ?_) (fun hc => ?_)
  · replace h := jit_pos hc h
    refine x_iload_n (pc := 184) hC dX8_unstruckBases_184 rfl rfl ?_
    exact x_iret (pc := 185) hC hR dX8_unstruckBases_185 (jr1 h) (jr2 h)
  · replace h := jit_neg hc h
    refine x_aloadA_n (pc := 31) hC dX8_unstruckBases_31 rfl rfl ht (by decide) ?_
    refine x_gr (pc := 32) (ji := 1) hC fl_X8_64 rfl ft8_1 ht dX8_unstruckBases_32 ?_
    refine x_gf (pc := 35) (b := ((M7 t 1) + 3)) hC fl_X8_134 ft6_5 hk9 (by decide) (off := 3) (by decide +kernel) rfl dX8_unstruckBases_35 ?_
    refine x_iload_n (pc := 38) hC dX8_unstruckBases_38 rfl rfl ?_
    refine x_iconst (pc := 39) hC dX8_unstruckBases_39 ?_
    refine x_imul (pc := 40) hC dX8_unstruckBases_40 ?_
    refine x_iload_n (pc := 41) hC dX8_unstruckBases_41 rfl rfl ?_
    refine x_iadd (pc := 42) hC dX8_unstruckBases_42 ?_
    obtain ⟨hb11, h⟩ := jck_some h
    refine x_iald (pc := 43) hC (ko6_5 hk9) (by rw [lo6_5 hk9]; exact hb11) dX8_unstruckBases_43 ?_
    obtain ⟨l4_12, el4_12, h⟩ := jlet_some h
    refine x_istore (ls2 := [jA t, jI l1, jI l2_5, jI l3_6, jI l4_12, jN, jN]) (pc := 44) hC dX8_unstruckBases_44 (by decide) rfl el4_12 rfl ?_
    refine x_aloadA_n (pc := 46) hC dX8_unstruckBases_46 rfl rfl ht (by decide) ?_
    obtain ⟨hk13, h⟩ := jck_some h
    refine x_gr (pc := 47) (ji := 0) hC fl_X8_54 rfl ft8_0 ht dX8_unstruckBases_47 ?_
    refine x_gf (pc := 50) (b := ((M7 t 0) + 6)) hC fl_X8_137 ft1_4 hk13 (by decide) (off := 6) (by decide +kernel) rfl dX8_unstruckBases_50 ?_
    refine x_iload (pc := 53) hC dX8_unstruckBases_53 rfl ?_
    obtain ⟨hb14, h⟩ := jck_some h
    refine x_iald (pc := 55) hC (ko1_4 hk13) (by rw [lo1_4 hk13]; exact hb14) dX8_unstruckBases_55 ?_
    obtain ⟨l5_15, el5_15, h⟩ := jlet_some h
    refine x_istore (ls2 := [jA t, jI l1, jI l2_5, jI l3_6, jI l4_12, jI l5_15, jN]) (pc := 56) hC dX8_unstruckBases_56 (by decide) rfl el5_15 rfl ?_
    refine x_iload (pc := 58) hC dX8_unstruckBases_58 rfl ?_
    obtain ⟨k17, Hk17, h⟩ := jk_some (P := fun k17 => ∀ (s0_16 : Int), k17 s0_16 = some (rz, Mz) → jG C X n 7 0 0 76 [jA t, jI l1, jI l2_5, jI l3_6, jI l4_12, jI l5_15, jN] [jI s0_16] M7) h (by
      intro s0_16 h
      refine x_istore (ls2 := [jA t, jI l1, jI l2_5, jI l3_6, jI l4_12, jI l5_15, jI s0_16]) (pc := 76) hC dX8_unstruckBases_76 (by decide) rfl rfl rfl ?_
      refine x_aloadA_n (pc := 78) hC dX8_unstruckBases_78 rfl rfl ht (by decide) ?_
      refine x_gf (pc := 79) (b := (t + 4)) hC fl_X8_45 ft8_12 ht (by decide) (off := 4) (by decide +kernel) rfl dX8_unstruckBases_79 ?_
      refine x_iconst (pc := 82) hC dX8_unstruckBases_82 ?_
      refine x_iload (pc := 83) hC dX8_unstruckBases_83 rfl ?_
      refine x_iadd (pc := 85) hC dX8_unstruckBases_85 ?_
      refine x_dup2 (pc := 86) hC dX8_unstruckBases_86 (show (1 : Nat) ≠ 3 by decide) (show (2 : Nat) ≠ 3 by decide) ?_
      obtain ⟨hb18, h⟩ := jck_some h
      refine x_iald (pc := 87) hC (ko8_12 ht) (by rw [lo8_12 ht]; exact hb18) dX8_unstruckBases_87 ?_
      refine x_iconst (pc := 88) hC dX8_unstruckBases_88 ?_
      refine x_iadd (pc := 89) hC dX8_unstruckBases_89 ?_
      obtain ⟨hb19, h⟩ := jck_some h
      obtain ⟨M20, eM20, h⟩ := jlet_some h
      refine x_iast (pc := 90) hC (ko8_12 ht) (by rw [lo8_12 ht]; exact hb19) dX8_unstruckBases_90 eM20 ?_
      refine x_aloadA_n (pc := 91) hC dX8_unstruckBases_91 rfl rfl ht (by decide) ?_
      refine x_gf (pc := 92) (b := (t + 5)) hC fl_X8_48 ft8_13 ht (by decide) (off := 5) (by decide +kernel) rfl dX8_unstruckBases_92 ?_
      refine x_iload (pc := 95) hC dX8_unstruckBases_95 rfl ?_
      obtain ⟨hb21, h⟩ := jck_some h
      refine x_iald (pc := 97) hC (ko8_13 ht) (by rw [lo8_13 ht]; exact hb21) dX8_unstruckBases_97 ?_
      refine x_iload (pc := 98) hC dX8_unstruckBases_98 rfl ?_
      obtain ⟨k24, Hk24, h⟩ := jk_some (P := fun k24 => ∀ (l2_22 : Int) (M23 : jM), k24 l2_22 M23 = some (rz, Mz) → jG C X n 7 0 0 167 [jA t, jI l1, jI l2_22, jI l3_6, jI l4_12, jI l5_15, jI s0_16] [] M23) h (by
        intro l2_22 M23 h
        refine x_aloadA_n (pc := 167) hC dX8_unstruckBases_167 rfl rfl ht (by decide) ?_
        refine x_gf (pc := 168) (b := (t + 5)) hC fl_X8_48 ft8_13 ht (by decide) (off := 5) (by decide +kernel) rfl dX8_unstruckBases_168 ?_
        refine x_iload (pc := 171) hC dX8_unstruckBases_171 rfl ?_
        refine x_dup2 (pc := 173) hC dX8_unstruckBases_173 (show (1 : Nat) ≠ 3 by decide) (show (2 : Nat) ≠ 3 by decide) ?_
        obtain ⟨hb25, h⟩ := jck_some h
        refine x_iald (pc := 174) hC (ko8_13 ht) (by rw [lo8_13 ht]; exact hb25) dX8_unstruckBases_174 ?_
        refine x_iconst (pc := 175) hC dX8_unstruckBases_175 ?_
        refine x_iadd (pc := 176) hC dX8_unstruckBases_176 ?_
        obtain ⟨hb26, h⟩ := jck_some h
        obtain ⟨M27, eM27, h⟩ := jlet_some h
        refine x_iast (pc := 177) hC (ko8_13 ht) (by rw [lo8_13 ht]; exact hb26) dX8_unstruckBases_177 eM27 ?_
        obtain ⟨l3_28, el3_28, h⟩ := jlet_some h
        refine x_iinc (ls2 := [jA t, jI l1, jI l2_22, jI l3_28, jI l4_12, jI l5_15, jI s0_16]) (pc := 178) hC dX8_unstruckBases_178 rfl (by decide) rfl el3_28 rfl ?_
        refine x_goto (tgt := 18) (pc := 181) hC dX8_unstruckBases_181 (by decide) ?_
        refine x_kill 4 (ls2 := [jA t, jI l1, jI l2_22, jI l3_28, jN, jI l5_15, jI s0_16]) rfl ?_
        refine x_kill 5 (ls2 := [jA t, jI l1, jI l2_22, jI l3_28, jN, jN, jI s0_16]) rfl ?_
        refine x_kill 6 (ls2 := [jA t, jI l1, jI l2_22, jI l3_28, jN, jN, jN]) rfl ?_
        exact Hself8 _ _ _ h)
      refine x_icmp_lt (tgt := 129) (pc := 100) hC dX8_unstruckBases_100 (by decide) (fun hc => ?_) (fun hc => ?_)
      · replace h := jit_pos hc h
        refine x_iload_n (pc := 129) hC dX8_unstruckBases_129 rfl rfl ?_
        refine x_aloadA_n (pc := 130) hC dX8_unstruckBases_130 rfl rfl ht (by decide) ?_
        obtain ⟨hk29, h⟩ := jck_some h
        refine x_gr (pc := 131) (ji := 0) hC fl_X8_54 rfl ft8_0 ht dX8_unstruckBases_131 ?_
        refine x_gf (pc := 134) (b := ((M20 t 0) + 5)) hC fl_X8_140 ft1_3 hk29 (by decide) (off := 5) (by decide +kernel) rfl dX8_unstruckBases_134 ?_
        refine x_iload (pc := 137) hC dX8_unstruckBases_137 rfl ?_
        obtain ⟨hb30, h⟩ := jck_some h
        refine x_iald (pc := 139) hC (ko1_3 hk29) (by rw [lo1_3 hk29]; exact hb30) dX8_unstruckBases_139 ?_
        refine x_iadd (pc := 140) hC dX8_unstruckBases_140 ?_
        obtain ⟨l2_31, el2_31, h⟩ := jlet_some h
        refine x_istore_n (ls2 := [jA t, jI l1, jI l2_31, jI l3_6, jI l4_12, jI l5_15, jI s0_16]) (pc := 141) hC dX8_unstruckBases_141 rfl (by decide) rfl el2_31 rfl ?_
        refine x_aloadA_n (pc := 142) hC dX8_unstruckBases_142 rfl rfl ht (by decide) ?_
        refine x_gf (pc := 143) (b := (t + 3)) hC fl_X8_40 ft8_11 ht (by decide) (off := 3) (by decide +kernel) rfl dX8_unstruckBases_143 ?_
        refine x_iload_n (pc := 146) hC dX8_unstruckBases_146 rfl rfl ?_
        refine x_aloadA_n (pc := 147) hC dX8_unstruckBases_147 rfl rfl ht (by decide) ?_
        refine x_gf (pc := 148) (b := (t + 3)) hC fl_X8_40 ft8_11 ht (by decide) (off := 3) (by decide +kernel) rfl dX8_unstruckBases_148 ?_
        refine x_iload_n (pc := 151) hC dX8_unstruckBases_151 rfl rfl ?_
        obtain ⟨hb32, h⟩ := jck_some h
        refine x_iald (pc := 152) hC (ko8_11 ht) (by rw [lo8_11 ht]; exact hb32) dX8_unstruckBases_152 ?_
        refine x_aloadA_n (pc := 153) hC dX8_unstruckBases_153 rfl rfl ht (by decide) ?_
        refine x_gr (pc := 154) (ji := 0) hC fl_X8_54 rfl ft8_0 ht dX8_unstruckBases_154 ?_
        refine x_gf (pc := 157) (b := ((M20 t 0) + 5)) hC fl_X8_140 ft1_3 hk29 (by decide) (off := 5) (by decide +kernel) rfl dX8_unstruckBases_157 ?_
        refine x_iload (pc := 160) hC dX8_unstruckBases_160 rfl ?_
        obtain ⟨hb33, h⟩ := jck_some h
        refine x_iald (pc := 162) hC (ko1_3 hk29) (by rw [lo1_3 hk29]; exact hb33) dX8_unstruckBases_162 ?_
        obtain ⟨v35, e34, h⟩ := jbR_some h
        refine x_cS (pc := 163) hC ms_X8_143 (ok_J9_max_7cf53 hn e34) rfl (Nat.le_of_ble_eq_true rfl) (jRo0 C) (Nat.le_of_ble_eq_true rfl) dX8_unstruckBases_163 rfl ?_
        obtain ⟨hb36, h⟩ := jck_some h
        obtain ⟨M37, eM37, h⟩ := jlet_some h
        refine x_iast (pc := 166) hC (ko8_11 ht) (by rw [lo8_11 ht]; exact hb36) dX8_unstruckBases_166 eM37 ?_
        exact Hk24 _ _ h
      · replace h := jit_neg hc h
        refine x_aloadA_n (pc := 103) hC dX8_unstruckBases_103 rfl rfl ht (by decide) ?_
        refine x_gf (pc := 104) (b := (t + 1)) hC fl_X8_33 ft8_9 ht (by decide) (off := 1) (by decide +kernel) rfl dX8_unstruckBases_104 ?_
        refine x_iload_n (pc := 107) hC dX8_unstruckBases_107 rfl rfl ?_
        refine x_dup2 (pc := 108) hC dX8_unstruckBases_108 (show (1 : Nat) ≠ 3 by decide) (show (2 : Nat) ≠ 3 by decide) ?_
        obtain ⟨hb38, h⟩ := jck_some h
        refine x_iald (pc := 109) hC (ko8_9 ht) (by rw [lo8_9 ht]; exact hb38) dX8_unstruckBases_109 ?_
        refine x_iconst (pc := 110) hC dX8_unstruckBases_110 ?_
        refine x_iload_n (pc := 111) hC dX8_unstruckBases_111 rfl rfl ?_
        refine x_ishl (pc := 112) hC dX8_unstruckBases_112 ?_
        refine x_ior (pc := 113) hC dX8_unstruckBases_113 ?_
        obtain ⟨hb39, h⟩ := jck_some h
        obtain ⟨M40, eM40, h⟩ := jlet_some h
        refine x_iast (pc := 114) hC (ko8_9 ht) (by rw [lo8_9 ht]; exact hb39) dX8_unstruckBases_114 eM40 ?_
        refine x_aloadA_n (pc := 115) hC dX8_unstruckBases_115 rfl rfl ht (by decide) ?_
        refine x_gf (pc := 116) (b := (t + 4)) hC fl_X8_45 ft8_12 ht (by decide) (off := 4) (by decide +kernel) rfl dX8_unstruckBases_116 ?_
        refine x_bipush (pc := 119) hC dX8_unstruckBases_119 rfl ?_
        refine x_dup2 (pc := 121) hC dX8_unstruckBases_121 (show (1 : Nat) ≠ 3 by decide) (show (2 : Nat) ≠ 3 by decide) ?_
        obtain ⟨hb41, h⟩ := jck_some h
        refine x_iald (pc := 122) hC (ko8_12 ht) (by rw [lo8_12 ht]; exact hb41) dX8_unstruckBases_122 ?_
        refine x_iconst (pc := 123) hC dX8_unstruckBases_123 ?_
        refine x_iadd (pc := 124) hC dX8_unstruckBases_124 ?_
        obtain ⟨hb42, h⟩ := jck_some h
        obtain ⟨M43, eM43, h⟩ := jlet_some h
        refine x_iast (pc := 125) hC (ko8_12 ht) (by rw [lo8_12 ht]; exact hb42) dX8_unstruckBases_125 eM43 ?_
        refine x_goto (tgt := 167) (pc := 126) hC dX8_unstruckBases_126 (by decide) ?_
        exact Hk24 _ _ h)
    refine x_if_ne (tgt := 75) (pc := 60) hC dX8_unstruckBases_60 (by decide) (fun hc => ?_) (fun hc => ?_)
    · replace h := jit_neg hc h
      refine x_iconst (pc := 75) hC dX8_unstruckBases_75 ?_
      exact Hk17 _ h
    · replace h := jit_pos hc h
      refine x_aloadA_n (pc := 63) hC dX8_unstruckBases_63 rfl rfl ht (by decide) ?_
      refine x_gr (pc := 64) (ji := 0) hC fl_X8_54 rfl ft8_0 ht dX8_unstruckBases_64 ?_
      refine x_gf (pc := 67) (b := ((M7 t 0) + 1)) hC fl_X8_125 ft1_1 hk13 (by decide) (off := 1) (by decide +kernel) rfl dX8_unstruckBases_67 ?_
      refine x_iconst (pc := 70) hC dX8_unstruckBases_70 ?_
      obtain ⟨hb44, h⟩ := jck_some h
      refine x_iald (pc := 71) hC (ko1_1 hk13) (by rw [lo1_1 hk13]; exact hb44) dX8_unstruckBases_71 ?_
      refine x_goto (tgt := 76) (pc := 72) hC dX8_unstruckBases_72 (by decide) ?_
      exact Hk17 _ h

set_option maxHeartbeats 4000000 in
set_option maxRecDepth 20000 in
theorem ok_X8_beginsWithJump {X : jX} {n : Nat} (hn : 179 ≤ n) {t : Int} {l1 : Int} {M : jM} {rz : Int} (ht : jkd t = 8) (h : f_X8_beginsWithJump t l1 M = some rz) : jCt X n yX8_beginsWithJump cX8_beginsWithJump 2 (some .boolean) 0 [jA t, jI l1] M (some (jI rz)) M := by
  refine jCt_of (own := RX8) (ls := [jA t, jI l1]) (by decide +kernel) rfl hn (Nat.le_of_ble_eq_true rfl) rfl ?_
  intro C hC hR
  unfold f_X8_beginsWithJump at h
  refine x_aloadA_n (pc := 0) hC dX8_beginsWithJump_0 rfl rfl ht (by decide) ?_
  obtain ⟨hk1, h⟩ := jck_some h
  refine x_gr (pc := 1) (ji := 0) hC fl_X8_54 rfl ft8_0 ht dX8_beginsWithJump_1 ?_
  refine x_gf (pc := 4) (b := ((M t 0) + 6)) hC fl_X8_137 ft1_4 hk1 (by decide) (off := 6) (by decide +kernel) rfl dX8_beginsWithJump_4 ?_
  refine x_aloadA_n (pc := 7) hC dX8_beginsWithJump_7 rfl rfl ht (by decide) ?_
  obtain ⟨hk2, h⟩ := jck_some h
  refine x_gr (pc := 8) (ji := 1) hC fl_X8_64 rfl ft8_1 ht dX8_beginsWithJump_8 ?_
  refine x_gf (pc := 11) (b := ((M t 1) + 3)) hC fl_X8_134 ft6_5 hk2 (by decide) (off := 3) (by decide +kernel) rfl dX8_beginsWithJump_11 ?_
  refine x_iload_n (pc := 14) hC dX8_beginsWithJump_14 rfl rfl ?_
  refine x_iconst (pc := 15) hC dX8_beginsWithJump_15 ?_
  refine x_imul (pc := 16) hC dX8_beginsWithJump_16 ?_
  obtain ⟨hb3, h⟩ := jck_some h
  refine x_iald (pc := 17) hC (ko6_5 hk2) (by rw [lo6_5 hk2]; exact hb3) dX8_beginsWithJump_17 ?_
  obtain ⟨hb4, h⟩ := jck_some h
  refine x_iald (pc := 18) hC (ko1_4 hk1) (by rw [lo1_4 hk1]; exact hb4) dX8_beginsWithJump_18 ?_
  refine x_if_ne (tgt := 26) (pc := 19) hC dX8_beginsWithJump_19 (by decide) (fun hc => ?_) (fun hc => ?_)
  · replace h := jit_neg hc h
    refine x_iconst (pc := 26) hC dX8_beginsWithJump_26 ?_
    exact x_zret (pc := 27) hC hR dX8_beginsWithJump_27 (Or.inl jw0) (jrR h) rfl
  · replace h := jit_pos hc h
    refine x_iconst (pc := 22) hC dX8_beginsWithJump_22 ?_
    refine x_goto (tgt := 27) (pc := 23) hC dX8_beginsWithJump_23 (by decide) ?_
    exact x_zret (pc := 27) hC hR dX8_beginsWithJump_27 (Or.inr jw1) (jrR h) rfl

set_option maxHeartbeats 4000000 in
set_option maxRecDepth 20000 in
theorem ok_X8_weighAttempt {X : jX} {n : Nat} (hn : 179 ≤ n) {t : Int} {l1 : Int} {l2 : Int} {M : jM} {Mz : jM} (ht : jkd t = 8) (h : f_X8_weighAttempt t l1 l2 M = some Mz) : jCt X n yX8_weighAttempt cX8_weighAttempt 4 (none) 2 [jA t, jI l1, jI l2] M (none) Mz := by
  refine jCt_of (own := RX8) (ls := [jA t, jI l1, jI l2, jN]) (by decide +kernel) rfl hn (Nat.le_of_ble_eq_true rfl) rfl ?_
  intro C hC hR
  unfold f_X8_weighAttempt at h
  refine x_aloadA_n (pc := 0) hC dX8_weighAttempt_0 rfl rfl ht (by decide) ?_
  refine x_iload_n (pc := 1) hC dX8_weighAttempt_1 rfl rfl ?_
  obtain ⟨v3, M2, e1, h⟩ := jbW_some h
  refine x_cV (pc := 2) hC mv_X8_118 (ok_X8_unstruckBases hn ht e1) rfl (Nat.le_of_ble_eq_true rfl) ht rfl (by decide) (jRo0 C) (Nat.le_of_ble_eq_true rfl) dX8_weighAttempt_2 rfl ?_
  refine x_istore_n (ls2 := [jA t, jI l1, jI l2, jI v3]) (pc := 5) hC dX8_weighAttempt_5 rfl (by decide) rfl rfl rfl ?_
  refine x_iload_n (pc := 6) hC dX8_weighAttempt_6 rfl rfl ?_
  refine x_iconst (pc := 7) hC dX8_weighAttempt_7 ?_
  refine x_iand (pc := 8) hC dX8_weighAttempt_8 ?_
  obtain ⟨k6, Hk6, h⟩ := jk_some (P := fun k6 => ∀ (l3_4 : Int) (M5 : jM), k6 l3_4 M5 = some Mz → jG C X n 4 0 0 31 [jA t, jI l1, jI l2, jI l3_4] [] M5) h (by
    intro l3_4 M5 h
    refine x_iload_n (pc := 31) hC dX8_weighAttempt_31 rfl rfl ?_
    refine x_iconst (pc := 32) hC dX8_weighAttempt_32 ?_
    refine x_iand (pc := 33) hC dX8_weighAttempt_33 ?_
    obtain ⟨k9, Hk9, h⟩ := jk_some (P := fun k9 => ∀ (l3_7 : Int) (M8 : jM), k9 l3_7 M8 = some Mz → jG C X n 4 0 0 56 [jA t, jI l1, jI l2, jI l3_7] [] M8) h (by
      intro l3_7 M8 h
      refine x_iload_n (pc := 56) hC dX8_weighAttempt_56 rfl rfl ?_
      refine x_iconst (pc := 57) hC dX8_weighAttempt_57 ?_
      refine x_iand (pc := 58) hC dX8_weighAttempt_58 ?_
      obtain ⟨k11, Hk11, h⟩ := jk_some (P := fun k11 => ∀ (M10 : jM), k11 M10 = some Mz → jG C X n 4 0 0 72 [jA t, jI l1, jI l2, jI l3_7] [] M10) h (by
        intro M10 h
        refine x_aloadA_n (pc := 72) hC dX8_weighAttempt_72 rfl rfl ht (by decide) ?_
        refine x_gf (pc := 73) (b := (t + 2)) hC fl_X8_37 ft8_10 ht (by decide) (off := 2) (by decide +kernel) rfl dX8_weighAttempt_73 ?_
        refine x_iload_n (pc := 76) hC dX8_weighAttempt_76 rfl rfl ?_
        refine x_iload_n (pc := 77) hC dX8_weighAttempt_77 rfl rfl ?_
        obtain ⟨hb12, h⟩ := jck_some h
        obtain ⟨M13, eM13, h⟩ := jlet_some h
        refine x_iast (pc := 78) hC (ko8_10 ht) (by rw [lo8_10 ht]; exact hb12) dX8_weighAttempt_78 eM13 ?_
        refine x_aloadA_n (pc := 79) hC dX8_weighAttempt_79 rfl rfl ht (by decide) ?_
        refine x_iload_n (pc := 80) hC dX8_weighAttempt_80 rfl rfl ?_
        obtain ⟨v15, e14, h⟩ := jbR_some h
        refine x_cV (pc := 81) hC mv_X8_122 (ok_X8_beginsWithJump hn ht e14) rfl (Nat.le_of_ble_eq_true rfl) ht rfl (by decide) (jRo0 C) (Nat.le_of_ble_eq_true rfl) dX8_weighAttempt_81 rfl ?_
        obtain ⟨k17, Hk17, h⟩ := jk_some (P := fun k17 => ∀ (M16 : jM), k17 M16 = some Mz → jG C X n 4 0 0 131 [jA t, jI l1, jI l2, jI l3_7] [] M16) h (by
          intro M16 h
          refine x_aloadA_n (pc := 131) hC dX8_weighAttempt_131 rfl rfl ht (by decide) ?_
          refine x_gf (pc := 132) (b := (t + 4)) hC fl_X8_45 ft8_12 ht (by decide) (off := 4) (by decide +kernel) rfl dX8_weighAttempt_132 ?_
          refine x_iconst (pc := 135) hC dX8_weighAttempt_135 ?_
          refine x_dup2 (pc := 136) hC dX8_weighAttempt_136 (show (1 : Nat) ≠ 3 by decide) (show (2 : Nat) ≠ 3 by decide) ?_
          obtain ⟨hb18, h⟩ := jck_some h
          refine x_iald (pc := 137) hC (ko8_12 ht) (by rw [lo8_12 ht]; exact hb18) dX8_weighAttempt_137 ?_
          refine x_iconst (pc := 138) hC dX8_weighAttempt_138 ?_
          refine x_iadd (pc := 139) hC dX8_weighAttempt_139 ?_
          obtain ⟨hb19, h⟩ := jck_some h
          obtain ⟨M20, eM20, h⟩ := jlet_some h
          refine x_iast (pc := 140) hC (ko8_12 ht) (by rw [lo8_12 ht]; exact hb19) dX8_weighAttempt_140 eM20 ?_
          refine x_aloadA_n (pc := 141) hC dX8_weighAttempt_141 rfl rfl ht (by decide) ?_
          refine x_dup (pc := 142) hC dX8_weighAttempt_142 (show (2 : Nat) ≠ 3 by decide) ?_
          refine x_gi (pc := 143) (ji := 4) hC fl_X8_18 rfl fn8_4 ht dX8_weighAttempt_143 ?_
          refine x_aloadA_n (pc := 146) hC dX8_weighAttempt_146 rfl rfl ht (by decide) ?_
          refine x_iload_n (pc := 147) hC dX8_weighAttempt_147 rfl rfl ?_
          obtain ⟨v22, e21, h⟩ := jbR_some h
          refine x_cV (pc := 148) hC mv_X8_128 (ok_X8_worthOf hn ht e21) rfl (Nat.le_of_ble_eq_true rfl) ht rfl (by decide) (jRo0 C) (Nat.le_of_ble_eq_true rfl) dX8_weighAttempt_148 rfl ?_
          refine x_iadd (pc := 151) hC dX8_weighAttempt_151 ?_
          obtain ⟨M23, eM23, h⟩ := jlet_some h
          refine x_pi (pc := 152) (ji := 4) hC fl_X8_18 rfl ft8_4 ht dX8_weighAttempt_152 eM23 ?_
          exact x_vret (pc := 155) hC hR dX8_weighAttempt_155 (jrR h))
        refine x_if_eq (tgt := 131) (pc := 84) hC dX8_weighAttempt_84 (by decide) (fun hc => ?_) (fun hc => ?_)
        · replace h := jit_pos hc h
          exact Hk17 _ h
        · replace h := jit_neg hc h
          refine x_aloadA_n (pc := 87) hC dX8_weighAttempt_87 rfl rfl ht (by decide) ?_
          obtain ⟨hk24, h⟩ := jck_some h
          refine x_gr (pc := 88) (ji := 1) hC fl_X8_64 rfl ft8_1 ht dX8_weighAttempt_88 ?_
          refine x_gf (pc := 91) (b := ((M13 t 1) + 1)) hC fl_X8_86 ft6_3 hk24 (by decide) (off := 1) (by decide +kernel) rfl dX8_weighAttempt_91 ?_
          refine x_iload_n (pc := 94) hC dX8_weighAttempt_94 rfl rfl ?_
          obtain ⟨hb25, h⟩ := jck_some h
          refine x_iald (pc := 95) hC (ko6_3 hk24) (by rw [lo6_3 hk24]; exact hb25) dX8_weighAttempt_95 ?_
          refine x_aloadA_n (pc := 96) hC dX8_weighAttempt_96 rfl rfl ht (by decide) ?_
          obtain ⟨hk26, h⟩ := jck_some h
          refine x_gr (pc := 97) (ji := 0) hC fl_X8_54 rfl ft8_0 ht dX8_weighAttempt_97 ?_
          refine x_gf (pc := 100) (b := ((M13 t 0) + 1)) hC fl_X8_125 ft1_1 hk26 (by decide) (off := 1) (by decide +kernel) rfl dX8_weighAttempt_100 ?_
          refine x_iconst (pc := 103) hC dX8_weighAttempt_103 ?_
          obtain ⟨hb27, h⟩ := jck_some h
          refine x_iald (pc := 104) hC (ko1_1 hk26) (by rw [lo1_1 hk26]; exact hb27) dX8_weighAttempt_104 ?_
          refine x_icmp_lt (tgt := 131) (pc := 105) hC dX8_weighAttempt_105 (by decide) (fun hc => ?_) (fun hc => ?_)
          · replace h := jit_pos hc h
            exact Hk17 _ h
          · replace h := jit_neg hc h
            refine x_aloadA_n (pc := 108) hC dX8_weighAttempt_108 rfl rfl ht (by decide) ?_
            refine x_dup (pc := 109) hC dX8_weighAttempt_109 (show (2 : Nat) ≠ 3 by decide) ?_
            refine x_gi (pc := 110) (ji := 3) hC fl_X8_15 rfl fn8_3 ht dX8_weighAttempt_110 ?_
            refine x_iconst (pc := 113) hC dX8_weighAttempt_113 ?_
            refine x_iload_n (pc := 114) hC dX8_weighAttempt_114 rfl rfl ?_
            refine x_ishl (pc := 115) hC dX8_weighAttempt_115 ?_
            refine x_ior (pc := 116) hC dX8_weighAttempt_116 ?_
            obtain ⟨M28, eM28, h⟩ := jlet_some h
            refine x_pi (pc := 117) (ji := 3) hC fl_X8_15 rfl ft8_3 ht dX8_weighAttempt_117 eM28 ?_
            refine x_aloadA_n (pc := 120) hC dX8_weighAttempt_120 rfl rfl ht (by decide) ?_
            refine x_gf (pc := 121) (b := (t + 4)) hC fl_X8_45 ft8_12 ht (by decide) (off := 4) (by decide +kernel) rfl dX8_weighAttempt_121 ?_
            refine x_bipush (pc := 124) hC dX8_weighAttempt_124 rfl ?_
            refine x_dup2 (pc := 126) hC dX8_weighAttempt_126 (show (1 : Nat) ≠ 3 by decide) (show (2 : Nat) ≠ 3 by decide) ?_
            obtain ⟨hb29, h⟩ := jck_some h
            refine x_iald (pc := 127) hC (ko8_12 ht) (by rw [lo8_12 ht]; exact hb29) dX8_weighAttempt_127 ?_
            refine x_iconst (pc := 128) hC dX8_weighAttempt_128 ?_
            refine x_iadd (pc := 129) hC dX8_weighAttempt_129 ?_
            obtain ⟨hb30, h⟩ := jck_some h
            obtain ⟨M31, eM31, h⟩ := jlet_some h
            refine x_iast (pc := 130) hC (ko8_12 ht) (by rw [lo8_12 ht]; exact hb30) dX8_weighAttempt_130 eM31 ?_
            exact Hk17 _ h)
      refine x_if_eq (tgt := 72) (pc := 59) hC dX8_weighAttempt_59 (by decide) (fun hc => ?_) (fun hc => ?_)
      · replace h := jit_pos hc h
        exact Hk11 _ h
      · replace h := jit_neg hc h
        refine x_aloadA_n (pc := 62) hC dX8_weighAttempt_62 rfl rfl ht (by decide) ?_
        refine x_gf (pc := 63) (b := (t + 4)) hC fl_X8_45 ft8_12 ht (by decide) (off := 4) (by decide +kernel) rfl dX8_weighAttempt_63 ?_
        refine x_iconst (pc := 66) hC dX8_weighAttempt_66 ?_
        refine x_dup2 (pc := 67) hC dX8_weighAttempt_67 (show (1 : Nat) ≠ 3 by decide) (show (2 : Nat) ≠ 3 by decide) ?_
        obtain ⟨hb32, h⟩ := jck_some h
        refine x_iald (pc := 68) hC (ko8_12 ht) (by rw [lo8_12 ht]; exact hb32) dX8_weighAttempt_68 ?_
        refine x_iconst (pc := 69) hC dX8_weighAttempt_69 ?_
        refine x_iadd (pc := 70) hC dX8_weighAttempt_70 ?_
        obtain ⟨hb33, h⟩ := jck_some h
        obtain ⟨M34, eM34, h⟩ := jlet_some h
        refine x_iast (pc := 71) hC (ko8_12 ht) (by rw [lo8_12 ht]; exact hb33) dX8_weighAttempt_71 eM34 ?_
        exact Hk11 _ h)
    refine x_if_eq (tgt := 56) (pc := 34) hC dX8_weighAttempt_34 (by decide) (fun hc => ?_) (fun hc => ?_)
    · replace h := jit_pos hc h
      exact Hk9 _ _ h
    · replace h := jit_neg hc h
      refine x_iload_n (pc := 37) hC dX8_weighAttempt_37 rfl rfl ?_
      refine x_bipush (pc := 38) hC dX8_weighAttempt_38 rfl ?_
      refine x_imul (pc := 40) hC dX8_weighAttempt_40 ?_
      refine x_bipush (pc := 41) hC dX8_weighAttempt_41 rfl ?_
      refine x_idiv (pc := 43) hC dX8_weighAttempt_43 (by decide) ?_
      obtain ⟨l3_35, el3_35, h⟩ := jlet_some h
      refine x_istore_n (ls2 := [jA t, jI l1, jI l2, jI l3_35]) (pc := 44) hC dX8_weighAttempt_44 rfl (by decide) rfl el3_35 rfl ?_
      refine x_aloadA_n (pc := 45) hC dX8_weighAttempt_45 rfl rfl ht (by decide) ?_
      refine x_gf (pc := 46) (b := (t + 4)) hC fl_X8_45 ft8_12 ht (by decide) (off := 4) (by decide +kernel) rfl dX8_weighAttempt_46 ?_
      refine x_bipush (pc := 49) hC dX8_weighAttempt_49 rfl ?_
      refine x_dup2 (pc := 51) hC dX8_weighAttempt_51 (show (1 : Nat) ≠ 3 by decide) (show (2 : Nat) ≠ 3 by decide) ?_
      obtain ⟨hb36, h⟩ := jck_some h
      refine x_iald (pc := 52) hC (ko8_12 ht) (by rw [lo8_12 ht]; exact hb36) dX8_weighAttempt_52 ?_
      refine x_iconst (pc := 53) hC dX8_weighAttempt_53 ?_
      refine x_iadd (pc := 54) hC dX8_weighAttempt_54 ?_
      obtain ⟨hb37, h⟩ := jck_some h
      obtain ⟨M38, eM38, h⟩ := jlet_some h
      refine x_iast (pc := 55) hC (ko8_12 ht) (by rw [lo8_12 ht]; exact hb37) dX8_weighAttempt_55 eM38 ?_
      exact Hk9 _ _ h)
  refine x_if_eq (tgt := 31) (pc := 9) hC dX8_weighAttempt_9 (by decide) (fun hc => ?_) (fun hc => ?_)
  · replace h := jit_pos hc h
    exact Hk6 _ _ h
  · replace h := jit_neg hc h
    refine x_iload_n (pc := 12) hC dX8_weighAttempt_12 rfl rfl ?_
    refine x_bipush (pc := 13) hC dX8_weighAttempt_13 rfl ?_
    refine x_imul (pc := 15) hC dX8_weighAttempt_15 ?_
    refine x_bipush (pc := 16) hC dX8_weighAttempt_16 rfl ?_
    refine x_idiv (pc := 18) hC dX8_weighAttempt_18 (by decide) ?_
    obtain ⟨l3_39, el3_39, h⟩ := jlet_some h
    refine x_istore_n (ls2 := [jA t, jI l1, jI l2, jI l3_39]) (pc := 19) hC dX8_weighAttempt_19 rfl (by decide) rfl el3_39 rfl ?_
    refine x_aloadA_n (pc := 20) hC dX8_weighAttempt_20 rfl rfl ht (by decide) ?_
    refine x_gf (pc := 21) (b := (t + 4)) hC fl_X8_45 ft8_12 ht (by decide) (off := 4) (by decide +kernel) rfl dX8_weighAttempt_21 ?_
    refine x_bipush (pc := 24) hC dX8_weighAttempt_24 rfl ?_
    refine x_dup2 (pc := 26) hC dX8_weighAttempt_26 (show (1 : Nat) ≠ 3 by decide) (show (2 : Nat) ≠ 3 by decide) ?_
    obtain ⟨hb40, h⟩ := jck_some h
    refine x_iald (pc := 27) hC (ko8_12 ht) (by rw [lo8_12 ht]; exact hb40) dX8_weighAttempt_27 ?_
    refine x_iconst (pc := 28) hC dX8_weighAttempt_28 ?_
    refine x_iadd (pc := 29) hC dX8_weighAttempt_29 ?_
    obtain ⟨hb41, h⟩ := jck_some h
    obtain ⟨M42, eM42, h⟩ := jlet_some h
    refine x_iast (pc := 30) hC (ko8_12 ht) (by rw [lo8_12 ht]; exact hb41) dX8_weighAttempt_30 eM42 ?_
    exact Hk6 _ _ h

set_option maxHeartbeats 4000000 in
set_option maxRecDepth 20000 in
theorem ok_X8_sortJudges {X : jX} {n : Nat} (hn : 179 ≤ n) {t : Int} {l1 : Int} {M : jM} {Mz : jM} (ht : jkd t = 8) (h : f_X8_sortJudges t l1 M = some Mz) : jCt X n yX8_sortJudges cX8_sortJudges 6 (none) 0 [jA t, jI l1] M (none) Mz := by
  refine jCt_of (own := RX8) (ls := [jA t, jI l1, jN, jN, jN, jN]) (by decide +kernel) rfl hn (Nat.le_of_ble_eq_true rfl) rfl ?_
  intro C hC hR
  unfold f_X8_sortJudges at h
  refine x_iload_n (pc := 0) hC dX8_sortJudges_0 rfl rfl ?_
  refine x_bipush (pc := 1) hC dX8_sortJudges_1 rfl ?_
  refine x_imul (pc := 3) hC dX8_sortJudges_3 ?_
  obtain ⟨l2_1, el2_1, h⟩ := jlet_some h
  refine x_istore_n (ls2 := [jA t, jI l1, jI l2_1, jN, jN, jN]) (pc := 4) hC dX8_sortJudges_4 rfl (by decide) rfl el2_1 rfl ?_
  refine x_iconst (pc := 5) hC dX8_sortJudges_5 ?_
  refine x_istore_n (ls2 := [jA t, jI l1, jI l2_1, jI 0, jN, jN]) (pc := 6) hC dX8_sortJudges_6 rfl (by decide) rfl rfl rfl ?_
  refine jlp2_ind (P := fun (l3_2 : Int) (M3 : jM) => jG C X n 6 0 0 7 [jA t, jI l1, jI l2_1, jI l3_2, jN, jN] [] M3) ?_ _ _ _ h
  intro self4 l3_2 M3 Hself4 h
  refine x_iload_n (pc := 7) hC dX8_sortJudges_7 rfl rfl ?_
  refine x_aloadA_n (pc := 8) hC dX8_sortJudges_8 rfl rfl ht (by decide) ?_
  obtain ⟨hk5, h⟩ := jck_some h
  refine x_gr (pc := 9) (ji := 0) hC fl_X8_54 rfl ft8_0 ht dX8_sortJudges_9 ?_
  refine x_gi (pc := 12) (ji := 0) hC fl_X8_149 rfl fn1_0 hk5 dX8_sortJudges_12 ?_
  refine x_icmp_ge (tgt := 101) (pc := 15) hC dX8_sortJudges_15 (by decide) (fun hc => ?_) (fun hc => ?_)
  · replace h := jit_pos hc h
    exact x_vret (pc := 101) hC hR dX8_sortJudges_101 (jrR h)
  · replace h := jit_neg hc h
    refine x_iload_n (pc := 18) hC dX8_sortJudges_18 rfl rfl ?_
    refine x_iload_n (pc := 19) hC dX8_sortJudges_19 rfl rfl ?_
    refine x_iadd (pc := 20) hC dX8_sortJudges_20 ?_
    obtain ⟨l4_6, el4_6, h⟩ := jlet_some h
    refine x_istore (ls2 := [jA t, jI l1, jI l2_1, jI l3_2, jI l4_6, jN]) (pc := 21) hC dX8_sortJudges_21 (by decide) rfl el4_6 rfl ?_
    refine x_aloadA_n (pc := 23) hC dX8_sortJudges_23 rfl rfl ht (by decide) ?_
    obtain ⟨hk7, h⟩ := jck_some h
    refine x_gr (pc := 24) (ji := 1) hC fl_X8_64 rfl ft8_1 ht dX8_sortJudges_24 ?_
    refine x_gf (pc := 27) (b := ((M3 t 1) + 5)) hC fl_X8_152 ft6_7 hk7 (by decide) (off := 5) (by decide +kernel) rfl dX8_sortJudges_27 ?_
    refine x_iload (pc := 30) hC dX8_sortJudges_30 rfl ?_
    obtain ⟨hb8, h⟩ := jck_some h
    refine x_iald (pc := 32) hC (ko6_7 hk7) (by rw [lo6_7 hk7]; exact hb8) dX8_sortJudges_32 ?_
    obtain ⟨l5_9, el5_9, h⟩ := jlet_some h
    refine x_istore (ls2 := [jA t, jI l1, jI l2_1, jI l3_2, jI l4_6, jI l5_9]) (pc := 33) hC dX8_sortJudges_33 (by decide) rfl el5_9 rfl ?_
    refine jlp2_ind (P := fun (l4_10 : Int) (M11 : jM) => jG C X n 6 0 0 35 [jA t, jI l1, jI l2_1, jI l3_2, jI l4_10, jI l5_9] [] M11) ?_ _ _ _ h
    intro self12 l4_10 M11 Hself12 h
    refine x_iload (pc := 35) hC dX8_sortJudges_35 rfl ?_
    refine x_iload_n (pc := 37) hC dX8_sortJudges_37 rfl rfl ?_
    obtain ⟨k13, Hk13, h⟩ := jk_some (P := fun k13 => k13 = some Mz → jG C X n 6 0 0 87 [jA t, jI l1, jI l2_1, jI l3_2, jI l4_10, jI l5_9] [] M11) h (by
      intro h
      refine x_aloadA_n (pc := 87) hC dX8_sortJudges_87 rfl rfl ht (by decide) ?_
      refine x_gf (pc := 88) (b := (t + 6)) hC fl_X8_51 ft8_14 ht (by decide) (off := 6) (by decide +kernel) rfl dX8_sortJudges_88 ?_
      refine x_iload (pc := 91) hC dX8_sortJudges_91 rfl ?_
      refine x_iload_n (pc := 93) hC dX8_sortJudges_93 rfl rfl ?_
      obtain ⟨hb14, h⟩ := jck_some h
      obtain ⟨M15, eM15, h⟩ := jlet_some h
      refine x_iast (pc := 94) hC (ko8_14 ht) (by rw [lo8_14 ht]; exact hb14) dX8_sortJudges_94 eM15 ?_
      obtain ⟨l3_16, el3_16, h⟩ := jlet_some h
      refine x_iinc (ls2 := [jA t, jI l1, jI l2_1, jI l3_16, jI l4_10, jI l5_9]) (pc := 95) hC dX8_sortJudges_95 rfl (by decide) rfl el3_16 rfl ?_
      refine x_goto (tgt := 7) (pc := 98) hC dX8_sortJudges_98 (by decide) ?_
      refine x_kill 4 (ls2 := [jA t, jI l1, jI l2_1, jI l3_16, jN, jI l5_9]) rfl ?_
      refine x_kill 5 (ls2 := [jA t, jI l1, jI l2_1, jI l3_16, jN, jN]) rfl ?_
      exact Hself4 _ _ h)
    refine x_icmp_le (tgt := 87) (pc := 38) hC dX8_sortJudges_38 (by decide) (fun hc => ?_) (fun hc => ?_)
    · replace h := jit_pos hc h
      exact Hk13 h
    · replace h := jit_neg hc h
      refine x_aloadA_n (pc := 41) hC dX8_sortJudges_41 rfl rfl ht (by decide) ?_
      obtain ⟨hk17, h⟩ := jck_some h
      refine x_gr (pc := 42) (ji := 1) hC fl_X8_64 rfl ft8_1 ht dX8_sortJudges_42 ?_
      refine x_gf (pc := 45) (b := ((M11 t 1) + 5)) hC fl_X8_152 ft6_7 hk17 (by decide) (off := 5) (by decide +kernel) rfl dX8_sortJudges_45 ?_
      refine x_iload_n (pc := 48) hC dX8_sortJudges_48 rfl rfl ?_
      refine x_aloadA_n (pc := 49) hC dX8_sortJudges_49 rfl rfl ht (by decide) ?_
      refine x_gf (pc := 50) (b := (t + 6)) hC fl_X8_51 ft8_14 ht (by decide) (off := 6) (by decide +kernel) rfl dX8_sortJudges_50 ?_
      refine x_iload (pc := 53) hC dX8_sortJudges_53 rfl ?_
      refine x_iconst (pc := 55) hC dX8_sortJudges_55 ?_
      refine x_isub (pc := 56) hC dX8_sortJudges_56 ?_
      obtain ⟨hb18, h⟩ := jck_some h
      refine x_iald (pc := 57) hC (ko8_14 ht) (by rw [lo8_14 ht]; exact hb18) dX8_sortJudges_57 ?_
      refine x_iadd (pc := 58) hC dX8_sortJudges_58 ?_
      obtain ⟨hb19, h⟩ := jck_some h
      refine x_iald (pc := 59) hC (ko6_7 hk17) (by rw [lo6_7 hk17]; exact hb19) dX8_sortJudges_59 ?_
      refine x_iload (pc := 60) hC dX8_sortJudges_60 rfl ?_
      refine x_icmp_le (tgt := 87) (pc := 62) hC dX8_sortJudges_62 (by decide) (fun hc => ?_) (fun hc => ?_)
      · replace h := jit_pos hc h
        exact Hk13 h
      · replace h := jit_neg hc h
        refine x_aloadA_n (pc := 65) hC dX8_sortJudges_65 rfl rfl ht (by decide) ?_
        refine x_gf (pc := 66) (b := (t + 6)) hC fl_X8_51 ft8_14 ht (by decide) (off := 6) (by decide +kernel) rfl dX8_sortJudges_66 ?_
        refine x_iload (pc := 69) hC dX8_sortJudges_69 rfl ?_
        refine x_aloadA_n (pc := 71) hC dX8_sortJudges_71 rfl rfl ht (by decide) ?_
        refine x_gf (pc := 72) (b := (t + 6)) hC fl_X8_51 ft8_14 ht (by decide) (off := 6) (by decide +kernel) rfl dX8_sortJudges_72 ?_
        refine x_iload (pc := 75) hC dX8_sortJudges_75 rfl ?_
        refine x_iconst (pc := 77) hC dX8_sortJudges_77 ?_
        refine x_isub (pc := 78) hC dX8_sortJudges_78 ?_
        obtain ⟨hb20, h⟩ := jck_some h
        refine x_iald (pc := 79) hC (ko8_14 ht) (by rw [lo8_14 ht]; exact hb20) dX8_sortJudges_79 ?_
        obtain ⟨hb21, h⟩ := jck_some h
        obtain ⟨M22, eM22, h⟩ := jlet_some h
        refine x_iast (pc := 80) hC (ko8_14 ht) (by rw [lo8_14 ht]; exact hb21) dX8_sortJudges_80 eM22 ?_
        obtain ⟨l4_23, el4_23, h⟩ := jlet_some h
        refine x_iinc (ls2 := [jA t, jI l1, jI l2_1, jI l3_2, jI l4_23, jI l5_9]) (pc := 81) hC dX8_sortJudges_81 rfl (by decide) rfl el4_23 rfl ?_
        refine x_goto (tgt := 35) (pc := 84) hC dX8_sortJudges_84 (by decide) ?_
        exact Hself12 _ _ h

set_option maxHeartbeats 4000000 in
set_option maxRecDepth 20000 in
theorem ok_X8_shownOf {X : jX} {n : Nat} (hn : 179 ≤ n) {t : Int} {l1 : Int} {l2 : Int} {M : jM} {rz : Int} (ht : jkd t = 8) (h : f_X8_shownOf t l1 l2 M = some rz) : jCt X n yX8_shownOf cX8_shownOf 3 (some .int) 2 [jA t, jI l1, jI l2] M (some (jI rz)) M := by
  refine jCt_of (own := RX8) (ls := [jA t, jI l1, jI l2]) (by decide +kernel) rfl hn (Nat.le_of_ble_eq_true rfl) rfl ?_
  intro C hC hR
  unfold f_X8_shownOf at h
  refine x_aloadA_n (pc := 0) hC dX8_shownOf_0 rfl rfl ht (by decide) ?_
  refine x_bipush (pc := 1) hC dX8_shownOf_1 rfl ?_
  refine x_iload_n (pc := 3) hC dX8_shownOf_3 rfl rfl ?_
  refine x_iadd (pc := 4) hC dX8_shownOf_4 ?_
  refine x_iload_n (pc := 5) hC dX8_shownOf_5 rfl rfl ?_
  obtain ⟨v2, e1, h⟩ := jbR_some h
  refine x_cV (pc := 6) hC mv_X8_176 (ok_X8_trimmed hn ht e1) rfl (Nat.le_of_ble_eq_true rfl) ht rfl (by decide) (jRo0 C) (Nat.le_of_ble_eq_true rfl) dX8_shownOf_6 rfl ?_
  refine x_aloadA_n (pc := 9) hC dX8_shownOf_9 rfl rfl ht (by decide) ?_
  obtain ⟨hk3, h⟩ := jck_some h
  refine x_gr (pc := 10) (ji := 0) hC fl_X8_54 rfl ft8_0 ht dX8_shownOf_10 ?_
  refine x_gf (pc := 13) (b := ((M t 0) + 1)) hC fl_X8_125 ft1_1 hk3 (by decide) (off := 1) (by decide +kernel) rfl dX8_shownOf_13 ?_
  refine x_iconst (pc := 16) hC dX8_shownOf_16 ?_
  refine x_iload_n (pc := 17) hC dX8_shownOf_17 rfl rfl ?_
  refine x_iadd (pc := 18) hC dX8_shownOf_18 ?_
  obtain ⟨hb4, h⟩ := jck_some h
  refine x_iald (pc := 19) hC (ko1_1 hk3) (by rw [lo1_1 hk3]; exact hb4) dX8_shownOf_19 ?_
  refine x_imul (pc := 20) hC dX8_shownOf_20 ?_
  refine x_bipush (pc := 21) hC dX8_shownOf_21 rfl ?_
  refine x_idiv (pc := 23) hC dX8_shownOf_23 (by decide) ?_
  exact x_iret (pc := 24) hC hR dX8_shownOf_24 (jrR h) rfl

set_option maxHeartbeats 4000000 in
set_option maxRecDepth 20000 in
theorem ok_X8_sumUp {X : jX} {n : Nat} (hn : 179 ≤ n) {t : Int} {M : jM} {Mz : jM} (ht : jkd t = 8) (h : f_X8_sumUp t M = some Mz) : jCt X n yX8_sumUp cX8_sumUp 1 (none) 1 [jA t] M (none) Mz := by
  refine jCt_of (own := RX8) (ls := [jA t]) (by decide +kernel) rfl hn (Nat.le_of_ble_eq_true rfl) rfl ?_
  intro C hC hR
  unfold f_X8_sumUp at h
  refine x_aloadA_n (pc := 0) hC dX8_sumUp_0 rfl rfl ht (by decide) ?_
  refine x_iconst (pc := 1) hC dX8_sumUp_1 ?_
  refine x_aloadA_n (pc := 2) hC dX8_sumUp_2 rfl rfl ht (by decide) ?_
  refine x_gi (pc := 3) (ji := 6) hC fl_X8_24 rfl fn8_6 ht dX8_sumUp_3 ?_
  refine x_aloadA_n (pc := 6) hC dX8_sumUp_6 rfl rfl ht (by decide) ?_
  refine x_gi (pc := 7) (ji := 7) hC fl_X8_27 rfl fn8_7 ht dX8_sumUp_7 ?_
  refine x_iadd (pc := 10) hC dX8_sumUp_10 ?_
  refine x_bipush (pc := 11) hC dX8_sumUp_11 rfl ?_
  refine x_aloadA_n (pc := 13) hC dX8_sumUp_13 rfl rfl ht (by decide) ?_
  refine x_gf (pc := 14) (b := (t + 4)) hC fl_X8_45 ft8_12 ht (by decide) (off := 4) (by decide +kernel) rfl dX8_sumUp_14 ?_
  refine x_iconst (pc := 17) hC dX8_sumUp_17 ?_
  obtain ⟨hb1, h⟩ := jck_some h
  refine x_iald (pc := 18) hC (ko8_12 ht) (by rw [lo8_12 ht]; exact hb1) dX8_sumUp_18 ?_
  refine x_imul (pc := 19) hC dX8_sumUp_19 ?_
  refine x_isub (pc := 20) hC dX8_sumUp_20 ?_
  refine x_aloadA_n (pc := 21) hC dX8_sumUp_21 rfl rfl ht (by decide) ?_
  refine x_gi (pc := 22) (ji := 5) hC fl_X8_21 rfl fn8_5 ht dX8_sumUp_22 ?_
  refine x_isub (pc := 25) hC dX8_sumUp_25 ?_
  obtain ⟨v3, e2, h⟩ := jbR_some h
  refine x_cS (pc := 26) hC ms_X8_143 (ok_J9_max_7cf53 hn e2) rfl (Nat.le_of_ble_eq_true rfl) (jRo0 C) (Nat.le_of_ble_eq_true rfl) dX8_sumUp_26 rfl ?_
  obtain ⟨M4, eM4, h⟩ := jlet_some h
  refine x_pi (pc := 29) (ji := 8) hC fl_X8_30 rfl ft8_8 ht dX8_sumUp_29 eM4 ?_
  exact x_vret (pc := 32) hC hR dX8_sumUp_32 (jrR h)

set_option maxHeartbeats 4000000 in
set_option maxRecDepth 20000 in
theorem ok_X8_judgeBy {X : jX} {n : Nat} (hn : 179 ≤ n) {t : Int} {l1 : Int} {M : jM} {Mz : jM} (ht : jkd t = 8) (h : f_X8_judgeBy t l1 M = some Mz) : jCt X n yX8_judgeBy cX8_judgeBy 3 (none) 3 [jA t, jI l1] M (none) Mz := by
  refine jCt_of (own := RX8) (ls := [jA t, jI l1, jN]) (by decide +kernel) rfl hn (Nat.le_of_ble_eq_true rfl) rfl ?_
  intro C hC hR
  unfold f_X8_judgeBy at h
  refine x_aloadA_n (pc := 0) hC dX8_judgeBy_0 rfl rfl ht (by decide) ?_
  refine x_aloadA_n (pc := 1) hC dX8_judgeBy_1 rfl rfl ht (by decide) ?_
  refine x_gi (pc := 2) (ji := 4) hC fl_X8_18 rfl fn8_4 ht dX8_judgeBy_2 ?_
  obtain ⟨M1, eM1, h⟩ := jlet_some h
  refine x_pi (pc := 5) (ji := 6) hC fl_X8_24 rfl ft8_6 ht dX8_judgeBy_5 eM1 ?_
  refine x_iconst (pc := 8) hC dX8_judgeBy_8 ?_
  refine x_istore_n (ls2 := [jA t, jI l1, jI 0]) (pc := 9) hC dX8_judgeBy_9 rfl (by decide) rfl rfl rfl ?_
  refine jlp2_ind (P := fun (l2_2 : Int) (M3 : jM) => jG C X n 3 0 0 10 [jA t, jI l1, jI l2_2] [] M3) ?_ _ _ _ h
  intro self4 l2_2 M3 Hself4 h
  refine x_iload_n (pc := 10) hC dX8_judgeBy_10 rfl rfl ?_
  refine x_aloadA_n (pc := 11) hC dX8_judgeBy_11 rfl rfl ht (by decide) ?_
  obtain ⟨hk5, h⟩ := jck_some h
  refine x_gr (pc := 12) (ji := 1) hC fl_X8_64 rfl ft8_1 ht dX8_judgeBy_12 ?_
  refine x_gi (pc := 15) (ji := 0) hC fl_X8_79 rfl fn6_0 hk5 dX8_judgeBy_15 ?_
  refine x_icmp_ge (tgt := 53) (pc := 18) hC dX8_judgeBy_18 (by decide) (fun hc => ?_) (fun hc => ?_)
  · replace h := jit_pos hc h
    refine x_aloadA_n (pc := 53) hC dX8_judgeBy_53 rfl rfl ht (by decide) ?_
    refine x_iconst (pc := 54) hC dX8_judgeBy_54 ?_
    obtain ⟨M6, eM6, h⟩ := jlet_some h
    refine x_pi (pc := 55) (ji := 7) hC fl_X8_27 rfl ft8_7 ht dX8_judgeBy_55 eM6 ?_
    refine x_iconst (pc := 58) hC dX8_judgeBy_58 ?_
    refine x_istore_n (ls2 := [jA t, jI l1, jI 0]) (pc := 59) hC dX8_judgeBy_59 rfl (by decide) rfl rfl rfl ?_
    refine jlp2_ind (P := fun (l2_7 : Int) (M8 : jM) => jG C X n 3 0 0 60 [jA t, jI l1, jI l2_7] [] M8) ?_ _ _ _ h
    intro self9 l2_7 M8 Hself9 h
    refine x_iload_n (pc := 60) hC dX8_judgeBy_60 rfl rfl ?_
    refine x_iconst (pc := 61) hC dX8_judgeBy_61 ?_
    refine x_icmp_ge (tgt := 86) (pc := 62) hC dX8_judgeBy_62 (by decide) (fun hc => ?_) (fun hc => ?_)
    · replace h := jit_pos hc h
      refine x_aloadA_n (pc := 86) hC dX8_judgeBy_86 rfl rfl ht (by decide) ?_
      obtain ⟨M11, e10, h⟩ := jbV_some h
      refine x_cV (pc := 87) hC mv_X8_161 (ok_X8_sumUp hn ht e10) rfl (Nat.le_of_ble_eq_true rfl) ht rfl (by decide) (jRo0 C) (Nat.le_of_ble_eq_true rfl) dX8_judgeBy_87 rfl ?_
      exact x_vret (pc := 90) hC hR dX8_judgeBy_90 (jrR h)
    · replace h := jit_neg hc h
      refine x_aloadA_n (pc := 65) hC dX8_judgeBy_65 rfl rfl ht (by decide) ?_
      refine x_dup (pc := 66) hC dX8_judgeBy_66 (show (2 : Nat) ≠ 3 by decide) ?_
      refine x_gi (pc := 67) (ji := 7) hC fl_X8_27 rfl fn8_7 ht dX8_judgeBy_67 ?_
      refine x_aloadA_n (pc := 70) hC dX8_judgeBy_70 rfl rfl ht (by decide) ?_
      refine x_iload_n (pc := 71) hC dX8_judgeBy_71 rfl rfl ?_
      refine x_iload_n (pc := 72) hC dX8_judgeBy_72 rfl rfl ?_
      obtain ⟨v13, e12, h⟩ := jbR_some h
      refine x_cV (pc := 73) hC mv_X8_158 (ok_X8_shownOf hn ht e12) rfl (Nat.le_of_ble_eq_true rfl) ht rfl (by decide) (jRo0 C) (Nat.le_of_ble_eq_true rfl) dX8_judgeBy_73 rfl ?_
      refine x_iadd (pc := 76) hC dX8_judgeBy_76 ?_
      obtain ⟨M14, eM14, h⟩ := jlet_some h
      refine x_pi (pc := 77) (ji := 7) hC fl_X8_27 rfl ft8_7 ht dX8_judgeBy_77 eM14 ?_
      obtain ⟨l2_15, el2_15, h⟩ := jlet_some h
      refine x_iinc (ls2 := [jA t, jI l1, jI l2_15]) (pc := 80) hC dX8_judgeBy_80 rfl (by decide) rfl el2_15 rfl ?_
      refine x_goto (tgt := 60) (pc := 83) hC dX8_judgeBy_83 (by decide) ?_
      exact Hself9 _ _ h
  · replace h := jit_neg hc h
    refine x_aloadA_n (pc := 21) hC dX8_judgeBy_21 rfl rfl ht (by decide) ?_
    refine x_gi (pc := 22) (ji := 2) hC fl_X8_9 rfl fn8_2 ht dX8_judgeBy_22 ?_
    refine x_iload_n (pc := 25) hC dX8_judgeBy_25 rfl rfl ?_
    refine x_ishr (pc := 26) hC dX8_judgeBy_26 ?_
    refine x_iconst (pc := 27) hC dX8_judgeBy_27 ?_
    refine x_iand (pc := 28) hC dX8_judgeBy_28 ?_
    refine x_if_eq (tgt := 47) (pc := 29) hC dX8_judgeBy_29 (by decide) (fun hc => ?_) (fun hc => ?_)
    · replace h := jit_pos hc h
      obtain ⟨l2_16, el2_16, h⟩ := jlet_some h
      refine x_iinc (ls2 := [jA t, jI l1, jI l2_16]) (pc := 47) hC dX8_judgeBy_47 rfl (by decide) rfl el2_16 rfl ?_
      refine x_goto (tgt := 10) (pc := 50) hC dX8_judgeBy_50 (by decide) ?_
      exact Hself4 _ _ h
    · replace h := jit_neg hc h
      refine x_aloadA_n (pc := 32) hC dX8_judgeBy_32 rfl rfl ht (by decide) ?_
      refine x_dup (pc := 33) hC dX8_judgeBy_33 (show (2 : Nat) ≠ 3 by decide) ?_
      refine x_gi (pc := 34) (ji := 6) hC fl_X8_24 rfl fn8_6 ht dX8_judgeBy_34 ?_
      refine x_aloadA_n (pc := 37) hC dX8_judgeBy_37 rfl rfl ht (by decide) ?_
      refine x_iload_n (pc := 38) hC dX8_judgeBy_38 rfl rfl ?_
      refine x_iload_n (pc := 39) hC dX8_judgeBy_39 rfl rfl ?_
      obtain ⟨v18, e17, h⟩ := jbR_some h
      refine x_cV (pc := 40) hC mv_X8_155 (ok_X8_gainOf hn ht e17) rfl (Nat.le_of_ble_eq_true rfl) ht rfl (by decide) (jRo0 C) (Nat.le_of_ble_eq_true rfl) dX8_judgeBy_40 rfl ?_
      refine x_iadd (pc := 43) hC dX8_judgeBy_43 ?_
      obtain ⟨M19, eM19, h⟩ := jlet_some h
      refine x_pi (pc := 44) (ji := 6) hC fl_X8_24 rfl ft8_6 ht dX8_judgeBy_44 eM19 ?_
      obtain ⟨l2_20, el2_20, h⟩ := jlet_some h
      refine x_iinc (ls2 := [jA t, jI l1, jI l2_20]) (pc := 47) hC dX8_judgeBy_47 rfl (by decide) rfl el2_20 rfl ?_
      refine x_goto (tgt := 10) (pc := 50) hC dX8_judgeBy_50 (by decide) ?_
      exact Hself4 _ _ h

set_option maxHeartbeats 4000000 in
set_option maxRecDepth 20000 in
theorem ok_X8_weigh {X : jX} {n : Nat} (hn : 179 ≤ n) {t : Int} {l1 : Int} {l2 : Int} {l3 : Int} {l4 : Int} {M : jM} {Mz : jM} (ht : jkd t = 8) (hl1 : jkd l1 = 1) (h : f_X8_weigh t l1 l2 l3 l4 M = some Mz) : jCt X n yX8_weigh cX8_weigh 6 (none) 4 [jA t, jA l1, jI l2, jI l3, jI l4] M (none) Mz := by
  refine jCt_of (own := RX8) (ls := [jA t, jA l1, jI l2, jI l3, jI l4, jN]) (by decide +kernel) rfl hn (Nat.le_of_ble_eq_true rfl) rfl ?_
  intro C hC hR
  unfold f_X8_weigh at h
  refine x_aloadA_n (pc := 0) hC dX8_weigh_0 rfl rfl ht (by decide) ?_
  refine x_aloadA_n (pc := 1) hC dX8_weigh_1 rfl rfl hl1 (by decide) ?_
  obtain ⟨M1, eM1, h⟩ := jlet_some h
  refine x_pr (pc := 2) (ji := 0) hC fl_X8_54 rfl ft8_0 ht dX8_weigh_2 eM1 ?_
  refine x_aloadA_n (pc := 5) hC dX8_weigh_5 rfl rfl ht (by decide) ?_
  refine x_aloadA_n (pc := 6) hC dX8_weigh_6 rfl rfl hl1 (by decide) ?_
  refine x_gf (pc := 7) (b := (l1 + 16)) hC fl_X8_58 ft1_7 hl1 (by decide) (off := 16) (by decide +kernel) rfl dX8_weigh_7 ?_
  refine x_iload_n (pc := 10) hC dX8_weigh_10 rfl rfl ?_
  obtain ⟨hb2, h⟩ := jck_some h
  refine x_aald14 (pc := 11) hC (ko1_7 hl1) hb2 rfl dX8_weigh_11 ?_
  obtain ⟨M3, eM3, h⟩ := jlet_some h
  refine x_pr (pc := 12) (ji := 1) hC fl_X8_64 rfl ft8_1 ht dX8_weigh_12 eM3 ?_
  refine x_aloadA_n (pc := 15) hC dX8_weigh_15 rfl rfl ht (by decide) ?_
  refine x_iconst (pc := 16) hC dX8_weigh_16 ?_
  obtain ⟨M4, eM4, h⟩ := jlet_some h
  refine x_pi (pc := 17) (ji := 2) hC fl_X8_9 rfl ft8_2 ht dX8_weigh_17 eM4 ?_
  refine x_aloadA_n (pc := 20) hC dX8_weigh_20 rfl rfl ht (by decide) ?_
  refine x_iconst (pc := 21) hC dX8_weigh_21 ?_
  obtain ⟨M5, eM5, h⟩ := jlet_some h
  refine x_pi (pc := 22) (ji := 3) hC fl_X8_15 rfl ft8_3 ht dX8_weigh_22 eM5 ?_
  refine x_aloadA_n (pc := 25) hC dX8_weigh_25 rfl rfl ht (by decide) ?_
  refine x_iconst (pc := 26) hC dX8_weigh_26 ?_
  obtain ⟨M6, eM6, h⟩ := jlet_some h
  refine x_pi (pc := 27) (ji := 4) hC fl_X8_18 rfl ft8_4 ht dX8_weigh_27 eM6 ?_
  refine x_aloadA_n (pc := 30) hC dX8_weigh_30 rfl rfl ht (by decide) ?_
  refine x_gf (pc := 31) (b := (t + 5)) hC fl_X8_48 ft8_13 ht (by decide) (off := 5) (by decide +kernel) rfl dX8_weigh_31 ?_
  refine x_iconst (pc := 34) hC dX8_weigh_34 ?_
  obtain ⟨M8, e7, h⟩ := jbV_some h
  refine x_cS (pc := 35) hC ms_X8_68 (ok_J7_fill_53178 hn (ko8_13 ht) e7) rfl (Nat.le_of_ble_eq_true rfl) (jRo0 C) (Nat.le_of_ble_eq_true rfl) dX8_weigh_35 rfl ?_
  refine x_aloadA_n (pc := 38) hC dX8_weigh_38 rfl rfl ht (by decide) ?_
  refine x_gf (pc := 39) (b := (t + 4)) hC fl_X8_45 ft8_12 ht (by decide) (off := 4) (by decide +kernel) rfl dX8_weigh_39 ?_
  refine x_iconst (pc := 42) hC dX8_weigh_42 ?_
  obtain ⟨M10, e9, h⟩ := jbV_some h
  refine x_cS (pc := 43) hC ms_X8_68 (ok_J7_fill_53178 hn (ko8_12 ht) e9) rfl (Nat.le_of_ble_eq_true rfl) (jRo0 C) (Nat.le_of_ble_eq_true rfl) dX8_weigh_43 rfl ?_
  refine x_aloadA_n (pc := 46) hC dX8_weigh_46 rfl rfl ht (by decide) ?_
  refine x_gf (pc := 47) (b := (t + 4)) hC fl_X8_45 ft8_12 ht (by decide) (off := 4) (by decide +kernel) rfl dX8_weigh_47 ?_
  refine x_iconst (pc := 50) hC dX8_weigh_50 ?_
  refine x_aloadA_n (pc := 51) hC dX8_weigh_51 rfl rfl ht (by decide) ?_
  obtain ⟨hk11, h⟩ := jck_some h
  refine x_gr (pc := 52) (ji := 1) hC fl_X8_64 rfl ft8_1 ht dX8_weigh_52 ?_
  refine x_gi (pc := 55) (ji := 2) hC fl_X8_74 rfl fn6_2 hk11 dX8_weigh_55 ?_
  obtain ⟨hb12, h⟩ := jck_some h
  obtain ⟨M13, eM13, h⟩ := jlet_some h
  refine x_iast (pc := 58) hC (ko8_12 ht) (by rw [lo8_12 ht]; exact hb12) dX8_weigh_58 eM13 ?_
  refine x_iconst (pc := 59) hC dX8_weigh_59 ?_
  refine x_istore (ls2 := [jA t, jA l1, jI l2, jI l3, jI l4, jI 0]) (pc := 60) hC dX8_weigh_60 (by decide) rfl rfl rfl ?_
  refine jlp2_ind (P := fun (l5_14 : Int) (M15 : jM) => jG C X n 6 0 0 62 [jA t, jA l1, jI l2, jI l3, jI l4, jI l5_14] [] M15) ?_ _ _ _ h
  intro self16 l5_14 M15 Hself16 h
  refine x_iload (pc := 62) hC dX8_weigh_62 rfl ?_
  refine x_aloadA_n (pc := 64) hC dX8_weigh_64 rfl rfl ht (by decide) ?_
  obtain ⟨hk17, h⟩ := jck_some h
  refine x_gr (pc := 65) (ji := 1) hC fl_X8_64 rfl ft8_1 ht dX8_weigh_65 ?_
  refine x_gi (pc := 68) (ji := 0) hC fl_X8_79 rfl fn6_0 hk17 dX8_weigh_68 ?_
  refine x_icmp_ge (tgt := 144) (pc := 71) hC dX8_weigh_71 (by decide) (fun hc => ?_) (fun hc => ?_)
  · replace h := jit_pos hc h
    refine x_iconst (pc := 144) hC dX8_weigh_144 ?_
    refine x_istore (ls2 := [jA t, jA l1, jI l2, jI l3, jI l4, jI 0]) (pc := 145) hC dX8_weigh_145 (by decide) rfl rfl rfl ?_
    refine jlp2_ind (P := fun (l5_18 : Int) (M19 : jM) => jG C X n 6 0 0 147 [jA t, jA l1, jI l2, jI l3, jI l4, jI l5_18] [] M19) ?_ _ _ _ h
    intro self20 l5_18 M19 Hself20 h
    refine x_iload (pc := 147) hC dX8_weigh_147 rfl ?_
    refine x_iconst (pc := 149) hC dX8_weigh_149 ?_
    refine x_icmp_ge (tgt := 168) (pc := 150) hC dX8_weigh_150 (by decide) (fun hc => ?_) (fun hc => ?_)
    · replace h := jit_pos hc h
      refine x_aloadA_n (pc := 168) hC dX8_weigh_168 rfl rfl ht (by decide) ?_
      refine x_iconst (pc := 169) hC dX8_weigh_169 ?_
      obtain ⟨M21, eM21, h⟩ := jlet_some h
      refine x_pi (pc := 170) (ji := 5) hC fl_X8_21 rfl ft8_5 ht dX8_weigh_170 eM21 ?_
      refine x_iconst (pc := 173) hC dX8_weigh_173 ?_
      refine x_istore (ls2 := [jA t, jA l1, jI l2, jI l3, jI l4, jI 0]) (pc := 174) hC dX8_weigh_174 (by decide) rfl rfl rfl ?_
      refine jlp2_ind (P := fun (l5_22 : Int) (M23 : jM) => jG C X n 6 0 0 176 [jA t, jA l1, jI l2, jI l3, jI l4, jI l5_22] [] M23) ?_ _ _ _ h
      intro self24 l5_22 M23 Hself24 h
      refine x_iload (pc := 176) hC dX8_weigh_176 rfl ?_
      refine x_aloadA_n (pc := 178) hC dX8_weigh_178 rfl rfl ht (by decide) ?_
      obtain ⟨hk25, h⟩ := jck_some h
      refine x_gr (pc := 179) (ji := 0) hC fl_X8_54 rfl ft8_0 ht dX8_weigh_179 ?_
      refine x_gf (pc := 182) (b := ((M23 t 0) + 7)) hC fl_X8_100 ft1_5 hk25 (by decide) (off := 7) (by decide +kernel) rfl dX8_weigh_182 ?_
      refine x_gi (pc := 185) (ji := 0) hC fl_X8_104 rfl fn5_0 (ko1_5 hk25) dX8_weigh_185 ?_
      refine x_icmp_ge (tgt := 222) (pc := 188) hC dX8_weigh_188 (by decide) (fun hc => ?_) (fun hc => ?_)
      · replace h := jit_pos hc h
        refine x_aloadA_n (pc := 222) hC dX8_weigh_222 rfl rfl ht (by decide) ?_
        refine x_aloadA_n (pc := 223) hC dX8_weigh_223 rfl rfl ht (by decide) ?_
        refine x_gr (pc := 224) (ji := 0) hC fl_X8_54 rfl ft8_0 ht dX8_weigh_224 ?_
        obtain ⟨v27, e26, h⟩ := jbR_some h
        refine x_cV (pc := 227) hC mv_X8_111 (ok_X1_everyJudge hn hk25 e26) rfl (Nat.le_of_ble_eq_true rfl) hk25 rfl (by decide) (jRo0 C) (Nat.le_of_ble_eq_true rfl) dX8_weigh_227 rfl ?_
        obtain ⟨M29, e28, h⟩ := jbV_some h
        refine x_cV (pc := 230) hC mv_X8_115 (ok_X8_judgeBy hn ht e28) rfl (Nat.le_of_ble_eq_true rfl) ht rfl (by decide) (jRo0 C) (Nat.le_of_ble_eq_true rfl) dX8_weigh_230 rfl ?_
        exact x_vret (pc := 233) hC hR dX8_weigh_233 (jrR h)
      · replace h := jit_neg hc h
        refine x_aloadA_n (pc := 191) hC dX8_weigh_191 rfl rfl ht (by decide) ?_
        refine x_dup (pc := 192) hC dX8_weigh_192 (show (2 : Nat) ≠ 3 by decide) ?_
        refine x_gi (pc := 193) (ji := 5) hC fl_X8_21 rfl fn8_5 ht dX8_weigh_193 ?_
        refine x_aloadA_n (pc := 196) hC dX8_weigh_196 rfl rfl ht (by decide) ?_
        refine x_gr (pc := 197) (ji := 0) hC fl_X8_54 rfl ft8_0 ht dX8_weigh_197 ?_
        refine x_gf (pc := 200) (b := ((M23 t 0) + 7)) hC fl_X8_100 ft1_5 hk25 (by decide) (off := 7) (by decide +kernel) rfl dX8_weigh_200 ?_
        refine x_iload (pc := 203) hC dX8_weigh_203 rfl ?_
        refine x_aloadA_n (pc := 205) hC dX8_weigh_205 rfl rfl ht (by decide) ?_
        refine x_gf (pc := 206) (b := (t + 4)) hC fl_X8_45 ft8_12 ht (by decide) (off := 4) (by decide +kernel) rfl dX8_weigh_206 ?_
        obtain ⟨v32, M31, e30, h⟩ := jbW_some h
        refine x_cV (pc := 209) hC mv_X8_107 (ok_X5_amount hn (ko1_5 hk25) (ko8_12 ht) e30) rfl (Nat.le_of_ble_eq_true rfl) (ko1_5 hk25) rfl (by decide) (jRo0 C) (Nat.le_of_ble_eq_true rfl) dX8_weigh_209 rfl ?_
        refine x_iadd (pc := 212) hC dX8_weigh_212 ?_
        obtain ⟨M33, eM33, h⟩ := jlet_some h
        refine x_pi (pc := 213) (ji := 5) hC fl_X8_21 rfl ft8_5 ht dX8_weigh_213 eM33 ?_
        obtain ⟨l5_34, el5_34, h⟩ := jlet_some h
        refine x_iinc (ls2 := [jA t, jA l1, jI l2, jI l3, jI l4, jI l5_34]) (pc := 216) hC dX8_weigh_216 rfl (by decide) rfl el5_34 rfl ?_
        refine x_goto (tgt := 176) (pc := 219) hC dX8_weigh_219 (by decide) ?_
        exact Hself24 _ _ h
    · replace h := jit_neg hc h
      refine x_aloadA_n (pc := 153) hC dX8_weigh_153 rfl rfl ht (by decide) ?_
      refine x_bipush (pc := 154) hC dX8_weigh_154 rfl ?_
      refine x_iload (pc := 156) hC dX8_weigh_156 rfl ?_
      refine x_iadd (pc := 158) hC dX8_weigh_158 ?_
      obtain ⟨M36, e35, h⟩ := jbV_some h
      refine x_cV (pc := 159) hC mv_X8_96 (ok_X8_sortJudges hn ht e35) rfl (Nat.le_of_ble_eq_true rfl) ht rfl (by decide) (jRo0 C) (Nat.le_of_ble_eq_true rfl) dX8_weigh_159 rfl ?_
      obtain ⟨l5_37, el5_37, h⟩ := jlet_some h
      refine x_iinc (ls2 := [jA t, jA l1, jI l2, jI l3, jI l4, jI l5_37]) (pc := 162) hC dX8_weigh_162 rfl (by decide) rfl el5_37 rfl ?_
      refine x_goto (tgt := 147) (pc := 165) hC dX8_weigh_165 (by decide) ?_
      exact Hself20 _ _ h
  · replace h := jit_neg hc h
    refine x_aloadA_n (pc := 74) hC dX8_weigh_74 rfl rfl ht (by decide) ?_
    refine x_gr (pc := 75) (ji := 1) hC fl_X8_64 rfl ft8_1 ht dX8_weigh_75 ?_
    refine x_iload (pc := 78) hC dX8_weigh_78 rfl ?_
    obtain ⟨v39, e38, h⟩ := jbR_some h
    refine x_cV (pc := 80) hC mv_X8_82 (ok_X6_has hn hk17 e38) rfl (Nat.le_of_ble_eq_true rfl) hk17 rfl (by decide) (jRo0 C) (Nat.le_of_ble_eq_true rfl) dX8_weigh_80 rfl ?_
    refine x_if_eq (tgt := 138) (pc := 83) hC dX8_weigh_83 (by decide) (fun hc => ?_) (fun hc => ?_)
    · replace h := jit_pos hc h
      obtain ⟨l5_40, el5_40, h⟩ := jlet_some h
      refine x_iinc (ls2 := [jA t, jA l1, jI l2, jI l3, jI l4, jI l5_40]) (pc := 138) hC dX8_weigh_138 rfl (by decide) rfl el5_40 rfl ?_
      refine x_goto (tgt := 62) (pc := 141) hC dX8_weigh_141 (by decide) ?_
      exact Hself16 _ _ h
    · replace h := jit_neg hc h
      refine x_aloadA_n (pc := 86) hC dX8_weigh_86 rfl rfl ht (by decide) ?_
      refine x_gr (pc := 87) (ji := 1) hC fl_X8_64 rfl ft8_1 ht dX8_weigh_87 ?_
      refine x_gf (pc := 90) (b := ((M15 t 1) + 1)) hC fl_X8_86 ft6_3 hk17 (by decide) (off := 1) (by decide +kernel) rfl dX8_weigh_90 ?_
      refine x_iload (pc := 93) hC dX8_weigh_93 rfl ?_
      obtain ⟨hb41, h⟩ := jck_some h
      refine x_iald (pc := 95) hC (ko6_3 hk17) (by rw [lo6_3 hk17]; exact hb41) dX8_weigh_95 ?_
      refine x_iload_n (pc := 96) hC dX8_weigh_96 rfl rfl ?_
      refine x_icmp_gt (tgt := 138) (pc := 97) hC dX8_weigh_97 (by decide) (fun hc => ?_) (fun hc => ?_)
      · replace h := jit_pos hc h
        obtain ⟨l5_42, el5_42, h⟩ := jlet_some h
        refine x_iinc (ls2 := [jA t, jA l1, jI l2, jI l3, jI l4, jI l5_42]) (pc := 138) hC dX8_weigh_138 rfl (by decide) rfl el5_42 rfl ?_
        refine x_goto (tgt := 62) (pc := 141) hC dX8_weigh_141 (by decide) ?_
        exact Hself16 _ _ h
      · replace h := jit_neg hc h
        refine x_aloadA_n (pc := 100) hC dX8_weigh_100 rfl rfl ht (by decide) ?_
        refine x_dup (pc := 101) hC dX8_weigh_101 (show (2 : Nat) ≠ 3 by decide) ?_
        refine x_gi (pc := 102) (ji := 2) hC fl_X8_9 rfl fn8_2 ht dX8_weigh_102 ?_
        refine x_iconst (pc := 105) hC dX8_weigh_105 ?_
        refine x_iload (pc := 106) hC dX8_weigh_106 rfl ?_
        refine x_ishl (pc := 108) hC dX8_weigh_108 ?_
        refine x_ior (pc := 109) hC dX8_weigh_109 ?_
        obtain ⟨M43, eM43, h⟩ := jlet_some h
        refine x_pi (pc := 110) (ji := 2) hC fl_X8_9 rfl ft8_2 ht dX8_weigh_110 eM43 ?_
        refine x_aloadA_n (pc := 113) hC dX8_weigh_113 rfl rfl ht (by decide) ?_
        refine x_iload (pc := 114) hC dX8_weigh_114 rfl ?_
        refine x_aloadA_n (pc := 116) hC dX8_weigh_116 rfl rfl ht (by decide) ?_
        obtain ⟨hk44, h⟩ := jck_some h
        refine x_gr (pc := 117) (ji := 1) hC fl_X8_64 rfl ft8_1 ht dX8_weigh_117 ?_
        refine x_gf (pc := 120) (b := ((M43 t 1) + 4)) hC fl_X8_89 ft6_6 hk44 (by decide) (off := 4) (by decide +kernel) rfl dX8_weigh_120 ?_
        refine x_iload (pc := 123) hC dX8_weigh_123 rfl ?_
        obtain ⟨hb45, h⟩ := jck_some h
        refine x_iald (pc := 125) hC (ko6_6 hk44) (by rw [lo6_6 hk44]; exact hb45) dX8_weigh_125 ?_
        refine x_iload (pc := 126) hC dX8_weigh_126 rfl ?_
        refine x_iand (pc := 128) hC dX8_weigh_128 ?_
        obtain ⟨M47, e46, h⟩ := jbV_some h
        refine x_cV (pc := 129) hC mv_X8_92 (ok_X8_weighAttempt hn ht e46) rfl (Nat.le_of_ble_eq_true rfl) ht rfl (by decide) (jRo0 C) (Nat.le_of_ble_eq_true rfl) dX8_weigh_129 rfl ?_
        refine x_aloadA_n (pc := 132) hC dX8_weigh_132 rfl rfl ht (by decide) ?_
        refine x_iload (pc := 133) hC dX8_weigh_133 rfl ?_
        obtain ⟨M49, e48, h⟩ := jbV_some h
        refine x_cV (pc := 135) hC mv_X8_96 (ok_X8_sortJudges hn ht e48) rfl (Nat.le_of_ble_eq_true rfl) ht rfl (by decide) (jRo0 C) (Nat.le_of_ble_eq_true rfl) dX8_weigh_135 rfl ?_
        obtain ⟨l5_50, el5_50, h⟩ := jlet_some h
        refine x_iinc (ls2 := [jA t, jA l1, jI l2, jI l3, jI l4, jI l5_50]) (pc := 138) hC dX8_weigh_138 rfl (by decide) rfl el5_50 rfl ?_
        refine x_goto (tgt := 62) (pc := 141) hC dX8_weigh_141 (by decide) ?_
        exact Hself16 _ _ h

set_option maxHeartbeats 4000000 in
set_option maxRecDepth 20000 in
theorem ok_X7_weigh {X : jX} {n : Nat} (hn : 179 ≤ n) {l1 : Int} {l2 : Int} {M : jM} {Mz : jM} (hl1 : jkd l1 = 1) (h : f_X7_weigh l1 l2 M = some Mz) : jCt X n yX7_weigh cX7_weigh 4 (none) 5 [jA 110, jA l1, jI l2] M (none) Mz := by
  refine jCt_of (own := RX7) (ls := [jA 110, jA l1, jI l2, jN]) (by decide +kernel) rfl hn (Nat.le_of_ble_eq_true rfl) rfl ?_
  intro C hC hR
  unfold f_X7_weigh at h
  refine x_aloadA_n (pc := 0) hC dX7_weigh_0 rfl rfl k_110 (by decide) ?_
  refine x_aloadA_n (pc := 1) hC dX7_weigh_1 rfl rfl hl1 (by decide) ?_
  obtain ⟨M1, eM1, h⟩ := jlet_some h
  refine x_pr (pc := 2) (ji := 0) hC fl_X7_33 rfl ft7_0 k_110 dX7_weigh_2 eM1 ?_
  refine x_iconst (pc := 5) hC dX7_weigh_5 ?_
  refine x_istore_n (ls2 := [jA 110, jA l1, jI l2, jI 0]) (pc := 6) hC dX7_weigh_6 rfl (by decide) rfl rfl rfl ?_
  refine jlp2_ind (P := fun (l3_2 : Int) (M3 : jM) => jG C X n 4 0 0 7 [jA 110, jA l1, jI l2, jI l3_2] [] M3) ?_ _ _ _ h
  intro self4 l3_2 M3 Hself4 h
  refine x_iload_n (pc := 7) hC dX7_weigh_7 rfl rfl ?_
  refine x_aloadA_n (pc := 8) hC dX7_weigh_8 rfl rfl k_110 (by decide) ?_
  obtain ⟨v6, e5, h⟩ := jbR_some h
  refine x_cV (pc := 9) hC mv_X7_52 (ok_X7_skaters hn e5) rfl (Nat.le_of_ble_eq_true rfl) k_110 rfl (by decide) (jRo0 C) (Nat.le_of_ble_eq_true rfl) dX7_weigh_9 rfl ?_
  refine x_icmp_ge (tgt := 35) (pc := 12) hC dX7_weigh_12 (by decide) (fun hc => ?_) (fun hc => ?_)
  · replace h := jit_pos hc h
    exact x_vret (pc := 35) hC hR dX7_weigh_35 (jrR h)
  · replace h := jit_neg hc h
    refine x_aloadA_n (pc := 15) hC dX7_weigh_15 rfl rfl k_110 (by decide) ?_
    refine x_gf (pc := 16) (b := 111) hC fl_X7_11 ft7_1 k_110 (by decide) (off := 1) (by decide +kernel) (by decide) dX7_weigh_16 ?_
    refine x_iload_n (pc := 19) hC dX7_weigh_19 rfl rfl ?_
    obtain ⟨hb7, h⟩ := jck_some h
    refine x_aald15 (pc := 20) hC k_111 hb7 rfl dX7_weigh_20 ?_
    refine x_aloadA_n (pc := 21) hC dX7_weigh_21 rfl rfl hl1 (by decide) ?_
    refine x_iload_n (pc := 22) hC dX7_weigh_22 rfl rfl ?_
    refine x_iload_n (pc := 23) hC dX7_weigh_23 rfl rfl ?_
    refine x_bipush (pc := 24) hC dX7_weigh_24 rfl ?_
    obtain ⟨M9, e8, h⟩ := jbV_some h
    refine x_cV (pc := 26) hC mv_X7_56 (ok_X8_weigh hn (jta k_111 hb7.1 hb7.2) hl1 e8) rfl (Nat.le_of_ble_eq_true rfl) (jta k_111 hb7.1 hb7.2) rfl (by decide) (jRo0 C) (Nat.le_of_ble_eq_true rfl) dX7_weigh_26 rfl ?_
    obtain ⟨l3_10, el3_10, h⟩ := jlet_some h
    refine x_iinc (ls2 := [jA 110, jA l1, jI l2, jI l3_10]) (pc := 29) hC dX7_weigh_29 rfl (by decide) rfl el3_10 rfl ?_
    refine x_goto (tgt := 7) (pc := 32) hC dX7_weigh_32 (by decide) ?_
    exact Hself4 _ _ h

set_option maxHeartbeats 4000000 in
set_option maxRecDepth 20000 in
theorem ok_X7_judgeBy {X : jX} {n : Nat} (hn : 179 ≤ n) {l1 : Int} {M : jM} {Mz : jM} (h : f_X7_judgeBy l1 M = some Mz) : jCt X n yX7_judgeBy cX7_judgeBy 3 (none) 4 [jA 110, jI l1] M (none) Mz := by
  refine jCt_of (own := RX7) (ls := [jA 110, jI l1, jN]) (by decide +kernel) rfl hn (Nat.le_of_ble_eq_true rfl) rfl ?_
  intro C hC hR
  unfold f_X7_judgeBy at h
  refine x_iconst (pc := 0) hC dX7_judgeBy_0 ?_
  refine x_istore_n (ls2 := [jA 110, jI l1, jI 0]) (pc := 1) hC dX7_judgeBy_1 rfl (by decide) rfl rfl rfl ?_
  refine jlp2_ind (P := fun (l2_1 : Int) (M2 : jM) => jG C X n 3 0 0 2 [jA 110, jI l1, jI l2_1] [] M2) ?_ _ _ _ h
  intro self3 l2_1 M2 Hself3 h
  refine x_iload_n (pc := 2) hC dX7_judgeBy_2 rfl rfl ?_
  refine x_aloadA_n (pc := 3) hC dX7_judgeBy_3 rfl rfl k_110 (by decide) ?_
  obtain ⟨v5, e4, h⟩ := jbR_some h
  refine x_cV (pc := 4) hC mv_X7_52 (ok_X7_skaters hn e4) rfl (Nat.le_of_ble_eq_true rfl) k_110 rfl (by decide) (jRo0 C) (Nat.le_of_ble_eq_true rfl) dX7_judgeBy_4 rfl ?_
  refine x_icmp_ge (tgt := 26) (pc := 7) hC dX7_judgeBy_7 (by decide) (fun hc => ?_) (fun hc => ?_)
  · replace h := jit_pos hc h
    exact x_vret (pc := 26) hC hR dX7_judgeBy_26 (jrR h)
  · replace h := jit_neg hc h
    refine x_aloadA_n (pc := 10) hC dX7_judgeBy_10 rfl rfl k_110 (by decide) ?_
    refine x_gf (pc := 11) (b := 111) hC fl_X7_11 ft7_1 k_110 (by decide) (off := 1) (by decide +kernel) (by decide) dX7_judgeBy_11 ?_
    refine x_iload_n (pc := 14) hC dX7_judgeBy_14 rfl rfl ?_
    obtain ⟨hb6, h⟩ := jck_some h
    refine x_aald15 (pc := 15) hC k_111 hb6 rfl dX7_judgeBy_15 ?_
    refine x_iload_n (pc := 16) hC dX7_judgeBy_16 rfl rfl ?_
    obtain ⟨M8, e7, h⟩ := jbV_some h
    refine x_cV (pc := 17) hC mv_X7_60 (ok_X8_judgeBy hn (jta k_111 hb6.1 hb6.2) e7) rfl (Nat.le_of_ble_eq_true rfl) (jta k_111 hb6.1 hb6.2) rfl (by decide) (jRo0 C) (Nat.le_of_ble_eq_true rfl) dX7_judgeBy_17 rfl ?_
    obtain ⟨l2_9, el2_9, h⟩ := jlet_some h
    refine x_iinc (ls2 := [jA 110, jI l1, jI l2_9]) (pc := 20) hC dX7_judgeBy_20 rfl (by decide) rfl el2_9 rfl ?_
    refine x_goto (tgt := 2) (pc := 23) hC dX7_judgeBy_23 (by decide) ?_
    exact Hself3 _ _ h

set_option maxHeartbeats 4000000 in
set_option maxRecDepth 20000 in
theorem ok_X7_isAhead {X : jX} {n : Nat} (hn : 179 ≤ n) {l1 : Int} {l2 : Int} {M : jM} {rz : Int} (h : f_X7_isAhead l1 l2 M = some rz) : jCt X n yX7_isAhead cX7_isAhead 3 (some .boolean) 0 [jA 110, jI l1, jI l2] M (some (jI rz)) M := by
  refine jCt_of (own := RX7) (ls := [jA 110, jI l1, jI l2]) (by decide +kernel) rfl hn (Nat.le_of_ble_eq_true rfl) rfl ?_
  intro C hC hR
  unfold f_X7_isAhead at h
  refine x_aloadA_n (pc := 0) hC dX7_isAhead_0 rfl rfl k_110 (by decide) ?_
  refine x_gf (pc := 1) (b := 111) hC fl_X7_11 ft7_1 k_110 (by decide) (off := 1) (by decide +kernel) (by decide) dX7_isAhead_1 ?_
  refine x_iload_n (pc := 4) hC dX7_isAhead_4 rfl rfl ?_
  obtain ⟨hb1, h⟩ := jck_some h
  refine x_aald15 (pc := 5) hC k_111 hb1 rfl dX7_isAhead_5 ?_
  refine x_gi (pc := 6) (ji := 8) hC fl_X7_64 rfl fn8_8 (jta k_111 hb1.1 hb1.2) dX7_isAhead_6 ?_
  refine x_aloadA_n (pc := 9) hC dX7_isAhead_9 rfl rfl k_110 (by decide) ?_
  refine x_gf (pc := 10) (b := 111) hC fl_X7_11 ft7_1 k_110 (by decide) (off := 1) (by decide +kernel) (by decide) dX7_isAhead_10 ?_
  refine x_iload_n (pc := 13) hC dX7_isAhead_13 rfl rfl ?_
  obtain ⟨hb2, h⟩ := jck_some h
  refine x_aald15 (pc := 14) hC k_111 hb2 rfl dX7_isAhead_14 ?_
  refine x_gi (pc := 15) (ji := 8) hC fl_X7_64 rfl fn8_8 (jta k_111 hb2.1 hb2.2) dX7_isAhead_15 ?_
  refine x_icmp_eq (tgt := 48) (pc := 18) hC dX7_isAhead_18 (by decide) (fun hc => ?_) (fun hc => ?_)
  · replace h := jit_pos hc h
    refine x_aloadA_n (pc := 48) hC dX7_isAhead_48 rfl rfl k_110 (by decide) ?_
    refine x_gf (pc := 49) (b := 111) hC fl_X7_11 ft7_1 k_110 (by decide) (off := 1) (by decide +kernel) (by decide) dX7_isAhead_49 ?_
    refine x_iload_n (pc := 52) hC dX7_isAhead_52 rfl rfl ?_
    obtain ⟨hb3, h⟩ := jck_some h
    refine x_aald15 (pc := 53) hC k_111 hb3 rfl dX7_isAhead_53 ?_
    refine x_gi (pc := 54) (ji := 6) hC fl_X7_67 rfl fn8_6 (jta k_111 hb3.1 hb3.2) dX7_isAhead_54 ?_
    refine x_aloadA_n (pc := 57) hC dX7_isAhead_57 rfl rfl k_110 (by decide) ?_
    refine x_gf (pc := 58) (b := 111) hC fl_X7_11 ft7_1 k_110 (by decide) (off := 1) (by decide +kernel) (by decide) dX7_isAhead_58 ?_
    refine x_iload_n (pc := 61) hC dX7_isAhead_61 rfl rfl ?_
    obtain ⟨hb4, h⟩ := jck_some h
    refine x_aald15 (pc := 62) hC k_111 hb4 rfl dX7_isAhead_62 ?_
    refine x_gi (pc := 63) (ji := 6) hC fl_X7_67 rfl fn8_6 (jta k_111 hb4.1 hb4.2) dX7_isAhead_63 ?_
    refine x_icmp_eq (tgt := 96) (pc := 66) hC dX7_isAhead_66 (by decide) (fun hc => ?_) (fun hc => ?_)
    · replace h := jit_pos hc h
      refine x_iload_n (pc := 96) hC dX7_isAhead_96 rfl rfl ?_
      refine x_iload_n (pc := 97) hC dX7_isAhead_97 rfl rfl ?_
      refine x_icmp_ge (tgt := 105) (pc := 98) hC dX7_isAhead_98 (by decide) (fun hc => ?_) (fun hc => ?_)
      · replace h := jit_pos hc h
        refine x_iconst (pc := 105) hC dX7_isAhead_105 ?_
        exact x_zret (pc := 106) hC hR dX7_isAhead_106 (Or.inl jw0) (jrR h) rfl
      · replace h := jit_neg hc h
        refine x_iconst (pc := 101) hC dX7_isAhead_101 ?_
        refine x_goto (tgt := 106) (pc := 102) hC dX7_isAhead_102 (by decide) ?_
        exact x_zret (pc := 106) hC hR dX7_isAhead_106 (Or.inr jw1) (jrR h) rfl
    · replace h := jit_neg hc h
      refine x_aloadA_n (pc := 69) hC dX7_isAhead_69 rfl rfl k_110 (by decide) ?_
      refine x_gf (pc := 70) (b := 111) hC fl_X7_11 ft7_1 k_110 (by decide) (off := 1) (by decide +kernel) (by decide) dX7_isAhead_70 ?_
      refine x_iload_n (pc := 73) hC dX7_isAhead_73 rfl rfl ?_
      obtain ⟨hb5, h⟩ := jck_some h
      refine x_aald15 (pc := 74) hC k_111 hb5 rfl dX7_isAhead_74 ?_
      refine x_gi (pc := 75) (ji := 6) hC fl_X7_67 rfl fn8_6 (jta k_111 hb5.1 hb5.2) dX7_isAhead_75 ?_
      refine x_aloadA_n (pc := 78) hC dX7_isAhead_78 rfl rfl k_110 (by decide) ?_
      refine x_gf (pc := 79) (b := 111) hC fl_X7_11 ft7_1 k_110 (by decide) (off := 1) (by decide +kernel) (by decide) dX7_isAhead_79 ?_
      refine x_iload_n (pc := 82) hC dX7_isAhead_82 rfl rfl ?_
      obtain ⟨hb6, h⟩ := jck_some h
      refine x_aald15 (pc := 83) hC k_111 hb6 rfl dX7_isAhead_83 ?_
      refine x_gi (pc := 84) (ji := 6) hC fl_X7_67 rfl fn8_6 (jta k_111 hb6.1 hb6.2) dX7_isAhead_84 ?_
      refine x_icmp_le (tgt := 94) (pc := 87) hC dX7_isAhead_87 (by decide) (fun hc => ?_) (fun hc => ?_)
      · replace h := jit_pos hc h
        refine x_iconst (pc := 94) hC dX7_isAhead_94 ?_
        exact x_zret (pc := 95) hC hR dX7_isAhead_95 (Or.inl jw0) (jrR h) rfl
      · replace h := jit_neg hc h
        refine x_iconst (pc := 90) hC dX7_isAhead_90 ?_
        refine x_goto (tgt := 95) (pc := 91) hC dX7_isAhead_91 (by decide) ?_
        exact x_zret (pc := 95) hC hR dX7_isAhead_95 (Or.inr jw1) (jrR h) rfl
  · replace h := jit_neg hc h
    refine x_aloadA_n (pc := 21) hC dX7_isAhead_21 rfl rfl k_110 (by decide) ?_
    refine x_gf (pc := 22) (b := 111) hC fl_X7_11 ft7_1 k_110 (by decide) (off := 1) (by decide +kernel) (by decide) dX7_isAhead_22 ?_
    refine x_iload_n (pc := 25) hC dX7_isAhead_25 rfl rfl ?_
    obtain ⟨hb7, h⟩ := jck_some h
    refine x_aald15 (pc := 26) hC k_111 hb7 rfl dX7_isAhead_26 ?_
    refine x_gi (pc := 27) (ji := 8) hC fl_X7_64 rfl fn8_8 (jta k_111 hb7.1 hb7.2) dX7_isAhead_27 ?_
    refine x_aloadA_n (pc := 30) hC dX7_isAhead_30 rfl rfl k_110 (by decide) ?_
    refine x_gf (pc := 31) (b := 111) hC fl_X7_11 ft7_1 k_110 (by decide) (off := 1) (by decide +kernel) (by decide) dX7_isAhead_31 ?_
    refine x_iload_n (pc := 34) hC dX7_isAhead_34 rfl rfl ?_
    obtain ⟨hb8, h⟩ := jck_some h
    refine x_aald15 (pc := 35) hC k_111 hb8 rfl dX7_isAhead_35 ?_
    refine x_gi (pc := 36) (ji := 8) hC fl_X7_64 rfl fn8_8 (jta k_111 hb8.1 hb8.2) dX7_isAhead_36 ?_
    refine x_icmp_le (tgt := 46) (pc := 39) hC dX7_isAhead_39 (by decide) (fun hc => ?_) (fun hc => ?_)
    · replace h := jit_pos hc h
      refine x_iconst (pc := 46) hC dX7_isAhead_46 ?_
      exact x_zret (pc := 47) hC hR dX7_isAhead_47 (Or.inl jw0) (jrR h) rfl
    · replace h := jit_neg hc h
      refine x_iconst (pc := 42) hC dX7_isAhead_42 ?_
      refine x_goto (tgt := 47) (pc := 43) hC dX7_isAhead_43 (by decide) ?_
      exact x_zret (pc := 47) hC hR dX7_isAhead_47 (Or.inr jw1) (jrR h) rfl

set_option maxHeartbeats 4000000 in
set_option maxRecDepth 20000 in
theorem ok_X7_rankOf {X : jX} {n : Nat} (hn : 179 ≤ n) {l1 : Int} {M : jM} {rz : Int} (h : f_X7_rankOf l1 M = some rz) : jCt X n yX7_rankOf cX7_rankOf 4 (some .int) 1 [jA 110, jI l1] M (some (jI rz)) M := by
  refine jCt_of (own := RX7) (ls := [jA 110, jI l1, jN, jN]) (by decide +kernel) rfl hn (Nat.le_of_ble_eq_true rfl) rfl ?_
  intro C hC hR
  unfold f_X7_rankOf at h
  refine x_iconst (pc := 0) hC dX7_rankOf_0 ?_
  refine x_istore_n (ls2 := [jA 110, jI l1, jI 0, jN]) (pc := 1) hC dX7_rankOf_1 rfl (by decide) rfl rfl rfl ?_
  refine x_iconst (pc := 2) hC dX7_rankOf_2 ?_
  refine x_istore_n (ls2 := [jA 110, jI l1, jI 0, jI 0]) (pc := 3) hC dX7_rankOf_3 rfl (by decide) rfl rfl rfl ?_
  refine jlp2_ind (P := fun (l2_1 : Int) (l3_2 : Int) => jG C X n 4 0 0 4 [jA 110, jI l1, jI l2_1, jI l3_2] [] M) ?_ _ _ _ h
  intro self3 l2_1 l3_2 Hself3 h
  refine x_iload_n (pc := 4) hC dX7_rankOf_4 rfl rfl ?_
  refine x_aloadA_n (pc := 5) hC dX7_rankOf_5 rfl rfl k_110 (by decide) ?_
  obtain ⟨v5, e4, h⟩ := jbR_some h
  refine x_cV (pc := 6) hC mv_X7_52 (ok_X7_skaters hn e4) rfl (Nat.le_of_ble_eq_true rfl) k_110 rfl (by decide) (jRo0 C) (Nat.le_of_ble_eq_true rfl) dX7_rankOf_6 rfl ?_
  refine x_icmp_ge (tgt := 35) (pc := 9) hC dX7_rankOf_9 (by decide) (fun hc => ?_) (fun hc => ?_)
  · replace h := jit_pos hc h
    refine x_iload_n (pc := 35) hC dX7_rankOf_35 rfl rfl ?_
    exact x_iret (pc := 36) hC hR dX7_rankOf_36 (jrR h) rfl
  · replace h := jit_neg hc h
    refine x_iload_n (pc := 12) hC dX7_rankOf_12 rfl rfl ?_
    refine x_iload_n (pc := 13) hC dX7_rankOf_13 rfl rfl ?_
    refine x_icmp_eq (tgt := 29) (pc := 14) hC dX7_rankOf_14 (by decide) (fun hc => ?_) (fun hc => ?_)
    · replace h := jit_pos hc h
      obtain ⟨l3_6, el3_6, h⟩ := jlet_some h
      refine x_iinc (ls2 := [jA 110, jI l1, jI l2_1, jI l3_6]) (pc := 29) hC dX7_rankOf_29 rfl (by decide) rfl el3_6 rfl ?_
      refine x_goto (tgt := 4) (pc := 32) hC dX7_rankOf_32 (by decide) ?_
      exact Hself3 _ _ h
    · replace h := jit_neg hc h
      refine x_aloadA_n (pc := 17) hC dX7_rankOf_17 rfl rfl k_110 (by decide) ?_
      refine x_iload_n (pc := 18) hC dX7_rankOf_18 rfl rfl ?_
      refine x_iload_n (pc := 19) hC dX7_rankOf_19 rfl rfl ?_
      obtain ⟨v8, e7, h⟩ := jbR_some h
      refine x_cV (pc := 20) hC mv_X7_70 (ok_X7_isAhead hn e7) rfl (Nat.le_of_ble_eq_true rfl) k_110 rfl (by decide) (jRo0 C) (Nat.le_of_ble_eq_true rfl) dX7_rankOf_20 rfl ?_
      refine x_if_eq (tgt := 29) (pc := 23) hC dX7_rankOf_23 (by decide) (fun hc => ?_) (fun hc => ?_)
      · replace h := jit_pos hc h
        obtain ⟨l3_9, el3_9, h⟩ := jlet_some h
        refine x_iinc (ls2 := [jA 110, jI l1, jI l2_1, jI l3_9]) (pc := 29) hC dX7_rankOf_29 rfl (by decide) rfl el3_9 rfl ?_
        refine x_goto (tgt := 4) (pc := 32) hC dX7_rankOf_32 (by decide) ?_
        exact Hself3 _ _ h
      · replace h := jit_neg hc h
        obtain ⟨l2_10, el2_10, h⟩ := jlet_some h
        refine x_iinc (ls2 := [jA 110, jI l1, jI l2_10, jI l3_2]) (pc := 26) hC dX7_rankOf_26 rfl (by decide) rfl el2_10 rfl ?_
        obtain ⟨l3_11, el3_11, h⟩ := jlet_some h
        refine x_iinc (ls2 := [jA 110, jI l1, jI l2_10, jI l3_11]) (pc := 29) hC dX7_rankOf_29 rfl (by decide) rfl el3_11 rfl ?_
        refine x_goto (tgt := 4) (pc := 32) hC dX7_rankOf_32 (by decide) ?_
        exact Hself3 _ _ h

set_option maxHeartbeats 4000000 in
set_option maxRecDepth 20000 in
theorem ok_X7_skaterAt {X : jX} {n : Nat} (hn : 179 ≤ n) {l1 : Int} {M : jM} {rz : Int} (h : f_X7_skaterAt l1 M = some rz) : jCt X n yX7_skaterAt cX7_skaterAt 3 (some .int) 2 [jA 110, jI l1] M (some (jI rz)) M := by
  refine jCt_of (own := RX7) (ls := [jA 110, jI l1, jN]) (by decide +kernel) rfl hn (Nat.le_of_ble_eq_true rfl) rfl ?_
  intro C hC hR
  unfold f_X7_skaterAt at h
  refine x_iconst (pc := 0) hC dX7_skaterAt_0 ?_
  refine x_istore_n (ls2 := [jA 110, jI l1, jI 0]) (pc := 1) hC dX7_skaterAt_1 rfl (by decide) rfl rfl rfl ?_
  refine jlp1_ind (P := fun (l2_1 : Int) => jG C X n 3 0 0 2 [jA 110, jI l1, jI l2_1] [] M) ?_ _ _ h
  intro self2 l2_1 Hself2 h
  refine x_iload_n (pc := 2) hC dX7_skaterAt_2 rfl rfl ?_
  refine x_aloadA_n (pc := 3) hC dX7_skaterAt_3 rfl rfl k_110 (by decide) ?_
  obtain ⟨v4, e3, h⟩ := jbR_some h
  refine x_cV (pc := 4) hC mv_X7_52 (ok_X7_skaters hn e3) rfl (Nat.le_of_ble_eq_true rfl) k_110 rfl (by decide) (jRo0 C) (Nat.le_of_ble_eq_true rfl) dX7_skaterAt_4 rfl ?_
  refine x_icmp_ge (tgt := 27) (pc := 7) hC dX7_skaterAt_7 (by decide) (fun hc => ?_) (fun hc => ?_)
  · replace h := jit_pos hc h
    refine x_iconst (pc := 27) hC dX7_skaterAt_27 ?_
    exact x_iret (pc := 28) hC hR dX7_skaterAt_28 (jrR h) rfl
  · replace h := jit_neg hc h
    refine x_aloadA_n (pc := 10) hC dX7_skaterAt_10 rfl rfl k_110 (by decide) ?_
    refine x_iload_n (pc := 11) hC dX7_skaterAt_11 rfl rfl ?_
    obtain ⟨v6, e5, h⟩ := jbR_some h
    refine x_cV (pc := 12) hC mv_X7_74 (ok_X7_rankOf hn e5) rfl (Nat.le_of_ble_eq_true rfl) k_110 rfl (by decide) (jRo0 C) (Nat.le_of_ble_eq_true rfl) dX7_skaterAt_12 rfl ?_
    refine x_iload_n (pc := 15) hC dX7_skaterAt_15 rfl rfl ?_
    refine x_icmp_ne (tgt := 21) (pc := 16) hC dX7_skaterAt_16 (by decide) (fun hc => ?_) (fun hc => ?_)
    · replace h := jit_neg hc h
      obtain ⟨l2_7, el2_7, h⟩ := jlet_some h
      refine x_iinc (ls2 := [jA 110, jI l1, jI l2_7]) (pc := 21) hC dX7_skaterAt_21 rfl (by decide) rfl el2_7 rfl ?_
      refine x_goto (tgt := 2) (pc := 24) hC dX7_skaterAt_24 (by decide) ?_
      exact Hself2 _ h
    · replace h := jit_pos hc h
      refine x_iload_n (pc := 19) hC dX7_skaterAt_19 rfl rfl ?_
      exact x_iret (pc := 20) hC hR dX7_skaterAt_20 (jrR h) rfl

