/-! ===== the machine does what the functions say; by program ===== -/
set_option maxHeartbeats 4000000 in
set_option maxRecDepth 20000 in
theorem ok_X0_forget {X : jX} {n : Nat} (hn : 179 ≤ n) {M : jM} {Mz : jM} (h : f_X0_forget M = some Mz) : jCt X n yX0_forget cX0_forget 1 (none) 0 [jA 159] M (none) Mz := by
  refine jCt_of (own := RX0) (ls := [jA 159]) (by decide +kernel) rfl hn (Nat.le_of_ble_eq_true rfl) rfl ?_
  intro C hC hR
  unfold f_X0_forget at h
  refine x_aloadA_n (pc := 0) hC dX0_forget_0 rfl rfl k_159 (by decide) ?_
  refine x_iconst (pc := 1) hC dX0_forget_1 ?_
  obtain ⟨M1, eM1, h⟩ := jlet_some h
  refine x_pi (pc := 2) (ji := 0) hC fl_X0_9 rfl ft0_0 k_159 dX0_forget_2 eM1 ?_
  exact x_vret (pc := 5) hC hR dX0_forget_5 (jrR h)

set_option maxHeartbeats 4000000 in
set_option maxRecDepth 20000 in
theorem ok_J9_min_7cf53 {X : jX} {n : Nat} (hn : 179 ≤ n) {l0 : Int} {l1 : Int} {M : jM} {rz : Int} (h : f_J9_min_7cf53 l0 l1 = some rz) : jCt X n yJ9_min_7cf53 cJ9_min_7cf53 2 (some .int) 0 [jI l0, jI l1] M (some (jI rz)) M := by
  refine jCt_of (own := RJ9) (ls := [jI l0, jI l1]) (by decide +kernel) rfl hn (Nat.le_of_ble_eq_true rfl) rfl ?_
  intro C hC hR
  unfold f_J9_min_7cf53 at h
  refine x_iload_n (pc := 0) hC dJ9_min_7cf53_0 rfl rfl ?_
  refine x_iload_n (pc := 1) hC dJ9_min_7cf53_1 rfl rfl ?_
  refine x_icmp_gt (tgt := 9) (pc := 2) hC dJ9_min_7cf53_2 (by decide) (fun hc => ?_) (fun hc => ?_)
  · replace h := jit_pos hc h
    refine x_iload_n (pc := 9) hC dJ9_min_7cf53_9 rfl rfl ?_
    exact x_iret (pc := 10) hC hR dJ9_min_7cf53_10 (jrR h) rfl
  · replace h := jit_neg hc h
    refine x_iload_n (pc := 5) hC dJ9_min_7cf53_5 rfl rfl ?_
    refine x_goto (tgt := 10) (pc := 6) hC dJ9_min_7cf53_6 (by decide) ?_
    exact x_iret (pc := 10) hC hR dJ9_min_7cf53_10 (jrR h) rfl

set_option maxHeartbeats 4000000 in
set_option maxRecDepth 20000 in
theorem ok_X0_keep {X : jX} {n : Nat} (hn : 179 ≤ n) {l1 : Int} {l2 : Int} {l3 : Int} {l4 : Int} {M : jM} {Mz : jM} (h : f_X0_keep l1 l2 l3 l4 M = some Mz) : jCt X n yX0_keep cX0_keep 5 (none) 1 [jA 159, jI l1, jI l2, jI l3, jI l4] M (none) Mz := by
  refine jCt_of (own := RX0) (ls := [jA 159, jI l1, jI l2, jI l3, jI l4]) (by decide +kernel) rfl hn (Nat.le_of_ble_eq_true rfl) rfl ?_
  intro C hC hR
  unfold f_X0_keep at h
  refine x_aloadA_n (pc := 0) hC dX0_keep_0 rfl rfl k_159 (by decide) ?_
  refine x_gf (pc := 1) (b := 160) hC fl_X0_18 ft0_2 k_159 (by decide) (off := 1) (by decide +kernel) (by decide) dX0_keep_1 ?_
  refine x_aloadA_n (pc := 4) hC dX0_keep_4 rfl rfl k_159 (by decide) ?_
  refine x_gi (pc := 5) (ji := 1) hC fl_X0_15 rfl fn0_1 k_159 dX0_keep_5 ?_
  refine x_iload_n (pc := 8) hC dX0_keep_8 rfl rfl ?_
  obtain ⟨hb1, h⟩ := jck_some h
  obtain ⟨M2, eM2, h⟩ := jlet_some h
  refine x_iast (pc := 9) hC k_160 (by rw [l_160]; exact hb1) dX0_keep_9 eM2 ?_
  refine x_aloadA_n (pc := 10) hC dX0_keep_10 rfl rfl k_159 (by decide) ?_
  refine x_gf (pc := 11) (b := 161) hC fl_X0_22 ft0_3 k_159 (by decide) (off := 2) (by decide +kernel) (by decide) dX0_keep_11 ?_
  refine x_aloadA_n (pc := 14) hC dX0_keep_14 rfl rfl k_159 (by decide) ?_
  refine x_gi (pc := 15) (ji := 1) hC fl_X0_15 rfl fn0_1 k_159 dX0_keep_15 ?_
  refine x_iload_n (pc := 18) hC dX0_keep_18 rfl rfl ?_
  obtain ⟨hb3, h⟩ := jck_some h
  obtain ⟨M4, eM4, h⟩ := jlet_some h
  refine x_iast (pc := 19) hC k_161 (by rw [l_161]; exact hb3) dX0_keep_19 eM4 ?_
  refine x_aloadA_n (pc := 20) hC dX0_keep_20 rfl rfl k_159 (by decide) ?_
  refine x_gf (pc := 21) (b := 162) hC fl_X0_25 ft0_4 k_159 (by decide) (off := 3) (by decide +kernel) (by decide) dX0_keep_21 ?_
  refine x_aloadA_n (pc := 24) hC dX0_keep_24 rfl rfl k_159 (by decide) ?_
  refine x_gi (pc := 25) (ji := 1) hC fl_X0_15 rfl fn0_1 k_159 dX0_keep_25 ?_
  refine x_iload_n (pc := 28) hC dX0_keep_28 rfl rfl ?_
  obtain ⟨hb5, h⟩ := jck_some h
  obtain ⟨M6, eM6, h⟩ := jlet_some h
  refine x_iast (pc := 29) hC k_162 (by rw [l_162]; exact hb5) dX0_keep_29 eM6 ?_
  refine x_aloadA_n (pc := 30) hC dX0_keep_30 rfl rfl k_159 (by decide) ?_
  refine x_gf (pc := 31) (b := 163) hC fl_X0_28 ft0_5 k_159 (by decide) (off := 4) (by decide +kernel) (by decide) dX0_keep_31 ?_
  refine x_aloadA_n (pc := 34) hC dX0_keep_34 rfl rfl k_159 (by decide) ?_
  refine x_gi (pc := 35) (ji := 1) hC fl_X0_15 rfl fn0_1 k_159 dX0_keep_35 ?_
  refine x_iload (pc := 38) hC dX0_keep_38 rfl ?_
  obtain ⟨hb7, h⟩ := jck_some h
  obtain ⟨M8, eM8, h⟩ := jlet_some h
  refine x_iast (pc := 40) hC k_163 (by rw [l_163]; exact hb7) dX0_keep_40 eM8 ?_
  refine x_aloadA_n (pc := 41) hC dX0_keep_41 rfl rfl k_159 (by decide) ?_
  refine x_aloadA_n (pc := 42) hC dX0_keep_42 rfl rfl k_159 (by decide) ?_
  refine x_gi (pc := 43) (ji := 1) hC fl_X0_15 rfl fn0_1 k_159 dX0_keep_43 ?_
  refine x_iconst (pc := 46) hC dX0_keep_46 ?_
  refine x_iadd (pc := 47) hC dX0_keep_47 ?_
  refine x_bipush (pc := 48) hC dX0_keep_48 rfl ?_
  refine x_irem (pc := 50) hC dX0_keep_50 (by decide) ?_
  obtain ⟨M9, eM9, h⟩ := jlet_some h
  refine x_pi (pc := 51) (ji := 1) hC fl_X0_15 rfl ft0_1 k_159 dX0_keep_51 eM9 ?_
  refine x_aloadA_n (pc := 54) hC dX0_keep_54 rfl rfl k_159 (by decide) ?_
  refine x_aloadA_n (pc := 55) hC dX0_keep_55 rfl rfl k_159 (by decide) ?_
  refine x_gi (pc := 56) (ji := 0) hC fl_X0_9 rfl fn0_0 k_159 dX0_keep_56 ?_
  refine x_iconst (pc := 59) hC dX0_keep_59 ?_
  refine x_iadd (pc := 60) hC dX0_keep_60 ?_
  refine x_bipush (pc := 61) hC dX0_keep_61 rfl ?_
  obtain ⟨v11, e10, h⟩ := jbR_some h
  refine x_cS (pc := 63) hC ms_X0_31 (ok_J9_min_7cf53 hn e10) rfl (Nat.le_of_ble_eq_true rfl) (jRo0 C) (Nat.le_of_ble_eq_true rfl) dX0_keep_63 rfl ?_
  obtain ⟨M12, eM12, h⟩ := jlet_some h
  refine x_pi (pc := 66) (ji := 0) hC fl_X0_9 rfl ft0_0 k_159 dX0_keep_66 eM12 ?_
  exact x_vret (pc := 69) hC hR dX0_keep_69 (jrR h)

set_option maxHeartbeats 4000000 in
set_option maxRecDepth 20000 in
theorem ok_X0_takeBack {X : jX} {n : Nat} (hn : 179 ≤ n) {l1 : Int} {M : jM} {rz : Int} {Mz : jM} (hl1 : jkd l1 = 1) (h : f_X0_takeBack l1 M = some (rz, Mz)) : jCt X n yX0_takeBack cX0_takeBack 5 (some .boolean) 0 [jA 159, jA l1] M (some (jI rz)) Mz := by
  refine jCt_of (own := RX0) (ls := [jA 159, jA l1, jN, jN, jN]) (by decide +kernel) rfl hn (Nat.le_of_ble_eq_true rfl) rfl ?_
  intro C hC hR
  unfold f_X0_takeBack at h
  refine x_aloadA_n (pc := 0) hC dX0_takeBack_0 rfl rfl k_159 (by decide) ?_
  refine x_gi (pc := 1) (ji := 0) hC fl_X0_9 rfl fn0_0 k_159 dX0_takeBack_1 ?_
  refine x_if_ne (tgt := 9) (pc := 4) hC dX0_takeBack_4 (by decide) (fun hc => ?_) (fun hc => ?_)
  · replace h := jit_neg hc h
    refine x_aloadA_n (pc := 9) hC dX0_takeBack_9 rfl rfl k_159 (by decide) ?_
    refine x_dup (pc := 10) hC dX0_takeBack_10 (show (2 : Nat) ≠ 3 by decide) ?_
    refine x_gi (pc := 11) (ji := 0) hC fl_X0_9 rfl fn0_0 k_159 dX0_takeBack_11 ?_
    refine x_iconst (pc := 14) hC dX0_takeBack_14 ?_
    refine x_isub (pc := 15) hC dX0_takeBack_15 ?_
    obtain ⟨M1, eM1, h⟩ := jlet_some h
    refine x_pi (pc := 16) (ji := 0) hC fl_X0_9 rfl ft0_0 k_159 dX0_takeBack_16 eM1 ?_
    refine x_aloadA_n (pc := 19) hC dX0_takeBack_19 rfl rfl k_159 (by decide) ?_
    refine x_aloadA_n (pc := 20) hC dX0_takeBack_20 rfl rfl k_159 (by decide) ?_
    refine x_gi (pc := 21) (ji := 1) hC fl_X0_15 rfl fn0_1 k_159 dX0_takeBack_21 ?_
    refine x_bipush (pc := 24) hC dX0_takeBack_24 rfl ?_
    refine x_iadd (pc := 26) hC dX0_takeBack_26 ?_
    refine x_iconst (pc := 27) hC dX0_takeBack_27 ?_
    refine x_isub (pc := 28) hC dX0_takeBack_28 ?_
    refine x_bipush (pc := 29) hC dX0_takeBack_29 rfl ?_
    refine x_irem (pc := 31) hC dX0_takeBack_31 (by decide) ?_
    obtain ⟨M2, eM2, h⟩ := jlet_some h
    refine x_pi (pc := 32) (ji := 1) hC fl_X0_15 rfl ft0_1 k_159 dX0_takeBack_32 eM2 ?_
    refine x_aloadA_n (pc := 35) hC dX0_takeBack_35 rfl rfl hl1 (by decide) ?_
    refine x_gf (pc := 36) (b := (l1 + 16)) hC fl_X0_37 ft1_7 hl1 (by decide) (off := 16) (by decide +kernel) rfl dX0_takeBack_36 ?_
    refine x_aloadA_n (pc := 39) hC dX0_takeBack_39 rfl rfl k_159 (by decide) ?_
    refine x_gf (pc := 40) (b := 161) hC fl_X0_22 ft0_3 k_159 (by decide) (off := 2) (by decide +kernel) (by decide) dX0_takeBack_40 ?_
    refine x_aloadA_n (pc := 43) hC dX0_takeBack_43 rfl rfl k_159 (by decide) ?_
    refine x_gi (pc := 44) (ji := 1) hC fl_X0_15 rfl fn0_1 k_159 dX0_takeBack_44 ?_
    obtain ⟨hb3, h⟩ := jck_some h
    refine x_iald (pc := 47) hC k_161 (by rw [l_161]; exact hb3) dX0_takeBack_47 ?_
    obtain ⟨hb4, h⟩ := jck_some h
    refine x_aald14 (pc := 48) hC (ko1_7 hl1) hb4 rfl dX0_takeBack_48 ?_
    refine x_astoreA_n (ls2 := [jA 159, jA l1, jA ((l1 + 16) + 1 + 6 * jw (M2 161 (jw (M2 159 1)))), jN, jN]) (pc := 49) hC dX0_takeBack_49 rfl (by decide) rfl (jsk (ko1_7 hl1) hb4.1 hb4.2) (by decide) rfl ?_
    refine x_aloadA_n (pc := 50) hC dX0_takeBack_50 rfl rfl k_159 (by decide) ?_
    refine x_gf (pc := 51) (b := 162) hC fl_X0_25 ft0_4 k_159 (by decide) (off := 3) (by decide +kernel) (by decide) dX0_takeBack_51 ?_
    refine x_aloadA_n (pc := 54) hC dX0_takeBack_54 rfl rfl k_159 (by decide) ?_
    refine x_gi (pc := 55) (ji := 1) hC fl_X0_15 rfl fn0_1 k_159 dX0_takeBack_55 ?_
    obtain ⟨hb5, h⟩ := jck_some h
    refine x_iald (pc := 58) hC k_162 (by rw [l_162]; exact hb5) dX0_takeBack_58 ?_
    obtain ⟨l3_6, el3_6, h⟩ := jlet_some h
    refine x_istore_n (ls2 := [jA 159, jA l1, jA ((l1 + 16) + 1 + 6 * jw (M2 161 (jw (M2 159 1)))), jI l3_6, jN]) (pc := 59) hC dX0_takeBack_59 rfl (by decide) rfl el3_6 rfl ?_
    refine x_aloadA_n (pc := 60) hC dX0_takeBack_60 rfl rfl k_159 (by decide) ?_
    refine x_gf (pc := 61) (b := 163) hC fl_X0_28 ft0_5 k_159 (by decide) (off := 4) (by decide +kernel) (by decide) dX0_takeBack_61 ?_
    refine x_aloadA_n (pc := 64) hC dX0_takeBack_64 rfl rfl k_159 (by decide) ?_
    refine x_gi (pc := 65) (ji := 1) hC fl_X0_15 rfl fn0_1 k_159 dX0_takeBack_65 ?_
    obtain ⟨hb7, h⟩ := jck_some h
    refine x_iald (pc := 68) hC k_163 (by rw [l_163]; exact hb7) dX0_takeBack_68 ?_
    obtain ⟨l4_8, el4_8, h⟩ := jlet_some h
    refine x_istore (ls2 := [jA 159, jA l1, jA ((l1 + 16) + 1 + 6 * jw (M2 161 (jw (M2 159 1)))), jI l3_6, jI l4_8]) (pc := 69) hC dX0_takeBack_69 (by decide) rfl el4_8 rfl ?_
    refine x_aloadA_n (pc := 71) hC dX0_takeBack_71 rfl rfl k_159 (by decide) ?_
    refine x_gf (pc := 72) (b := 160) hC fl_X0_18 ft0_2 k_159 (by decide) (off := 1) (by decide +kernel) (by decide) dX0_takeBack_72 ?_
    refine x_aloadA_n (pc := 75) hC dX0_takeBack_75 rfl rfl k_159 (by decide) ?_
    refine x_gi (pc := 76) (ji := 1) hC fl_X0_15 rfl fn0_1 k_159 dX0_takeBack_76 ?_
    obtain ⟨hb9, h⟩ := jck_some h
    refine x_iald (pc := 79) hC k_160 (by rw [l_160]; exact hb9) dX0_takeBack_79 ?_
    rcases jit_or h with ⟨hc, h⟩ | ⟨hc, h⟩
    · refine x_tableOut (tgt := 156) (pc := 80) hC dX0_takeBack_80 hc (by decide) ?_
      refine x_aloadA_n (pc := 156) hC dX0_takeBack_156 rfl rfl (jsk (ko1_7 hl1) hb4.1 hb4.2) (by decide) ?_
      refine x_iload (pc := 157) hC dX0_takeBack_157 rfl ?_
      obtain ⟨M10, eM10, h⟩ := jlet_some h
      refine x_pi (pc := 159) (ji := 1) hC fl_X0_57 rfl ft6_1 (jsk (ko1_7 hl1) hb4.1 hb4.2) dX0_takeBack_159 eM10 ?_
      refine x_iconst (pc := 162) hC dX0_takeBack_162 ?_
      exact x_zret (pc := 163) hC hR dX0_takeBack_163 (Or.inr jw1) (jr1 h) (jr2 h)
    · rcases jit_or h with ⟨hq, h⟩ | ⟨hr0, h⟩
      · refine x_tableIn (tgt := 112) (off := 32) (pc := 80) hC dX0_takeBack_80 (by omega) (by omega) (by rw [hq]; rfl) (by decide) ?_
        refine x_aloadA_n (pc := 112) hC dX0_takeBack_112 rfl rfl (jsk (ko1_7 hl1) hb4.1 hb4.2) (by decide) ?_
        refine x_gf (pc := 113) (b := (((l1 + 16) + 1 + 6 * jw (M2 161 (jw (M2 159 1)))) + 5)) hC fl_X0_43 ft6_7 (jsk (ko1_7 hl1) hb4.1 hb4.2) (by decide) (off := 5) (by decide +kernel) rfl dX0_takeBack_113 ?_
        refine x_iload_n (pc := 116) hC dX0_takeBack_116 rfl rfl ?_
        refine x_iload (pc := 117) hC dX0_takeBack_117 rfl ?_
        obtain ⟨hb11, h⟩ := jck_some h
        obtain ⟨M12, eM12, h⟩ := jlet_some h
        refine x_iast (pc := 119) hC (ko6_7 (jsk (ko1_7 hl1) hb4.1 hb4.2)) (by rw [lo6_7 (jsk (ko1_7 hl1) hb4.1 hb4.2)]; exact hb11) dX0_takeBack_119 eM12 ?_
        refine x_goto (tgt := 162) (pc := 120) hC dX0_takeBack_120 (by decide) ?_
        refine x_iconst (pc := 162) hC dX0_takeBack_162 ?_
        exact x_zret (pc := 163) hC hR dX0_takeBack_163 (Or.inr jw1) (jr1 h) (jr2 h)
      · rcases jit_or h with ⟨hq, h⟩ | ⟨hr1, h⟩
        · refine x_tableIn (tgt := 123) (off := 43) (pc := 80) hC dX0_takeBack_80 (by omega) (by omega) (by rw [hq]; rfl) (by decide) ?_
          refine x_aloadA_n (pc := 123) hC dX0_takeBack_123 rfl rfl (jsk (ko1_7 hl1) hb4.1 hb4.2) (by decide) ?_
          refine x_gf (pc := 124) (b := (((l1 + 16) + 1 + 6 * jw (M2 161 (jw (M2 159 1)))) + 4)) hC fl_X0_48 ft6_6 (jsk (ko1_7 hl1) hb4.1 hb4.2) (by decide) (off := 4) (by decide +kernel) rfl dX0_takeBack_124 ?_
          refine x_iload_n (pc := 127) hC dX0_takeBack_127 rfl rfl ?_
          refine x_iload (pc := 128) hC dX0_takeBack_128 rfl ?_
          obtain ⟨hb13, h⟩ := jck_some h
          obtain ⟨M14, eM14, h⟩ := jlet_some h
          refine x_iast (pc := 130) hC (ko6_6 (jsk (ko1_7 hl1) hb4.1 hb4.2)) (by rw [lo6_6 (jsk (ko1_7 hl1) hb4.1 hb4.2)]; exact hb13) dX0_takeBack_130 eM14 ?_
          refine x_goto (tgt := 162) (pc := 131) hC dX0_takeBack_131 (by decide) ?_
          refine x_iconst (pc := 162) hC dX0_takeBack_162 ?_
          exact x_zret (pc := 163) hC hR dX0_takeBack_163 (Or.inr jw1) (jr1 h) (jr2 h)
        · rcases jit_or h with ⟨hq, h⟩ | ⟨hr2, h⟩
          · refine x_tableIn (tgt := 134) (off := 54) (pc := 80) hC dX0_takeBack_80 (by omega) (by omega) (by rw [hq]; rfl) (by decide) ?_
            refine x_aloadA_n (pc := 134) hC dX0_takeBack_134 rfl rfl hl1 (by decide) ?_
            refine x_gf (pc := 135) (b := (l1 + 5)) hC fl_X0_51 ft1_3 hl1 (by decide) (off := 5) (by decide +kernel) rfl dX0_takeBack_135 ?_
            refine x_iload_n (pc := 138) hC dX0_takeBack_138 rfl rfl ?_
            refine x_iload (pc := 139) hC dX0_takeBack_139 rfl ?_
            obtain ⟨hb15, h⟩ := jck_some h
            obtain ⟨M16, eM16, h⟩ := jlet_some h
            refine x_iast (pc := 141) hC (ko1_3 hl1) (by rw [lo1_3 hl1]; exact hb15) dX0_takeBack_141 eM16 ?_
            refine x_goto (tgt := 162) (pc := 142) hC dX0_takeBack_142 (by decide) ?_
            refine x_iconst (pc := 162) hC dX0_takeBack_162 ?_
            exact x_zret (pc := 163) hC hR dX0_takeBack_163 (Or.inr jw1) (jr1 h) (jr2 h)
          · have hq : jw (M2 160 (jw (M2 159 1))) = 3 := by omega
            refine x_tableIn (tgt := 145) (off := 65) (pc := 80) hC dX0_takeBack_80 (by omega) (by omega) (by rw [hq]; rfl) (by decide) ?_
            refine x_aloadA_n (pc := 145) hC dX0_takeBack_145 rfl rfl hl1 (by decide) ?_
            refine x_gf (pc := 146) (b := (l1 + 1)) hC fl_X0_54 ft1_1 hl1 (by decide) (off := 1) (by decide +kernel) rfl dX0_takeBack_146 ?_
            refine x_iload_n (pc := 149) hC dX0_takeBack_149 rfl rfl ?_
            refine x_iload (pc := 150) hC dX0_takeBack_150 rfl ?_
            obtain ⟨hb17, h⟩ := jck_some h
            obtain ⟨M18, eM18, h⟩ := jlet_some h
            refine x_iast (pc := 152) hC (ko1_1 hl1) (by rw [lo1_1 hl1]; exact hb17) dX0_takeBack_152 eM18 ?_
            refine x_goto (tgt := 162) (pc := 153) hC dX0_takeBack_153 (by decide) ?_
            refine x_iconst (pc := 162) hC dX0_takeBack_162 ?_
            exact x_zret (pc := 163) hC hR dX0_takeBack_163 (Or.inr jw1) (jr1 h) (jr2 h)
  · replace h := jit_pos hc h
    refine x_iconst (pc := 7) hC dX0_takeBack_7 ?_
    exact x_zret (pc := 8) hC hR dX0_takeBack_8 (Or.inl jw0) (jr1 h) (jr2 h)

set_option maxHeartbeats 4000000 in
set_option maxRecDepth 20000 in
theorem ok_X1_everyJudge {X : jX} {n : Nat} (hn : 179 ≤ n) {t : Int} {M : jM} {rz : Int} (ht : jkd t = 1) (h : f_X1_everyJudge t M = some rz) : jCt X n yX1_everyJudge cX1_everyJudge 1 (some .int) 0 [jA t] M (some (jI rz)) M := by
  refine jCt_of (own := RX1) (ls := [jA t]) (by decide +kernel) rfl hn (Nat.le_of_ble_eq_true rfl) rfl ?_
  intro C hC hR
  unfold f_X1_everyJudge at h
  refine x_iconst (pc := 0) hC dX1_everyJudge_0 ?_
  refine x_aloadA_n (pc := 1) hC dX1_everyJudge_1 rfl rfl ht (by decide) ?_
  refine x_gi (pc := 2) (ji := 0) hC fl_X1_9 rfl fn1_0 ht dX1_everyJudge_2 ?_
  refine x_ishl (pc := 5) hC dX1_everyJudge_5 ?_
  refine x_iconst (pc := 6) hC dX1_everyJudge_6 ?_
  refine x_isub (pc := 7) hC dX1_everyJudge_7 ?_
  exact x_iret (pc := 8) hC hR dX1_everyJudge_8 (jrR h) rfl

set_option maxHeartbeats 4000000 in
set_option maxRecDepth 20000 in
theorem ok_X2_forget {X : jX} {n : Nat} (hn : 179 ≤ n) {t : Int} {M : jM} {Mz : jM} (ht : jkd t = 2) (h : f_X2_forget t M = some Mz) : jCt X n yX2_forget cX2_forget 1 (none) 0 [jA t] M (none) Mz := by
  refine jCt_of (own := RX2) (ls := [jA t]) (by decide +kernel) rfl hn (Nat.le_of_ble_eq_true rfl) rfl ?_
  intro C hC hR
  unfold f_X2_forget at h
  refine x_aloadA_n (pc := 0) hC dX2_forget_0 rfl rfl ht (by decide) ?_
  refine x_iconst (pc := 1) hC dX2_forget_1 ?_
  obtain ⟨M1, eM1, h⟩ := jlet_some h
  refine x_pi (pc := 2) (ji := 3) hC fl_X2_9 rfl ft2_3 ht dX2_forget_2 eM1 ?_
  exact x_vret (pc := 5) hC hR dX2_forget_5 (jrR h)

set_option maxHeartbeats 4000000 in
set_option maxRecDepth 20000 in
theorem ok_X5_forget {X : jX} {n : Nat} (hn : 179 ≤ n) {t : Int} {M : jM} {Mz : jM} (ht : jkd t = 5) (h : f_X5_forget t M = some Mz) : jCt X n yX5_forget cX5_forget 1 (none) 0 [jA t] M (none) Mz := by
  refine jCt_of (own := RX5) (ls := [jA t]) (by decide +kernel) rfl hn (Nat.le_of_ble_eq_true rfl) rfl ?_
  intro C hC hR
  unfold f_X5_forget at h
  refine x_aloadA_n (pc := 0) hC dX5_forget_0 rfl rfl ht (by decide) ?_
  refine x_iconst (pc := 1) hC dX5_forget_1 ?_
  obtain ⟨M1, eM1, h⟩ := jlet_some h
  refine x_pi (pc := 2) (ji := 0) hC fl_X5_9 rfl ft5_0 ht dX5_forget_2 eM1 ?_
  refine x_aloadA_n (pc := 5) hC dX5_forget_5 rfl rfl ht (by decide) ?_
  refine x_iconst (pc := 6) hC dX5_forget_6 ?_
  obtain ⟨M2, eM2, h⟩ := jlet_some h
  refine x_pi (pc := 7) (ji := 1) hC fl_X5_15 rfl ft5_1 ht dX5_forget_7 eM2 ?_
  exact x_vret (pc := 10) hC hR dX5_forget_10 (jrR h)

set_option maxHeartbeats 4000000 in
set_option maxRecDepth 20000 in
theorem ok_J7_fill_53178 {X : jX} {n : Nat} (hn : 179 ≤ n) {l0 : Int} {l1 : Int} {M : jM} {Mz : jM} (hl0 : jkd l0 = 12) (h : f_J7_fill_53178 l0 l1 M = some Mz) : jCt X n yJ7_fill_53178 cJ7_fill_53178 4 (none) 0 [jA l0, jI l1] M (none) Mz := by
  refine jCt_of (own := RJ7) (ls := [jA l0, jI l1, jN, jN]) (by decide +kernel) rfl hn (Nat.le_of_ble_eq_true rfl) rfl ?_
  intro C hC hR
  unfold f_J7_fill_53178 at h
  refine x_iconst (pc := 0) hC dJ7_fill_53178_0 ?_
  refine x_istore_n (ls2 := [jA l0, jI l1, jI 0, jN]) (pc := 1) hC dJ7_fill_53178_1 rfl (by decide) rfl rfl rfl ?_
  refine x_aloadA_n (pc := 2) hC dJ7_fill_53178_2 rfl rfl hl0 (by decide) ?_
  refine x_alen (pc := 3) hC hl0 dJ7_fill_53178_3 ?_
  obtain ⟨l3_1, el3_1, h⟩ := jlet_some h
  refine x_istore_n (ls2 := [jA l0, jI l1, jI 0, jI l3_1]) (pc := 4) hC dJ7_fill_53178_4 rfl (by decide) rfl el3_1 rfl ?_
  refine jlp2_ind (P := fun (l2_2 : Int) (M3 : jM) => jG C X n 4 0 0 5 [jA l0, jI l1, jI l2_2, jI l3_1] [] M3) ?_ _ _ _ h
  intro self4 l2_2 M3 Hself4 h
  refine x_iload_n (pc := 5) hC dJ7_fill_53178_5 rfl rfl ?_
  refine x_iload_n (pc := 6) hC dJ7_fill_53178_6 rfl rfl ?_
  refine x_icmp_ge (tgt := 20) (pc := 7) hC dJ7_fill_53178_7 (by decide) (fun hc => ?_) (fun hc => ?_)
  · replace h := jit_pos hc h
    exact x_vret (pc := 20) hC hR dJ7_fill_53178_20 (jrR h)
  · replace h := jit_neg hc h
    refine x_aloadA_n (pc := 10) hC dJ7_fill_53178_10 rfl rfl hl0 (by decide) ?_
    refine x_iload_n (pc := 11) hC dJ7_fill_53178_11 rfl rfl ?_
    refine x_iload_n (pc := 12) hC dJ7_fill_53178_12 rfl rfl ?_
    obtain ⟨hb5, h⟩ := jck_some h
    obtain ⟨M6, eM6, h⟩ := jlet_some h
    refine x_iast (pc := 13) hC hl0 hb5 dJ7_fill_53178_13 eM6 ?_
    obtain ⟨l2_7, el2_7, h⟩ := jlet_some h
    refine x_iinc (ls2 := [jA l0, jI l1, jI l2_7, jI l3_1]) (pc := 14) hC dJ7_fill_53178_14 rfl (by decide) rfl el2_7 rfl ?_
    refine x_goto (tgt := 5) (pc := 17) hC dJ7_fill_53178_17 (by decide) ?_
    exact Hself4 _ _ h

set_option maxHeartbeats 4000000 in
set_option maxRecDepth 20000 in
theorem ok_X6_forget {X : jX} {n : Nat} (hn : 179 ≤ n) {t : Int} {M : jM} {Mz : jM} (ht : jkd t = 6) (h : f_X6_forget t M = some Mz) : jCt X n yX6_forget cX6_forget 1 (none) 1 [jA t] M (none) Mz := by
  refine jCt_of (own := RX6) (ls := [jA t]) (by decide +kernel) rfl hn (Nat.le_of_ble_eq_true rfl) rfl ?_
  intro C hC hR
  unfold f_X6_forget at h
  refine x_aloadA_n (pc := 0) hC dX6_forget_0 rfl rfl ht (by decide) ?_
  refine x_iconst (pc := 1) hC dX6_forget_1 ?_
  obtain ⟨M1, eM1, h⟩ := jlet_some h
  refine x_pi (pc := 2) (ji := 0) hC fl_X6_9 rfl ft6_0 ht dX6_forget_2 eM1 ?_
  refine x_aloadA_n (pc := 5) hC dX6_forget_5 rfl rfl ht (by decide) ?_
  refine x_iconst (pc := 6) hC dX6_forget_6 ?_
  obtain ⟨M2, eM2, h⟩ := jlet_some h
  refine x_pi (pc := 7) (ji := 1) hC fl_X6_15 rfl ft6_1 ht dX6_forget_7 eM2 ?_
  refine x_aloadA_n (pc := 10) hC dX6_forget_10 rfl rfl ht (by decide) ?_
  refine x_iconst (pc := 11) hC dX6_forget_11 ?_
  obtain ⟨M3, eM3, h⟩ := jlet_some h
  refine x_pi (pc := 12) (ji := 2) hC fl_X6_18 rfl ft6_2 ht dX6_forget_12 eM3 ?_
  refine x_aloadA_n (pc := 15) hC dX6_forget_15 rfl rfl ht (by decide) ?_
  refine x_gf (pc := 16) (b := (t + 5)) hC fl_X6_34 ft6_7 ht (by decide) (off := 5) (by decide +kernel) rfl dX6_forget_16 ?_
  refine x_iconst (pc := 19) hC dX6_forget_19 ?_
  obtain ⟨M5, e4, h⟩ := jbV_some h
  refine x_cS (pc := 20) hC ms_X6_37 (ok_J7_fill_53178 hn (ko6_7 ht) e4) rfl (Nat.le_of_ble_eq_true rfl) (jRo0 C) (Nat.le_of_ble_eq_true rfl) dX6_forget_20 rfl ?_
  exact x_vret (pc := 23) hC hR dX6_forget_23 (jrR h)

set_option maxHeartbeats 4000000 in
set_option maxRecDepth 20000 in
theorem ok_X1_forget {X : jX} {n : Nat} (hn : 179 ≤ n) {t : Int} {M : jM} {Mz : jM} (ht : jkd t = 1) (h : f_X1_forget t M = some Mz) : jCt X n yX1_forget cX1_forget 2 (none) 2 [jA t] M (none) Mz := by
  refine jCt_of (own := RX1) (ls := [jA t, jN]) (by decide +kernel) rfl hn (Nat.le_of_ble_eq_true rfl) rfl ?_
  intro C hC hR
  unfold f_X1_forget at h
  refine x_aloadA_n (pc := 0) hC dX1_forget_0 rfl rfl ht (by decide) ?_
  refine x_iconst (pc := 1) hC dX1_forget_1 ?_
  obtain ⟨M1, eM1, h⟩ := jlet_some h
  refine x_pi (pc := 2) (ji := 0) hC fl_X1_9 rfl ft1_0 ht dX1_forget_2 eM1 ?_
  refine x_gst (pc := 5) hC (k := 2) (by decide) sl_X1_50 dX1_forget_5 ?_
  refine x_iconst (pc := 8) hC dX1_forget_8 ?_
  refine x_aloadA_n (pc := 9) hC dX1_forget_9 rfl rfl ht (by decide) ?_
  refine x_gf (pc := 10) (b := (t + 1)) hC fl_X1_15 ft1_1 ht (by decide) (off := 1) (by decide +kernel) rfl dX1_forget_10 ?_
  refine x_iconst (pc := 13) hC dX1_forget_13 ?_
  refine x_bipush (pc := 14) hC dX1_forget_14 rfl ?_
  obtain ⟨M2, eM2, h⟩ := jlet_some h
  refine x_acT (pc := 16) hC ac_X1_53 (Nat.le_of_ble_eq_true rfl) (Nat.le_of_ble_eq_true rfl) (kk := 2) (by decide) (ko1_1 ht) (lo1_1 ht) dX1_forget_16 eM2 ?_
  refine x_aloadA_n (pc := 19) hC dX1_forget_19 rfl rfl ht (by decide) ?_
  refine x_gf (pc := 20) (b := (t + 2)) hC fl_X1_24 ft1_2 ht (by decide) (off := 2) (by decide +kernel) rfl dX1_forget_20 ?_
  obtain ⟨M4, e3, h⟩ := jbV_some h
  refine x_cV (pc := 23) hC mv_X1_60 (ok_X2_forget hn (ko1_2 ht) e3) rfl (Nat.le_of_ble_eq_true rfl) (ko1_2 ht) rfl (by decide) (jRo0 C) (Nat.le_of_ble_eq_true rfl) dX1_forget_23 rfl ?_
  refine x_aloadA_n (pc := 26) hC dX1_forget_26 rfl rfl ht (by decide) ?_
  refine x_gf (pc := 27) (b := (t + 7)) hC fl_X1_37 ft1_5 ht (by decide) (off := 7) (by decide +kernel) rfl dX1_forget_27 ?_
  obtain ⟨M6, e5, h⟩ := jbV_some h
  refine x_cV (pc := 30) hC mv_X1_63 (ok_X5_forget hn (ko1_5 ht) e5) rfl (Nat.le_of_ble_eq_true rfl) (ko1_5 ht) rfl (by decide) (jRo0 C) (Nat.le_of_ble_eq_true rfl) dX1_forget_30 rfl ?_
  refine x_aloadA_n (pc := 33) hC dX1_forget_33 rfl rfl ht (by decide) ?_
  refine x_gf (pc := 34) (b := (t + 13)) hC fl_X1_41 ft1_6 ht (by decide) (off := 13) (by decide +kernel) rfl dX1_forget_34 ?_
  obtain ⟨M8, e7, h⟩ := jbV_some h
  refine x_cV (pc := 37) hC mv_X1_60 (ok_X2_forget hn (ko1_6 ht) e7) rfl (Nat.le_of_ble_eq_true rfl) (ko1_6 ht) rfl (by decide) (jRo0 C) (Nat.le_of_ble_eq_true rfl) dX1_forget_37 rfl ?_
  refine x_iconst (pc := 40) hC dX1_forget_40 ?_
  refine x_istore_n (ls2 := [jA t, jI 0]) (pc := 41) hC dX1_forget_41 rfl (by decide) rfl rfl rfl ?_
  refine jlp2_ind (P := fun (l1_9 : Int) (M10 : jM) => jG C X n 2 0 0 42 [jA t, jI l1_9] [] M10) ?_ _ _ _ h
  intro self11 l1_9 M10 Hself11 h
  refine x_iload_n (pc := 42) hC dX1_forget_42 rfl rfl ?_
  refine x_bipush (pc := 43) hC dX1_forget_43 rfl ?_
  refine x_icmp_ge (tgt := 63) (pc := 45) hC dX1_forget_45 (by decide) (fun hc => ?_) (fun hc => ?_)
  · replace h := jit_pos hc h
    exact x_vret (pc := 63) hC hR dX1_forget_63 (jrR h)
  · replace h := jit_neg hc h
    refine x_aloadA_n (pc := 48) hC dX1_forget_48 rfl rfl ht (by decide) ?_
    refine x_gf (pc := 49) (b := (t + 16)) hC fl_X1_46 ft1_7 ht (by decide) (off := 16) (by decide +kernel) rfl dX1_forget_49 ?_
    refine x_iload_n (pc := 52) hC dX1_forget_52 rfl rfl ?_
    obtain ⟨hb12, h⟩ := jck_some h
    refine x_aald14 (pc := 53) hC (ko1_7 ht) hb12 rfl dX1_forget_53 ?_
    obtain ⟨M14, e13, h⟩ := jbV_some h
    refine x_cV (pc := 54) hC mv_X1_64 (ok_X6_forget hn (jsk (ko1_7 ht) hb12.1 hb12.2) e13) rfl (Nat.le_of_ble_eq_true rfl) (jsk (ko1_7 ht) hb12.1 hb12.2) rfl (by decide) (jRo0 C) (Nat.le_of_ble_eq_true rfl) dX1_forget_54 rfl ?_
    obtain ⟨l1_15, el1_15, h⟩ := jlet_some h
    refine x_iinc (ls2 := [jA t, jI l1_15]) (pc := 57) hC dX1_forget_57 rfl (by decide) rfl el1_15 rfl ?_
    refine x_goto (tgt := 42) (pc := 60) hC dX1_forget_60 (by decide) ?_
    exact Hself11 _ _ h

set_option maxHeartbeats 4000000 in
set_option maxRecDepth 20000 in
theorem ok_X2_isFull {X : jX} {n : Nat} (hn : 179 ≤ n) {t : Int} {M : jM} {rz : Int} (ht : jkd t = 2) (h : f_X2_isFull t M = some rz) : jCt X n yX2_isFull cX2_isFull 1 (some .boolean) 0 [jA t] M (some (jI rz)) M := by
  refine jCt_of (own := RX2) (ls := [jA t]) (by decide +kernel) rfl hn (Nat.le_of_ble_eq_true rfl) rfl ?_
  intro C hC hR
  unfold f_X2_isFull at h
  refine x_aloadA_n (pc := 0) hC dX2_isFull_0 rfl rfl ht (by decide) ?_
  refine x_gi (pc := 1) (ji := 3) hC fl_X2_9 rfl fn2_3 ht dX2_isFull_1 ?_
  refine x_aloadA_n (pc := 4) hC dX2_isFull_4 rfl rfl ht (by decide) ?_
  refine x_gi (pc := 5) (ji := 0) hC fl_X2_15 rfl fn2_0 ht dX2_isFull_5 ?_
  refine x_icmp_lt (tgt := 15) (pc := 8) hC dX2_isFull_8 (by decide) (fun hc => ?_) (fun hc => ?_)
  · replace h := jit_pos hc h
    refine x_iconst (pc := 15) hC dX2_isFull_15 ?_
    exact x_zret (pc := 16) hC hR dX2_isFull_16 (Or.inl jw0) (jrR h) rfl
  · replace h := jit_neg hc h
    refine x_iconst (pc := 11) hC dX2_isFull_11 ?_
    refine x_goto (tgt := 16) (pc := 12) hC dX2_isFull_12 (by decide) ?_
    exact x_zret (pc := 16) hC hR dX2_isFull_16 (Or.inr jw1) (jrR h) rfl

set_option maxHeartbeats 4000000 in
set_option maxRecDepth 20000 in
theorem ok_X2_add {X : jX} {n : Nat} (hn : 179 ≤ n) {t : Int} {l1 : Int} {l2 : Int} {l3 : Int} {M : jM} {Mz : jM} (ht : jkd t = 2) (hl1 : jkd l1 = 12) (h : f_X2_add t l1 l2 l3 M = some Mz) : jCt X n yX2_add cX2_add 4 (none) 2 [jA t, jA l1, jI l2, jI l3] M (none) Mz := by
  refine jCt_of (own := RX2) (ls := [jA t, jA l1, jI l2, jI l3]) (by decide +kernel) rfl hn (Nat.le_of_ble_eq_true rfl) rfl ?_
  intro C hC hR
  unfold f_X2_add at h
  refine x_aloadA_n (pc := 0) hC dX2_add_0 rfl rfl ht (by decide) ?_
  obtain ⟨v2, e1, h⟩ := jbR_some h
  refine x_cV (pc := 1) hC mv_X2_25 (ok_X2_isFull hn ht e1) rfl (Nat.le_of_ble_eq_true rfl) ht rfl (by decide) (jRo0 C) (Nat.le_of_ble_eq_true rfl) dX2_add_1 rfl ?_
  refine x_if_ne (tgt := 13) (pc := 4) hC dX2_add_4 (by decide) (fun hc => ?_) (fun hc => ?_)
  · replace h := jit_neg hc h
    exact x_vret (pc := 13) hC hR dX2_add_13 (jrR h)
  · replace h := jit_pos hc h
    refine x_iload_n (pc := 7) hC dX2_add_7 rfl rfl ?_
    refine x_bipush (pc := 8) hC dX2_add_8 rfl ?_
    refine x_icmp_le (tgt := 14) (pc := 10) hC dX2_add_10 (by decide) (fun hc => ?_) (fun hc => ?_)
    · replace h := jit_pos hc h
      refine x_aloadA_n (pc := 14) hC dX2_add_14 rfl rfl hl1 (by decide) ?_
      refine x_iload_n (pc := 15) hC dX2_add_15 rfl rfl ?_
      refine x_aloadA_n (pc := 16) hC dX2_add_16 rfl rfl ht (by decide) ?_
      refine x_gf (pc := 17) (b := (t + 1)) hC fl_X2_18 ft2_1 ht (by decide) (off := 1) (by decide +kernel) rfl dX2_add_17 ?_
      refine x_aloadA_n (pc := 20) hC dX2_add_20 rfl rfl ht (by decide) ?_
      refine x_gi (pc := 21) (ji := 3) hC fl_X2_9 rfl fn2_3 ht dX2_add_21 ?_
      refine x_bipush (pc := 24) hC dX2_add_24 rfl ?_
      refine x_imul (pc := 26) hC dX2_add_26 ?_
      refine x_iload_n (pc := 27) hC dX2_add_27 rfl rfl ?_
      obtain ⟨hb7, h⟩ := jck_some h
      obtain ⟨M3, eM3, h⟩ := jlet_some h
      refine x_acA (pc := 28) hC ac_X2_29 (Nat.le_of_ble_eq_true rfl) (Nat.le_of_ble_eq_true rfl) hl1 (ko2_1 ht) hb7.1 hb7.2.1 hb7.2.2.1 hb7.2.2.2.1 hb7.2.2.2.2 dX2_add_28 eM3 ?_
      refine x_aloadA_n (pc := 31) hC dX2_add_31 rfl rfl ht (by decide) ?_
      refine x_gf (pc := 32) (b := (t + 2)) hC fl_X2_22 ft2_2 ht (by decide) (off := 2) (by decide +kernel) rfl dX2_add_32 ?_
      refine x_aloadA_n (pc := 35) hC dX2_add_35 rfl rfl ht (by decide) ?_
      refine x_gi (pc := 36) (ji := 3) hC fl_X2_9 rfl fn2_3 ht dX2_add_36 ?_
      refine x_iload_n (pc := 39) hC dX2_add_39 rfl rfl ?_
      obtain ⟨hb4, h⟩ := jck_some h
      obtain ⟨M5, eM5, h⟩ := jlet_some h
      refine x_iast (pc := 40) hC (ko2_2 ht) hb4 dX2_add_40 eM5 ?_
      refine x_aloadA_n (pc := 41) hC dX2_add_41 rfl rfl ht (by decide) ?_
      refine x_dup (pc := 42) hC dX2_add_42 (show (2 : Nat) ≠ 3 by decide) ?_
      refine x_gi (pc := 43) (ji := 3) hC fl_X2_9 rfl fn2_3 ht dX2_add_43 ?_
      refine x_iconst (pc := 46) hC dX2_add_46 ?_
      refine x_iadd (pc := 47) hC dX2_add_47 ?_
      obtain ⟨M6, eM6, h⟩ := jlet_some h
      refine x_pi (pc := 48) (ji := 3) hC fl_X2_9 rfl ft2_3 ht dX2_add_48 eM6 ?_
      exact x_vret (pc := 51) hC hR dX2_add_51 (jrR h)
    · replace h := jit_neg hc h
      exact x_vret (pc := 13) hC hR dX2_add_13 (jrR h)

set_option maxHeartbeats 4000000 in
set_option maxRecDepth 20000 in
theorem ok_X2_isLike {X : jX} {n : Nat} (hn : 179 ≤ n) {t : Int} {l1 : Int} {l2 : Int} {l3 : Int} {M : jM} {rz : Int} (ht : jkd t = 2) (hl2 : jkd l2 = 12) (h : f_X2_isLike t l1 l2 l3 M = some rz) : jCt X n yX2_isLike cX2_isLike 5 (some .boolean) 0 [jA t, jI l1, jA l2, jI l3] M (some (jI rz)) M := by
  refine jCt_of (own := RX2) (ls := [jA t, jI l1, jA l2, jI l3, jN]) (by decide +kernel) rfl hn (Nat.le_of_ble_eq_true rfl) rfl ?_
  intro C hC hR
  unfold f_X2_isLike at h
  refine x_iconst (pc := 0) hC dX2_isLike_0 ?_
  refine x_istore (ls2 := [jA t, jI l1, jA l2, jI l3, jI 0]) (pc := 1) hC dX2_isLike_1 (by decide) rfl rfl rfl ?_
  refine jlp1_ind (P := fun (l4_1 : Int) => jG C X n 5 0 0 3 [jA t, jI l1, jA l2, jI l3, jI l4_1] [] M) ?_ _ _ h
  intro self2 l4_1 Hself2 h
  refine x_iload (pc := 3) hC dX2_isLike_3 rfl ?_
  refine x_aloadA_n (pc := 5) hC dX2_isLike_5 rfl rfl ht (by decide) ?_
  refine x_gf (pc := 6) (b := (t + 2)) hC fl_X2_22 ft2_2 ht (by decide) (off := 2) (by decide +kernel) rfl dX2_isLike_6 ?_
  refine x_iload_n (pc := 9) hC dX2_isLike_9 rfl rfl ?_
  obtain ⟨hb3, h⟩ := jck_some h
  refine x_iald (pc := 10) hC (ko2_2 ht) hb3 dX2_isLike_10 ?_
  refine x_icmp_ge (tgt := 43) (pc := 11) hC dX2_isLike_11 (by decide) (fun hc => ?_) (fun hc => ?_)
  · replace h := jit_pos hc h
    refine x_iconst (pc := 43) hC dX2_isLike_43 ?_
    exact x_zret (pc := 44) hC hR dX2_isLike_44 (Or.inr jw1) (jrR h) rfl
  · replace h := jit_neg hc h
    refine x_aloadA_n (pc := 14) hC dX2_isLike_14 rfl rfl ht (by decide) ?_
    refine x_gf (pc := 15) (b := (t + 1)) hC fl_X2_18 ft2_1 ht (by decide) (off := 1) (by decide +kernel) rfl dX2_isLike_15 ?_
    refine x_iload_n (pc := 18) hC dX2_isLike_18 rfl rfl ?_
    refine x_bipush (pc := 19) hC dX2_isLike_19 rfl ?_
    refine x_imul (pc := 21) hC dX2_isLike_21 ?_
    refine x_iload (pc := 22) hC dX2_isLike_22 rfl ?_
    refine x_iadd (pc := 24) hC dX2_isLike_24 ?_
    obtain ⟨hb4, h⟩ := jck_some h
    refine x_iald (pc := 25) hC (ko2_1 ht) hb4 dX2_isLike_25 ?_
    refine x_aloadA_n (pc := 26) hC dX2_isLike_26 rfl rfl hl2 (by decide) ?_
    refine x_iload_n (pc := 27) hC dX2_isLike_27 rfl rfl ?_
    refine x_iload (pc := 28) hC dX2_isLike_28 rfl ?_
    refine x_iadd (pc := 30) hC dX2_isLike_30 ?_
    obtain ⟨hb5, h⟩ := jck_some h
    refine x_iald (pc := 31) hC hl2 hb5 dX2_isLike_31 ?_
    refine x_icmp_eq (tgt := 37) (pc := 32) hC dX2_isLike_32 (by decide) (fun hc => ?_) (fun hc => ?_)
    · replace h := jit_pos hc h
      obtain ⟨l4_6, el4_6, h⟩ := jlet_some h
      refine x_iinc (ls2 := [jA t, jI l1, jA l2, jI l3, jI l4_6]) (pc := 37) hC dX2_isLike_37 rfl (by decide) rfl el4_6 rfl ?_
      refine x_goto (tgt := 3) (pc := 40) hC dX2_isLike_40 (by decide) ?_
      exact Hself2 _ h
    · replace h := jit_neg hc h
      refine x_iconst (pc := 35) hC dX2_isLike_35 ?_
      exact x_zret (pc := 36) hC hR dX2_isLike_36 (Or.inl jw0) (jrR h) rfl

set_option maxHeartbeats 4000000 in
set_option maxRecDepth 20000 in
theorem ok_X2_find {X : jX} {n : Nat} (hn : 179 ≤ n) {t : Int} {l1 : Int} {l2 : Int} {l3 : Int} {M : jM} {rz : Int} (ht : jkd t = 2) (hl1 : jkd l1 = 12) (h : f_X2_find t l1 l2 l3 M = some rz) : jCt X n yX2_find cX2_find 5 (some .int) 1 [jA t, jA l1, jI l2, jI l3] M (some (jI rz)) M := by
  refine jCt_of (own := RX2) (ls := [jA t, jA l1, jI l2, jI l3, jN]) (by decide +kernel) rfl hn (Nat.le_of_ble_eq_true rfl) rfl ?_
  intro C hC hR
  unfold f_X2_find at h
  refine x_iconst (pc := 0) hC dX2_find_0 ?_
  refine x_istore (ls2 := [jA t, jA l1, jI l2, jI l3, jI 0]) (pc := 1) hC dX2_find_1 (by decide) rfl rfl rfl ?_
  refine jlp1_ind (P := fun (l4_1 : Int) => jG C X n 5 0 0 3 [jA t, jA l1, jI l2, jI l3, jI l4_1] [] M) ?_ _ _ h
  intro self2 l4_1 Hself2 h
  refine x_iload (pc := 3) hC dX2_find_3 rfl ?_
  refine x_aloadA_n (pc := 5) hC dX2_find_5 rfl rfl ht (by decide) ?_
  refine x_gi (pc := 6) (ji := 3) hC fl_X2_9 rfl fn2_3 ht dX2_find_6 ?_
  refine x_icmp_ge (tgt := 43) (pc := 9) hC dX2_find_9 (by decide) (fun hc => ?_) (fun hc => ?_)
  · replace h := jit_pos hc h
    refine x_iconst (pc := 43) hC dX2_find_43 ?_
    exact x_iret (pc := 44) hC hR dX2_find_44 (jrR h) rfl
  · replace h := jit_neg hc h
    refine x_aloadA_n (pc := 12) hC dX2_find_12 rfl rfl ht (by decide) ?_
    refine x_gf (pc := 13) (b := (t + 2)) hC fl_X2_22 ft2_2 ht (by decide) (off := 2) (by decide +kernel) rfl dX2_find_13 ?_
    refine x_iload (pc := 16) hC dX2_find_16 rfl ?_
    obtain ⟨hb3, h⟩ := jck_some h
    refine x_iald (pc := 18) hC (ko2_2 ht) hb3 dX2_find_18 ?_
    refine x_iload_n (pc := 19) hC dX2_find_19 rfl rfl ?_
    refine x_icmp_ne (tgt := 37) (pc := 20) hC dX2_find_20 (by decide) (fun hc => ?_) (fun hc => ?_)
    · replace h := jit_neg hc h
      obtain ⟨l4_4, el4_4, h⟩ := jlet_some h
      refine x_iinc (ls2 := [jA t, jA l1, jI l2, jI l3, jI l4_4]) (pc := 37) hC dX2_find_37 rfl (by decide) rfl el4_4 rfl ?_
      refine x_goto (tgt := 3) (pc := 40) hC dX2_find_40 (by decide) ?_
      exact Hself2 _ h
    · replace h := jit_pos hc h
      refine x_aloadA_n (pc := 23) hC dX2_find_23 rfl rfl ht (by decide) ?_
      refine x_iload (pc := 24) hC dX2_find_24 rfl ?_
      refine x_aloadA_n (pc := 26) hC dX2_find_26 rfl rfl hl1 (by decide) ?_
      refine x_iload_n (pc := 27) hC dX2_find_27 rfl rfl ?_
      obtain ⟨v6, e5, h⟩ := jbR_some h
      refine x_cV (pc := 28) hC mv_X2_35 (ok_X2_isLike hn ht hl1 e5) rfl (Nat.le_of_ble_eq_true rfl) ht rfl (by decide) (jRo0 C) (Nat.le_of_ble_eq_true rfl) dX2_find_28 rfl ?_
      refine x_if_eq (tgt := 37) (pc := 31) hC dX2_find_31 (by decide) (fun hc => ?_) (fun hc => ?_)
      · replace h := jit_pos hc h
        obtain ⟨l4_7, el4_7, h⟩ := jlet_some h
        refine x_iinc (ls2 := [jA t, jA l1, jI l2, jI l3, jI l4_7]) (pc := 37) hC dX2_find_37 rfl (by decide) rfl el4_7 rfl ?_
        refine x_goto (tgt := 3) (pc := 40) hC dX2_find_40 (by decide) ?_
        exact Hself2 _ h
      · replace h := jit_neg hc h
        refine x_iload (pc := 34) hC dX2_find_34 rfl ?_
        exact x_iret (pc := 36) hC hR dX2_find_36 (jrR h) rfl

set_option maxHeartbeats 4000000 in
set_option maxRecDepth 20000 in
theorem ok_X2_letter {X : jX} {n : Nat} (hn : 179 ≤ n) {t : Int} {l1 : Int} {l2 : Int} {M : jM} {rz : Int} (ht : jkd t = 2) (h : f_X2_letter t l1 l2 M = some rz) : jCt X n yX2_letter cX2_letter 3 (some .int) 0 [jA t, jI l1, jI l2] M (some (jI rz)) M := by
  refine jCt_of (own := RX2) (ls := [jA t, jI l1, jI l2]) (by decide +kernel) rfl hn (Nat.le_of_ble_eq_true rfl) rfl ?_
  intro C hC hR
  unfold f_X2_letter at h
  refine x_iload_n (pc := 0) hC dX2_letter_0 rfl rfl ?_
  refine x_if_lt (tgt := 28) (pc := 1) hC dX2_letter_1 (by decide) (fun hc => ?_) (fun hc => ?_)
  · replace h := jit_pos hc h
    refine x_iconst (pc := 28) hC dX2_letter_28 ?_
    exact x_iret (pc := 29) hC hR dX2_letter_29 (jrR h) rfl
  · replace h := jit_neg hc h
    refine x_iload_n (pc := 4) hC dX2_letter_4 rfl rfl ?_
    refine x_aloadA_n (pc := 5) hC dX2_letter_5 rfl rfl ht (by decide) ?_
    refine x_gf (pc := 6) (b := (t + 2)) hC fl_X2_22 ft2_2 ht (by decide) (off := 2) (by decide +kernel) rfl dX2_letter_6 ?_
    refine x_iload_n (pc := 9) hC dX2_letter_9 rfl rfl ?_
    obtain ⟨hb1, h⟩ := jck_some h
    refine x_iald (pc := 10) hC (ko2_2 ht) hb1 dX2_letter_10 ?_
    refine x_icmp_ge (tgt := 28) (pc := 11) hC dX2_letter_11 (by decide) (fun hc => ?_) (fun hc => ?_)
    · replace h := jit_pos hc h
      refine x_iconst (pc := 28) hC dX2_letter_28 ?_
      exact x_iret (pc := 29) hC hR dX2_letter_29 (jrR h) rfl
    · replace h := jit_neg hc h
      refine x_aloadA_n (pc := 14) hC dX2_letter_14 rfl rfl ht (by decide) ?_
      refine x_gf (pc := 15) (b := (t + 1)) hC fl_X2_18 ft2_1 ht (by decide) (off := 1) (by decide +kernel) rfl dX2_letter_15 ?_
      refine x_iload_n (pc := 18) hC dX2_letter_18 rfl rfl ?_
      refine x_bipush (pc := 19) hC dX2_letter_19 rfl ?_
      refine x_imul (pc := 21) hC dX2_letter_21 ?_
      refine x_iload_n (pc := 22) hC dX2_letter_22 rfl rfl ?_
      refine x_iadd (pc := 23) hC dX2_letter_23 ?_
      obtain ⟨hb2, h⟩ := jck_some h
      refine x_iald (pc := 24) hC (ko2_1 ht) hb2 dX2_letter_24 ?_
      refine x_goto (tgt := 29) (pc := 25) hC dX2_letter_25 (by decide) ?_
      exact x_iret (pc := 29) hC hR dX2_letter_29 (jrR h) rfl

set_option maxHeartbeats 4000000 in
set_option maxRecDepth 20000 in
theorem ok_X3_put {X : jX} {n : Nat} (hn : 179 ≤ n) {l1 : Int} {M : jM} {Mz : jM} (h : f_X3_put l1 M = some Mz) : jCt X n yX3_put cX3_put 2 (none) 0 [jA 164, jI l1] M (none) Mz := by
  refine jCt_of (own := RX3) (ls := [jA 164, jI l1]) (by decide +kernel) rfl hn (Nat.le_of_ble_eq_true rfl) rfl ?_
  intro C hC hR
  unfold f_X3_put at h
  refine x_aloadA_n (pc := 0) hC dX3_put_0 rfl rfl k_164 (by decide) ?_
  refine x_gi (pc := 1) (ji := 1) hC fl_X3_15 rfl fn3_1 k_164 dX3_put_1 ?_
  refine x_aloadA_n (pc := 4) hC dX3_put_4 rfl rfl k_164 (by decide) ?_
  refine x_gf (pc := 5) (b := 165) hC fl_X3_9 ft3_0 k_164 (by decide) (off := 1) (by decide +kernel) (by decide) dX3_put_5 ?_
  refine x_alenL (pc := 8) hC k_165 l_165 dX3_put_8 ?_
  refine x_icmp_ge (tgt := 32) (pc := 9) hC dX3_put_9 (by decide) (fun hc => ?_) (fun hc => ?_)
  · replace h := jit_pos hc h
    exact x_vret (pc := 32) hC hR dX3_put_32 (jrR h)
  · replace h := jit_neg hc h
    refine x_aloadA_n (pc := 12) hC dX3_put_12 rfl rfl k_164 (by decide) ?_
    refine x_gf (pc := 13) (b := 165) hC fl_X3_9 ft3_0 k_164 (by decide) (off := 1) (by decide +kernel) (by decide) dX3_put_13 ?_
    refine x_aloadA_n (pc := 16) hC dX3_put_16 rfl rfl k_164 (by decide) ?_
    refine x_gi (pc := 17) (ji := 1) hC fl_X3_15 rfl fn3_1 k_164 dX3_put_17 ?_
    refine x_iload_n (pc := 20) hC dX3_put_20 rfl rfl ?_
    obtain ⟨hb1, h⟩ := jck_some h
    obtain ⟨M2, eM2, h⟩ := jlet_some h
    refine x_iast (pc := 21) hC k_165 (by rw [l_165]; exact hb1) dX3_put_21 eM2 ?_
    refine x_aloadA_n (pc := 22) hC dX3_put_22 rfl rfl k_164 (by decide) ?_
    refine x_dup (pc := 23) hC dX3_put_23 (show (2 : Nat) ≠ 3 by decide) ?_
    refine x_gi (pc := 24) (ji := 1) hC fl_X3_15 rfl fn3_1 k_164 dX3_put_24 ?_
    refine x_iconst (pc := 27) hC dX3_put_27 ?_
    refine x_iadd (pc := 28) hC dX3_put_28 ?_
    obtain ⟨M3, eM3, h⟩ := jlet_some h
    refine x_pi (pc := 29) (ji := 1) hC fl_X3_15 rfl ft3_1 k_164 dX3_put_29 eM3 ?_
    exact x_vret (pc := 32) hC hR dX3_put_32 (jrR h)

set_option maxHeartbeats 4000000 in
set_option maxRecDepth 20000 in
theorem ok_X3_putLetters {X : jX} {n : Nat} (hn : 179 ≤ n) {l1 : Int} {l2 : Int} {M : jM} {Mz : jM} (hl1 : jkd l1 = 2) (h : f_X3_putLetters l1 l2 M = some Mz) : jCt X n yX3_putLetters cX3_putLetters 4 (none) 1 [jA 164, jA l1, jI l2] M (none) Mz := by
  refine jCt_of (own := RX3) (ls := [jA 164, jA l1, jI l2, jN]) (by decide +kernel) rfl hn (Nat.le_of_ble_eq_true rfl) rfl ?_
  intro C hC hR
  unfold f_X3_putLetters at h
  refine x_iconst (pc := 0) hC dX3_putLetters_0 ?_
  refine x_istore_n (ls2 := [jA 164, jA l1, jI l2, jI 0]) (pc := 1) hC dX3_putLetters_1 rfl (by decide) rfl rfl rfl ?_
  refine jlp2_ind (P := fun (l3_1 : Int) (M2 : jM) => jG C X n 4 0 0 2 [jA 164, jA l1, jI l2, jI l3_1] [] M2) ?_ _ _ _ h
  intro self3 l3_1 M2 Hself3 h
  refine x_iload_n (pc := 2) hC dX3_putLetters_2 rfl rfl ?_
  refine x_bipush (pc := 3) hC dX3_putLetters_3 rfl ?_
  refine x_icmp_ge (tgt := 34) (pc := 5) hC dX3_putLetters_5 (by decide) (fun hc => ?_) (fun hc => ?_)
  · replace h := jit_pos hc h
    exact x_vret (pc := 34) hC hR dX3_putLetters_34 (jrR h)
  · replace h := jit_neg hc h
    refine x_aloadA_n (pc := 8) hC dX3_putLetters_8 rfl rfl hl1 (by decide) ?_
    refine x_iload_n (pc := 9) hC dX3_putLetters_9 rfl rfl ?_
    refine x_iload_n (pc := 10) hC dX3_putLetters_10 rfl rfl ?_
    obtain ⟨v5, e4, h⟩ := jbR_some h
    refine x_cV (pc := 11) hC mv_X3_81 (ok_X2_letter hn hl1 e4) rfl (Nat.le_of_ble_eq_true rfl) hl1 rfl (by decide) (jRo0 C) (Nat.le_of_ble_eq_true rfl) dX3_putLetters_11 rfl ?_
    refine x_iconst (pc := 14) hC dX3_putLetters_14 ?_
    refine x_icmp_eq (tgt := 34) (pc := 15) hC dX3_putLetters_15 (by decide) (fun hc => ?_) (fun hc => ?_)
    · replace h := jit_pos hc h
      exact x_vret (pc := 34) hC hR dX3_putLetters_34 (jrR h)
    · replace h := jit_neg hc h
      refine x_aloadA_n (pc := 18) hC dX3_putLetters_18 rfl rfl k_164 (by decide) ?_
      refine x_aloadA_n (pc := 19) hC dX3_putLetters_19 rfl rfl hl1 (by decide) ?_
      refine x_iload_n (pc := 20) hC dX3_putLetters_20 rfl rfl ?_
      refine x_iload_n (pc := 21) hC dX3_putLetters_21 rfl rfl ?_
      obtain ⟨v7, e6, h⟩ := jbR_some h
      refine x_cV (pc := 22) hC mv_X3_81 (ok_X2_letter hn hl1 e6) rfl (Nat.le_of_ble_eq_true rfl) hl1 rfl (by decide) (jRo0 C) (Nat.le_of_ble_eq_true rfl) dX3_putLetters_22 rfl ?_
      obtain ⟨M9, e8, h⟩ := jbV_some h
      refine x_cV (pc := 25) hC mv_X3_33 (ok_X3_put hn e8) rfl (Nat.le_of_ble_eq_true rfl) k_164 rfl (by decide) (jRo0 C) (Nat.le_of_ble_eq_true rfl) dX3_putLetters_25 rfl ?_
      obtain ⟨l3_10, el3_10, h⟩ := jlet_some h
      refine x_iinc (ls2 := [jA 164, jA l1, jI l2, jI l3_10]) (pc := 28) hC dX3_putLetters_28 rfl (by decide) rfl el3_10 rfl ?_
      refine x_goto (tgt := 2) (pc := 31) hC dX3_putLetters_31 (by decide) ?_
      exact Hself3 _ _ h

set_option maxHeartbeats 4000000 in
set_option maxRecDepth 20000 in
theorem ok_J9_abs_0f7a4 {X : jX} {n : Nat} (hn : 179 ≤ n) {l0 : Int} {M : jM} {rz : Int} (h : f_J9_abs_0f7a4 l0 = some rz) : jCt X n yJ9_abs_0f7a4 cJ9_abs_0f7a4 1 (some .int) 0 [jI l0] M (some (jI rz)) M := by
  refine jCt_of (own := RJ9) (ls := [jI l0]) (by decide +kernel) rfl hn (Nat.le_of_ble_eq_true rfl) rfl ?_
  intro C hC hR
  unfold f_J9_abs_0f7a4 at h
  refine x_iload_n (pc := 0) hC dJ9_abs_0f7a4_0 rfl rfl ?_
  refine x_if_ge (tgt := 9) (pc := 1) hC dJ9_abs_0f7a4_1 (by decide) (fun hc => ?_) (fun hc => ?_)
  · replace h := jit_pos hc h
    refine x_iload_n (pc := 9) hC dJ9_abs_0f7a4_9 rfl rfl ?_
    exact x_iret (pc := 10) hC hR dJ9_abs_0f7a4_10 (jrR h) rfl
  · replace h := jit_neg hc h
    refine x_iload_n (pc := 4) hC dJ9_abs_0f7a4_4 rfl rfl ?_
    refine x_ineg (pc := 5) hC dJ9_abs_0f7a4_5 ?_
    refine x_goto (tgt := 10) (pc := 6) hC dJ9_abs_0f7a4_6 (by decide) ?_
    exact x_iret (pc := 10) hC hR dJ9_abs_0f7a4_10 (jrR h) rfl

set_option maxHeartbeats 4000000 in
set_option maxRecDepth 20000 in
theorem ok_X3_putHundredths {X : jX} {n : Nat} (hn : 179 ≤ n) {l1 : Int} {M : jM} {Mz : jM} (h : f_X3_putHundredths l1 M = some Mz) : jCt X n yX3_putHundredths cX3_putHundredths 5 (none) 1 [jA 164, jI l1] M (none) Mz := by
  refine jCt_of (own := RX3) (ls := [jA 164, jI l1, jN, jN, jN]) (by decide +kernel) rfl hn (Nat.le_of_ble_eq_true rfl) rfl ?_
  intro C hC hR
  unfold f_X3_putHundredths at h
  refine x_iload_n (pc := 0) hC dX3_putHundredths_0 rfl rfl ?_
  obtain ⟨k2, Hk2, h⟩ := jk_some (P := fun k2 => ∀ (M1 : jM), k2 M1 = some Mz → jG C X n 5 0 0 10 [jA 164, jI l1, jN, jN, jN] [] M1) h (by
    intro M1 h
    refine x_iload_n (pc := 10) hC dX3_putHundredths_10 rfl rfl ?_
    obtain ⟨v4, e3, h⟩ := jbR_some h
    refine x_cS (pc := 11) hC ms_X3_86 (ok_J9_abs_0f7a4 hn e3) rfl (Nat.le_of_ble_eq_true rfl) (jRo0 C) (Nat.le_of_ble_eq_true rfl) dX3_putHundredths_11 rfl ?_
    refine x_istore_n (ls2 := [jA 164, jI l1, jI v4, jN, jN]) (pc := 14) hC dX3_putHundredths_14 rfl (by decide) rfl rfl rfl ?_
    refine x_iconst (pc := 15) hC dX3_putHundredths_15 ?_
    refine x_istore_n (ls2 := [jA 164, jI l1, jI v4, jI 0, jN]) (pc := 16) hC dX3_putHundredths_16 rfl (by decide) rfl rfl rfl ?_
    refine x_ldci (pc := 17) hC cw_X3_92 dX3_putHundredths_17 ?_
    refine x_istore (ls2 := [jA 164, jI l1, jI v4, jI 0, jI 10000000]) (pc := 19) hC dX3_putHundredths_19 (by decide) rfl rfl rfl ?_
    refine jlp3_ind (P := fun (l3_5 : Int) (l4_6 : Int) (M7 : jM) => jG C X n 5 0 0 21 [jA 164, jI l1, jI v4, jI l3_5, jI l4_6] [] M7) ?_ _ _ _ _ h
    intro self8 l3_5 l4_6 M7 Hself8 h
    refine x_iload (pc := 21) hC dX3_putHundredths_21 rfl ?_
    refine x_if_le (tgt := 90) (pc := 23) hC dX3_putHundredths_23 (by decide) (fun hc => ?_) (fun hc => ?_)
    · replace h := jit_pos hc h
      exact x_vret (pc := 90) hC hR dX3_putHundredths_90 (jrR h)
    · replace h := jit_neg hc h
      refine x_iload_n (pc := 26) hC dX3_putHundredths_26 rfl rfl ?_
      obtain ⟨k10, Hk10, h⟩ := jk_some (P := fun k10 => ∀ (s0_9 : Int), k10 s0_9 = some Mz → jG C X n 5 0 0 48 [jA 164, jI l1, jI v4, jI l3_5, jI l4_6] [jI s0_9] M7) h (by
        intro s0_9 h
        refine x_istore_n (ls2 := [jA 164, jI l1, jI v4, jI s0_9, jI l4_6]) (pc := 48) hC dX3_putHundredths_48 rfl (by decide) rfl rfl rfl ?_
        refine x_iload_n (pc := 49) hC dX3_putHundredths_49 rfl rfl ?_
        obtain ⟨k12, Hk12, h⟩ := jk_some (P := fun k12 => ∀ (M11 : jM), k12 M11 = some Mz → jG C X n 5 0 0 67 [jA 164, jI l1, jI v4, jI s0_9, jI l4_6] [] M11) h (by
          intro M11 h
          refine x_iload (pc := 67) hC dX3_putHundredths_67 rfl ?_
          refine x_bipush (pc := 69) hC dX3_putHundredths_69 rfl ?_
          obtain ⟨k14, Hk14, h⟩ := jk_some (P := fun k14 => ∀ (M13 : jM), k14 M13 = some Mz → jG C X n 5 0 0 80 [jA 164, jI l1, jI v4, jI s0_9, jI l4_6] [] M13) h (by
            intro M13 h
            refine x_iload (pc := 80) hC dX3_putHundredths_80 rfl ?_
            refine x_bipush (pc := 82) hC dX3_putHundredths_82 rfl ?_
            refine x_idiv (pc := 84) hC dX3_putHundredths_84 (by decide) ?_
            obtain ⟨l4_15, el4_15, h⟩ := jlet_some h
            refine x_istore (ls2 := [jA 164, jI l1, jI v4, jI s0_9, jI l4_15]) (pc := 85) hC dX3_putHundredths_85 (by decide) rfl el4_15 rfl ?_
            refine x_goto (tgt := 21) (pc := 87) hC dX3_putHundredths_87 (by decide) ?_
            exact Hself8 _ _ _ h)
          refine x_icmp_ne (tgt := 80) (pc := 71) hC dX3_putHundredths_71 (by decide) (fun hc => ?_) (fun hc => ?_)
          · replace h := jit_neg hc h
            exact Hk14 _ h
          · replace h := jit_pos hc h
            refine x_aloadA_n (pc := 74) hC dX3_putHundredths_74 rfl rfl k_164 (by decide) ?_
            refine x_bipush (pc := 75) hC dX3_putHundredths_75 rfl ?_
            obtain ⟨M17, e16, h⟩ := jbV_some h
            refine x_cV (pc := 77) hC mv_X3_33 (ok_X3_put hn e16) rfl (Nat.le_of_ble_eq_true rfl) k_164 rfl (by decide) (jRo0 C) (Nat.le_of_ble_eq_true rfl) dX3_putHundredths_77 rfl ?_
            exact Hk14 _ h)
        refine x_if_eq (tgt := 67) (pc := 50) hC dX3_putHundredths_50 (by decide) (fun hc => ?_) (fun hc => ?_)
        · replace h := jit_pos hc h
          exact Hk12 _ h
        · replace h := jit_neg hc h
          refine x_aloadA_n (pc := 53) hC dX3_putHundredths_53 rfl rfl k_164 (by decide) ?_
          refine x_bipush (pc := 54) hC dX3_putHundredths_54 rfl ?_
          refine x_iload_n (pc := 56) hC dX3_putHundredths_56 rfl rfl ?_
          refine x_iload (pc := 57) hC dX3_putHundredths_57 rfl ?_
          obtain ⟨hz18, h⟩ := jck_some h
          refine x_idiv (pc := 59) hC dX3_putHundredths_59 hz18 ?_
          refine x_bipush (pc := 60) hC dX3_putHundredths_60 rfl ?_
          refine x_irem (pc := 62) hC dX3_putHundredths_62 (by decide) ?_
          refine x_iadd (pc := 63) hC dX3_putHundredths_63 ?_
          obtain ⟨M20, e19, h⟩ := jbV_some h
          refine x_cV (pc := 64) hC mv_X3_33 (ok_X3_put hn e19) rfl (Nat.le_of_ble_eq_true rfl) k_164 rfl (by decide) (jRo0 C) (Nat.le_of_ble_eq_true rfl) dX3_putHundredths_64 rfl ?_
          exact Hk12 _ h)
      obtain ⟨k21, Hk21, h⟩ := jk_some (P := fun k21 => k21 = some Mz → jG C X n 5 0 0 43 [jA 164, jI l1, jI v4, jI l3_5, jI l4_6] [] M7) h (by
        intro h
        refine x_iconst (pc := 43) hC dX3_putHundredths_43 ?_
        refine x_goto (tgt := 48) (pc := 44) hC dX3_putHundredths_44 (by decide) ?_
        exact Hk10 _ h)
      refine x_if_ne (tgt := 43) (pc := 27) hC dX3_putHundredths_27 (by decide) (fun hc => ?_) (fun hc => ?_)
      · replace h := jit_neg hc h
        exact Hk21 h
      · replace h := jit_pos hc h
        refine x_iload (pc := 30) hC dX3_putHundredths_30 rfl ?_
        refine x_bipush (pc := 32) hC dX3_putHundredths_32 rfl ?_
        refine x_icmp_le (tgt := 43) (pc := 34) hC dX3_putHundredths_34 (by decide) (fun hc => ?_) (fun hc => ?_)
        · replace h := jit_pos hc h
          exact Hk21 h
        · replace h := jit_neg hc h
          refine x_iload_n (pc := 37) hC dX3_putHundredths_37 rfl rfl ?_
          refine x_iload (pc := 38) hC dX3_putHundredths_38 rfl ?_
          refine x_icmp_lt (tgt := 47) (pc := 40) hC dX3_putHundredths_40 (by decide) (fun hc => ?_) (fun hc => ?_)
          · replace h := jit_pos hc h
            refine x_iconst (pc := 47) hC dX3_putHundredths_47 ?_
            exact Hk10 _ h
          · replace h := jit_neg hc h
            exact Hk21 h)
  refine x_if_ge (tgt := 10) (pc := 1) hC dX3_putHundredths_1 (by decide) (fun hc => ?_) (fun hc => ?_)
  · replace h := jit_pos hc h
    exact Hk2 _ h
  · replace h := jit_neg hc h
    refine x_aloadA_n (pc := 4) hC dX3_putHundredths_4 rfl rfl k_164 (by decide) ?_
    refine x_bipush (pc := 5) hC dX3_putHundredths_5 rfl ?_
    obtain ⟨M23, e22, h⟩ := jbV_some h
    refine x_cV (pc := 7) hC mv_X3_33 (ok_X3_put hn e22) rfl (Nat.le_of_ble_eq_true rfl) k_164 rfl (by decide) (jRo0 C) (Nat.le_of_ble_eq_true rfl) dX3_putHundredths_7 rfl ?_
    exact Hk2 _ h

set_option maxHeartbeats 4000000 in
set_option maxRecDepth 20000 in
theorem ok_X6_has {X : jX} {n : Nat} (hn : 179 ≤ n) {t : Int} {l1 : Int} {M : jM} {rz : Int} (ht : jkd t = 6) (h : f_X6_has t l1 M = some rz) : jCt X n yX6_has cX6_has 2 (some .boolean) 0 [jA t, jI l1] M (some (jI rz)) M := by
  refine jCt_of (own := RX6) (ls := [jA t, jI l1]) (by decide +kernel) rfl hn (Nat.le_of_ble_eq_true rfl) rfl ?_
  intro C hC hR
  unfold f_X6_has at h
  refine x_iload_n (pc := 0) hC dX6_has_0 rfl rfl ?_
  refine x_if_lt (tgt := 27) (pc := 1) hC dX6_has_1 (by decide) (fun hc => ?_) (fun hc => ?_)
  · replace h := jit_pos hc h
    refine x_iconst (pc := 27) hC dX6_has_27 ?_
    exact x_zret (pc := 28) hC hR dX6_has_28 (Or.inl jw0) (jrR h) rfl
  · replace h := jit_neg hc h
    refine x_iload_n (pc := 4) hC dX6_has_4 rfl rfl ?_
    refine x_aloadA_n (pc := 5) hC dX6_has_5 rfl rfl ht (by decide) ?_
    refine x_gi (pc := 6) (ji := 0) hC fl_X6_9 rfl fn6_0 ht dX6_has_6 ?_
    refine x_icmp_ge (tgt := 27) (pc := 9) hC dX6_has_9 (by decide) (fun hc => ?_) (fun hc => ?_)
    · replace h := jit_pos hc h
      refine x_iconst (pc := 27) hC dX6_has_27 ?_
      exact x_zret (pc := 28) hC hR dX6_has_28 (Or.inl jw0) (jrR h) rfl
    · replace h := jit_neg hc h
      refine x_aloadA_n (pc := 12) hC dX6_has_12 rfl rfl ht (by decide) ?_
      refine x_gi (pc := 13) (ji := 1) hC fl_X6_15 rfl fn6_1 ht dX6_has_13 ?_
      refine x_iload_n (pc := 16) hC dX6_has_16 rfl rfl ?_
      refine x_ishr (pc := 17) hC dX6_has_17 ?_
      refine x_iconst (pc := 18) hC dX6_has_18 ?_
      refine x_iand (pc := 19) hC dX6_has_19 ?_
      refine x_if_ne (tgt := 27) (pc := 20) hC dX6_has_20 (by decide) (fun hc => ?_) (fun hc => ?_)
      · replace h := jit_neg hc h
        refine x_iconst (pc := 27) hC dX6_has_27 ?_
        exact x_zret (pc := 28) hC hR dX6_has_28 (Or.inl jw0) (jrR h) rfl
      · replace h := jit_pos hc h
        refine x_iconst (pc := 23) hC dX6_has_23 ?_
        refine x_goto (tgt := 28) (pc := 24) hC dX6_has_24 (by decide) ?_
        exact x_zret (pc := 28) hC hR dX6_has_28 (Or.inr jw1) (jrR h) rfl

set_option maxHeartbeats 4000000 in
set_option maxRecDepth 20000 in
theorem ok_X8_isLate {X : jX} {n : Nat} (hn : 179 ≤ n) {t : Int} {l1 : Int} {M : jM} {rz : Int} (ht : jkd t = 8) (h : f_X8_isLate t l1 M = some rz) : jCt X n yX8_isLate cX8_isLate 2 (some .boolean) 0 [jA t, jI l1] M (some (jI rz)) M := by
  refine jCt_of (own := RX8) (ls := [jA t, jI l1]) (by decide +kernel) rfl hn (Nat.le_of_ble_eq_true rfl) rfl ?_
  intro C hC hR
  unfold f_X8_isLate at h
  refine x_aloadA_n (pc := 0) hC dX8_isLate_0 rfl rfl ht (by decide) ?_
  refine x_gi (pc := 1) (ji := 3) hC fl_X8_15 rfl fn8_3 ht dX8_isLate_1 ?_
  refine x_iload_n (pc := 4) hC dX8_isLate_4 rfl rfl ?_
  refine x_ishr (pc := 5) hC dX8_isLate_5 ?_
  refine x_iconst (pc := 6) hC dX8_isLate_6 ?_
  refine x_iand (pc := 7) hC dX8_isLate_7 ?_
  refine x_if_eq (tgt := 15) (pc := 8) hC dX8_isLate_8 (by decide) (fun hc => ?_) (fun hc => ?_)
  · replace h := jit_pos hc h
    refine x_iconst (pc := 15) hC dX8_isLate_15 ?_
    exact x_zret (pc := 16) hC hR dX8_isLate_16 (Or.inl jw0) (jrR h) rfl
  · replace h := jit_neg hc h
    refine x_iconst (pc := 11) hC dX8_isLate_11 ?_
    refine x_goto (tgt := 16) (pc := 12) hC dX8_isLate_12 (by decide) ?_
    exact x_zret (pc := 16) hC hR dX8_isLate_16 (Or.inr jw1) (jrR h) rfl

set_option maxHeartbeats 4000000 in
set_option maxRecDepth 20000 in
theorem ok_X8_bonusOf {X : jX} {n : Nat} (hn : 179 ≤ n) {t : Int} {l1 : Int} {M : jM} {rz : Int} (ht : jkd t = 8) (h : f_X8_bonusOf t l1 M = some rz) : jCt X n yX8_bonusOf cX8_bonusOf 2 (some .int) 0 [jA t, jI l1] M (some (jI rz)) M := by
  refine jCt_of (own := RX8) (ls := [jA t, jI l1]) (by decide +kernel) rfl hn (Nat.le_of_ble_eq_true rfl) rfl ?_
  intro C hC hR
  unfold f_X8_bonusOf at h
  refine x_aloadA_n (pc := 0) hC dX8_bonusOf_0 rfl rfl ht (by decide) ?_
  refine x_gf (pc := 1) (b := (t + 2)) hC fl_X8_37 ft8_10 ht (by decide) (off := 2) (by decide +kernel) rfl dX8_bonusOf_1 ?_
  refine x_iload_n (pc := 4) hC dX8_bonusOf_4 rfl rfl ?_
  obtain ⟨hb1, h⟩ := jck_some h
  refine x_iald (pc := 5) hC (ko8_10 ht) (by rw [lo8_10 ht]; exact hb1) dX8_bonusOf_5 ?_
  refine x_aloadA_n (pc := 6) hC dX8_bonusOf_6 rfl rfl ht (by decide) ?_
  obtain ⟨hk2, h⟩ := jck_some h
  refine x_gr (pc := 7) (ji := 0) hC fl_X8_54 rfl ft8_0 ht dX8_bonusOf_7 ?_
  refine x_gf (pc := 10) (b := ((M t 0) + 1)) hC fl_X8_125 ft1_1 hk2 (by decide) (off := 1) (by decide +kernel) rfl dX8_bonusOf_10 ?_
  refine x_iconst (pc := 13) hC dX8_bonusOf_13 ?_
  obtain ⟨hb3, h⟩ := jck_some h
  refine x_iald (pc := 14) hC (ko1_1 hk2) (by rw [lo1_1 hk2]; exact hb3) dX8_bonusOf_14 ?_
  refine x_imul (pc := 15) hC dX8_bonusOf_15 ?_
  refine x_bipush (pc := 16) hC dX8_bonusOf_16 rfl ?_
  refine x_idiv (pc := 18) hC dX8_bonusOf_18 (by decide) ?_
  exact x_iret (pc := 19) hC hR dX8_bonusOf_19 (jrR h) rfl

set_option maxHeartbeats 4000000 in
set_option maxRecDepth 20000 in
theorem ok_X8_worthOf {X : jX} {n : Nat} (hn : 179 ≤ n) {t : Int} {l1 : Int} {M : jM} {rz : Int} (ht : jkd t = 8) (h : f_X8_worthOf t l1 M = some rz) : jCt X n yX8_worthOf cX8_worthOf 2 (some .int) 1 [jA t, jI l1] M (some (jI rz)) M := by
  refine jCt_of (own := RX8) (ls := [jA t, jI l1]) (by decide +kernel) rfl hn (Nat.le_of_ble_eq_true rfl) rfl ?_
  intro C hC hR
  unfold f_X8_worthOf at h
  refine x_aloadA_n (pc := 0) hC dX8_worthOf_0 rfl rfl ht (by decide) ?_
  refine x_iload_n (pc := 1) hC dX8_worthOf_1 rfl rfl ?_
  obtain ⟨v2, e1, h⟩ := jbR_some h
  refine x_cV (pc := 2) hC mv_X8_167 (ok_X8_isLate hn ht e1) rfl (Nat.le_of_ble_eq_true rfl) ht rfl (by decide) (jRo0 C) (Nat.le_of_ble_eq_true rfl) dX8_worthOf_2 rfl ?_
  refine x_if_eq (tgt := 23) (pc := 5) hC dX8_worthOf_5 (by decide) (fun hc => ?_) (fun hc => ?_)
  · replace h := jit_pos hc h
    refine x_aloadA_n (pc := 23) hC dX8_worthOf_23 rfl rfl ht (by decide) ?_
    refine x_gf (pc := 24) (b := (t + 2)) hC fl_X8_37 ft8_10 ht (by decide) (off := 2) (by decide +kernel) rfl dX8_worthOf_24 ?_
    refine x_iload_n (pc := 27) hC dX8_worthOf_27 rfl rfl ?_
    obtain ⟨hb3, h⟩ := jck_some h
    refine x_iald (pc := 28) hC (ko8_10 ht) (by rw [lo8_10 ht]; exact hb3) dX8_worthOf_28 ?_
    exact x_iret (pc := 29) hC hR dX8_worthOf_29 (jrR h) rfl
  · replace h := jit_neg hc h
    refine x_aloadA_n (pc := 8) hC dX8_worthOf_8 rfl rfl ht (by decide) ?_
    refine x_gf (pc := 9) (b := (t + 2)) hC fl_X8_37 ft8_10 ht (by decide) (off := 2) (by decide +kernel) rfl dX8_worthOf_9 ?_
    refine x_iload_n (pc := 12) hC dX8_worthOf_12 rfl rfl ?_
    obtain ⟨hb4, h⟩ := jck_some h
    refine x_iald (pc := 13) hC (ko8_10 ht) (by rw [lo8_10 ht]; exact hb4) dX8_worthOf_13 ?_
    refine x_aloadA_n (pc := 14) hC dX8_worthOf_14 rfl rfl ht (by decide) ?_
    refine x_iload_n (pc := 15) hC dX8_worthOf_15 rfl rfl ?_
    obtain ⟨v6, e5, h⟩ := jbR_some h
    refine x_cV (pc := 16) hC mv_X8_170 (ok_X8_bonusOf hn ht e5) rfl (Nat.le_of_ble_eq_true rfl) ht rfl (by decide) (jRo0 C) (Nat.le_of_ble_eq_true rfl) dX8_worthOf_16 rfl ?_
    refine x_iadd (pc := 19) hC dX8_worthOf_19 ?_
    refine x_goto (tgt := 29) (pc := 20) hC dX8_worthOf_20 (by decide) ?_
    exact x_iret (pc := 29) hC hR dX8_worthOf_29 (jrR h) rfl

set_option maxHeartbeats 4000000 in
set_option maxRecDepth 20000 in
theorem ok_J6_bitCount_0f7a4 {X : jX} {n : Nat} (hn : 179 ≤ n) {l0 : Int} {M : jM} {rz : Int} (h : f_J6_bitCount_0f7a4 l0 = some rz) : jCt X n yJ6_bitCount_0f7a4 cJ6_bitCount_0f7a4 1 (some .int) 0 [jI l0] M (some (jI rz)) M := by
  refine jCt_of (own := RJ6) (ls := [jI l0]) (by decide +kernel) rfl hn (Nat.le_of_ble_eq_true rfl) rfl ?_
  intro C hC hR
  unfold f_J6_bitCount_0f7a4 at h
  refine x_iload_n (pc := 0) hC dJ6_bitCount_0f7a4_0 rfl rfl ?_
  refine x_iload_n (pc := 1) hC dJ6_bitCount_0f7a4_1 rfl rfl ?_
  refine x_iconst (pc := 2) hC dJ6_bitCount_0f7a4_2 ?_
  refine x_iushr (pc := 3) hC dJ6_bitCount_0f7a4_3 ?_
  refine x_ldcwi (pc := 4) hC cw_J6_265 dJ6_bitCount_0f7a4_4 ?_
  refine x_iand (pc := 7) hC dJ6_bitCount_0f7a4_7 ?_
  refine x_isub (pc := 8) hC dJ6_bitCount_0f7a4_8 ?_
  obtain ⟨l0_1, el0_1, h⟩ := jlet_some h
  refine x_istore_n (ls2 := [jI l0_1]) (pc := 9) hC dJ6_bitCount_0f7a4_9 rfl (by decide) rfl el0_1 rfl ?_
  refine x_iload_n (pc := 10) hC dJ6_bitCount_0f7a4_10 rfl rfl ?_
  refine x_ldcwi (pc := 11) hC cw_J6_266 dJ6_bitCount_0f7a4_11 ?_
  refine x_iand (pc := 14) hC dJ6_bitCount_0f7a4_14 ?_
  refine x_iload_n (pc := 15) hC dJ6_bitCount_0f7a4_15 rfl rfl ?_
  refine x_iconst (pc := 16) hC dJ6_bitCount_0f7a4_16 ?_
  refine x_iushr (pc := 17) hC dJ6_bitCount_0f7a4_17 ?_
  refine x_ldcwi (pc := 18) hC cw_J6_266 dJ6_bitCount_0f7a4_18 ?_
  refine x_iand (pc := 21) hC dJ6_bitCount_0f7a4_21 ?_
  refine x_iadd (pc := 22) hC dJ6_bitCount_0f7a4_22 ?_
  obtain ⟨l0_2, el0_2, h⟩ := jlet_some h
  refine x_istore_n (ls2 := [jI l0_2]) (pc := 23) hC dJ6_bitCount_0f7a4_23 rfl (by decide) rfl el0_2 rfl ?_
  refine x_iload_n (pc := 24) hC dJ6_bitCount_0f7a4_24 rfl rfl ?_
  refine x_iload_n (pc := 25) hC dJ6_bitCount_0f7a4_25 rfl rfl ?_
  refine x_iconst (pc := 26) hC dJ6_bitCount_0f7a4_26 ?_
  refine x_iushr (pc := 27) hC dJ6_bitCount_0f7a4_27 ?_
  refine x_iadd (pc := 28) hC dJ6_bitCount_0f7a4_28 ?_
  refine x_ldcwi (pc := 29) hC cw_J6_267 dJ6_bitCount_0f7a4_29 ?_
  refine x_iand (pc := 32) hC dJ6_bitCount_0f7a4_32 ?_
  obtain ⟨l0_3, el0_3, h⟩ := jlet_some h
  refine x_istore_n (ls2 := [jI l0_3]) (pc := 33) hC dJ6_bitCount_0f7a4_33 rfl (by decide) rfl el0_3 rfl ?_
  refine x_iload_n (pc := 34) hC dJ6_bitCount_0f7a4_34 rfl rfl ?_
  refine x_iload_n (pc := 35) hC dJ6_bitCount_0f7a4_35 rfl rfl ?_
  refine x_bipush (pc := 36) hC dJ6_bitCount_0f7a4_36 rfl ?_
  refine x_iushr (pc := 38) hC dJ6_bitCount_0f7a4_38 ?_
  refine x_iadd (pc := 39) hC dJ6_bitCount_0f7a4_39 ?_
  obtain ⟨l0_4, el0_4, h⟩ := jlet_some h
  refine x_istore_n (ls2 := [jI l0_4]) (pc := 40) hC dJ6_bitCount_0f7a4_40 rfl (by decide) rfl el0_4 rfl ?_
  refine x_iload_n (pc := 41) hC dJ6_bitCount_0f7a4_41 rfl rfl ?_
  refine x_iload_n (pc := 42) hC dJ6_bitCount_0f7a4_42 rfl rfl ?_
  refine x_bipush (pc := 43) hC dJ6_bitCount_0f7a4_43 rfl ?_
  refine x_iushr (pc := 45) hC dJ6_bitCount_0f7a4_45 ?_
  refine x_iadd (pc := 46) hC dJ6_bitCount_0f7a4_46 ?_
  obtain ⟨l0_5, el0_5, h⟩ := jlet_some h
  refine x_istore_n (ls2 := [jI l0_5]) (pc := 47) hC dJ6_bitCount_0f7a4_47 rfl (by decide) rfl el0_5 rfl ?_
  refine x_iload_n (pc := 48) hC dJ6_bitCount_0f7a4_48 rfl rfl ?_
  refine x_bipush (pc := 49) hC dJ6_bitCount_0f7a4_49 rfl ?_
  refine x_iand (pc := 51) hC dJ6_bitCount_0f7a4_51 ?_
  exact x_iret (pc := 52) hC hR dJ6_bitCount_0f7a4_52 (jrR h) rfl

set_option maxHeartbeats 4000000 in
set_option maxRecDepth 20000 in
theorem ok_J9_floorDiv_7cf53 {X : jX} {n : Nat} (hn : 179 ≤ n) {l0 : Int} {l1 : Int} {M : jM} {rz : Int} (h : f_J9_floorDiv_7cf53 l0 l1 = some rz) : jCt X n yJ9_floorDiv_7cf53 cJ9_floorDiv_7cf53 3 (some .int) 0 [jI l0, jI l1] M (some (jI rz)) M := by
  refine jCt_of (own := RJ9) (ls := [jI l0, jI l1, jN]) (by decide +kernel) rfl hn (Nat.le_of_ble_eq_true rfl) rfl ?_
  intro C hC hR
  unfold f_J9_floorDiv_7cf53 at h
  refine x_iload_n (pc := 0) hC dJ9_floorDiv_7cf53_0 rfl rfl ?_
  refine x_iload_n (pc := 1) hC dJ9_floorDiv_7cf53_1 rfl rfl ?_
  obtain ⟨hz1, h⟩ := jck_some h
  refine x_idiv (pc := 2) hC dJ9_floorDiv_7cf53_2 hz1 ?_
  obtain ⟨l2_2, el2_2, h⟩ := jlet_some h
  refine x_istore_n (ls2 := [jI l0, jI l1, jI l2_2]) (pc := 3) hC dJ9_floorDiv_7cf53_3 rfl (by decide) rfl el2_2 rfl ?_
  refine x_iload_n (pc := 4) hC dJ9_floorDiv_7cf53_4 rfl rfl ?_
  refine x_iload_n (pc := 5) hC dJ9_floorDiv_7cf53_5 rfl rfl ?_
  refine x_ixor (pc := 6) hC dJ9_floorDiv_7cf53_6 ?_
  refine x_if_ge (tgt := 21) (pc := 7) hC dJ9_floorDiv_7cf53_7 (by decide) (fun hc => ?_) (fun hc => ?_)
  · replace h := jit_pos hc h
    refine x_iload_n (pc := 21) hC dJ9_floorDiv_7cf53_21 rfl rfl ?_
    exact x_iret (pc := 22) hC hR dJ9_floorDiv_7cf53_22 (jrR h) rfl
  · replace h := jit_neg hc h
    refine x_iload_n (pc := 10) hC dJ9_floorDiv_7cf53_10 rfl rfl ?_
    refine x_iload_n (pc := 11) hC dJ9_floorDiv_7cf53_11 rfl rfl ?_
    refine x_imul (pc := 12) hC dJ9_floorDiv_7cf53_12 ?_
    refine x_iload_n (pc := 13) hC dJ9_floorDiv_7cf53_13 rfl rfl ?_
    refine x_icmp_eq (tgt := 21) (pc := 14) hC dJ9_floorDiv_7cf53_14 (by decide) (fun hc => ?_) (fun hc => ?_)
    · replace h := jit_pos hc h
      refine x_iload_n (pc := 21) hC dJ9_floorDiv_7cf53_21 rfl rfl ?_
      exact x_iret (pc := 22) hC hR dJ9_floorDiv_7cf53_22 (jrR h) rfl
    · replace h := jit_neg hc h
      refine x_iload_n (pc := 17) hC dJ9_floorDiv_7cf53_17 rfl rfl ?_
      refine x_iconst (pc := 18) hC dJ9_floorDiv_7cf53_18 ?_
      refine x_isub (pc := 19) hC dJ9_floorDiv_7cf53_19 ?_
      exact x_iret (pc := 20) hC hR dJ9_floorDiv_7cf53_20 (jrR h) rfl

set_option maxHeartbeats 4000000 in
set_option maxRecDepth 20000 in
theorem ok_X8_trimmed {X : jX} {n : Nat} (hn : 179 ≤ n) {t : Int} {l1 : Int} {l2 : Int} {M : jM} {rz : Int} (ht : jkd t = 8) (h : f_X8_trimmed t l1 l2 M = some rz) : jCt X n yX8_trimmed cX8_trimmed 11 (some .int) 1 [jA t, jI l1, jI l2] M (some (jI rz)) M := by
  refine jCt_of (own := RX8) (ls := [jA t, jI l1, jI l2, jN, jN, jN, jN, jN, jN, jN, jN]) (by decide +kernel) rfl hn (Nat.le_of_ble_eq_true rfl) rfl ?_
  intro C hC hR
  unfold f_X8_trimmed at h
  refine x_iload_n (pc := 0) hC dX8_trimmed_0 rfl rfl ?_
  obtain ⟨v2, e1, h⟩ := jbR_some h
  refine x_cS (pc := 1) hC ms_X8_179 (ok_J6_bitCount_0f7a4 hn e1) rfl (Nat.le_of_ble_eq_true rfl) (jRo0 C) (Nat.le_of_ble_eq_true rfl) dX8_trimmed_1 rfl ?_
  refine x_istore_n (ls2 := [jA t, jI l1, jI l2, jI v2, jN, jN, jN, jN, jN, jN, jN]) (pc := 4) hC dX8_trimmed_4 rfl (by decide) rfl rfl rfl ?_
  refine x_aloadA_n (pc := 5) hC dX8_trimmed_5 rfl rfl ht (by decide) ?_
  obtain ⟨hk3, h⟩ := jck_some h
  refine x_gr (pc := 6) (ji := 0) hC fl_X8_54 rfl ft8_0 ht dX8_trimmed_6 ?_
  refine x_gf (pc := 9) (b := ((M t 0) + 1)) hC fl_X8_125 ft1_1 hk3 (by decide) (off := 1) (by decide +kernel) rfl dX8_trimmed_9 ?_
  refine x_iconst (pc := 12) hC dX8_trimmed_12 ?_
  obtain ⟨hb4, h⟩ := jck_some h
  refine x_iald (pc := 13) hC (ko1_1 hk3) (by rw [lo1_1 hk3]; exact hb4) dX8_trimmed_13 ?_
  refine x_iload_n (pc := 14) hC dX8_trimmed_14 rfl rfl ?_
  refine x_iconst (pc := 15) hC dX8_trimmed_15 ?_
  refine x_isub (pc := 16) hC dX8_trimmed_16 ?_
  refine x_iconst (pc := 17) hC dX8_trimmed_17 ?_
  refine x_idiv (pc := 18) hC dX8_trimmed_18 (by decide) ?_
  obtain ⟨v6, e5, h⟩ := jbR_some h
  refine x_cS (pc := 19) hC ms_X8_184 (ok_J9_min_7cf53 hn e5) rfl (Nat.le_of_ble_eq_true rfl) (jRo0 C) (Nat.le_of_ble_eq_true rfl) dX8_trimmed_19 rfl ?_
  refine x_istore (ls2 := [jA t, jI l1, jI l2, jI v2, jI v6, jN, jN, jN, jN, jN, jN]) (pc := 22) hC dX8_trimmed_22 (by decide) rfl rfl rfl ?_
  refine x_iload_n (pc := 24) hC dX8_trimmed_24 rfl rfl ?_
  refine x_iconst (pc := 25) hC dX8_trimmed_25 ?_
  refine x_iload (pc := 26) hC dX8_trimmed_26 rfl ?_
  refine x_imul (pc := 28) hC dX8_trimmed_28 ?_
  refine x_isub (pc := 29) hC dX8_trimmed_29 ?_
  obtain ⟨l5_7, el5_7, h⟩ := jlet_some h
  refine x_istore (ls2 := [jA t, jI l1, jI l2, jI v2, jI v6, jI l5_7, jN, jN, jN, jN, jN]) (pc := 30) hC dX8_trimmed_30 (by decide) rfl el5_7 rfl ?_
  refine x_iload (pc := 32) hC dX8_trimmed_32 rfl ?_
  refine x_iconst (pc := 34) hC dX8_trimmed_34 ?_
  refine x_icmp_ge (tgt := 40) (pc := 35) hC dX8_trimmed_35 (by decide) (fun hc => ?_) (fun hc => ?_)
  · replace h := jit_pos hc h
    refine x_iload_n (pc := 40) hC dX8_trimmed_40 rfl rfl ?_
    refine x_bipush (pc := 41) hC dX8_trimmed_41 rfl ?_
    refine x_imul (pc := 43) hC dX8_trimmed_43 ?_
    obtain ⟨l6_8, el6_8, h⟩ := jlet_some h
    refine x_istore (ls2 := [jA t, jI l1, jI l2, jI v2, jI v6, jI l5_7, jI l6_8, jN, jN, jN, jN]) (pc := 44) hC dX8_trimmed_44 (by decide) rfl el6_8 rfl ?_
    refine x_iconst (pc := 46) hC dX8_trimmed_46 ?_
    refine x_istore (ls2 := [jA t, jI l1, jI l2, jI v2, jI v6, jI l5_7, jI l6_8, jI 0, jN, jN, jN]) (pc := 47) hC dX8_trimmed_47 (by decide) rfl rfl rfl ?_
    refine x_iconst (pc := 49) hC dX8_trimmed_49 ?_
    refine x_istore (ls2 := [jA t, jI l1, jI l2, jI v2, jI v6, jI l5_7, jI l6_8, jI 0, jI 0, jN, jN]) (pc := 50) hC dX8_trimmed_50 (by decide) rfl rfl rfl ?_
    refine x_iload (pc := 52) hC dX8_trimmed_52 rfl ?_
    refine x_istore (ls2 := [jA t, jI l1, jI l2, jI v2, jI v6, jI l5_7, jI l6_8, jI 0, jI 0, jI l6_8, jN]) (pc := 54) hC dX8_trimmed_54 (by decide) rfl rfl rfl ?_
    refine jlp3_ind (P := fun (l7_9 : Int) (l8_10 : Int) (l9_11 : Int) => jG C X n 11 0 0 56 [jA t, jI l1, jI l2, jI v2, jI v6, jI l5_7, jI l6_8, jI l7_9, jI l8_10, jI l9_11, jN] [] M) ?_ _ _ _ _ h
    intro self12 l7_9 l8_10 l9_11 Hself12 h
    refine x_iload (pc := 56) hC dX8_trimmed_56 rfl ?_
    refine x_iload (pc := 58) hC dX8_trimmed_58 rfl ?_
    refine x_aloadA_n (pc := 60) hC dX8_trimmed_60 rfl rfl ht (by decide) ?_
    refine x_gr (pc := 61) (ji := 0) hC fl_X8_54 rfl ft8_0 ht dX8_trimmed_61 ?_
    refine x_gi (pc := 64) (ji := 0) hC fl_X8_149 rfl fn1_0 hk3 dX8_trimmed_64 ?_
    refine x_iadd (pc := 67) hC dX8_trimmed_67 ?_
    refine x_icmp_ge (tgt := 132) (pc := 68) hC dX8_trimmed_68 (by decide) (fun hc => ?_) (fun hc => ?_)
    · replace h := jit_pos hc h
      refine x_bipush (pc := 132) hC dX8_trimmed_132 rfl ?_
      refine x_iload (pc := 134) hC dX8_trimmed_134 rfl ?_
      refine x_imul (pc := 136) hC dX8_trimmed_136 ?_
      refine x_iload (pc := 137) hC dX8_trimmed_137 rfl ?_
      obtain ⟨v14, e13, h⟩ := jbR_some h
      refine x_cS (pc := 139) hC ms_X8_173 (ok_J9_floorDiv_7cf53 hn e13) rfl (Nat.le_of_ble_eq_true rfl) (jRo0 C) (Nat.le_of_ble_eq_true rfl) dX8_trimmed_139 rfl ?_
      exact x_iret (pc := 142) hC hR dX8_trimmed_142 (jrR h) rfl
    · replace h := jit_neg hc h
      refine x_aloadA_n (pc := 71) hC dX8_trimmed_71 rfl rfl ht (by decide) ?_
      refine x_gf (pc := 72) (b := (t + 6)) hC fl_X8_51 ft8_14 ht (by decide) (off := 6) (by decide +kernel) rfl dX8_trimmed_72 ?_
      refine x_iload (pc := 75) hC dX8_trimmed_75 rfl ?_
      obtain ⟨hb15, h⟩ := jck_some h
      refine x_iald (pc := 77) hC (ko8_14 ht) (by rw [lo8_14 ht]; exact hb15) dX8_trimmed_77 ?_
      obtain ⟨l10_16, el10_16, h⟩ := jlet_some h
      refine x_istore (ls2 := [jA t, jI l1, jI l2, jI v2, jI v6, jI l5_7, jI l6_8, jI l7_9, jI l8_10, jI l9_11, jI l10_16]) (pc := 78) hC dX8_trimmed_78 (by decide) rfl el10_16 rfl ?_
      refine x_iload_n (pc := 80) hC dX8_trimmed_80 rfl rfl ?_
      refine x_iload (pc := 81) hC dX8_trimmed_81 rfl ?_
      refine x_ishr (pc := 83) hC dX8_trimmed_83 ?_
      refine x_iconst (pc := 84) hC dX8_trimmed_84 ?_
      refine x_iand (pc := 85) hC dX8_trimmed_85 ?_
      refine x_if_eq (tgt := 126) (pc := 86) hC dX8_trimmed_86 (by decide) (fun hc => ?_) (fun hc => ?_)
      · replace h := jit_pos hc h
        obtain ⟨l9_17, el9_17, h⟩ := jlet_some h
        refine x_iinc (ls2 := [jA t, jI l1, jI l2, jI v2, jI v6, jI l5_7, jI l6_8, jI l7_9, jI l8_10, jI l9_17, jI l10_16]) (pc := 126) hC dX8_trimmed_126 rfl (by decide) rfl el9_17 rfl ?_
        refine x_goto (tgt := 56) (pc := 129) hC dX8_trimmed_129 (by decide) ?_
        refine x_kill 10 (ls2 := [jA t, jI l1, jI l2, jI v2, jI v6, jI l5_7, jI l6_8, jI l7_9, jI l8_10, jI l9_17, jN]) rfl ?_
        exact Hself12 _ _ _ h
      · replace h := jit_neg hc h
        refine x_iload (pc := 89) hC dX8_trimmed_89 rfl ?_
        refine x_iload (pc := 91) hC dX8_trimmed_91 rfl ?_
        obtain ⟨k19, Hk19, h⟩ := jk_some (P := fun k19 => ∀ (l8_18 : Int), k19 l8_18 = some rz → jG C X n 11 0 0 123 [jA t, jI l1, jI l2, jI v2, jI v6, jI l5_7, jI l6_8, jI l7_9, jI l8_18, jI l9_11, jI l10_16] [] M) h (by
          intro l8_18 h
          obtain ⟨l7_20, el7_20, h⟩ := jlet_some h
          refine x_iinc (ls2 := [jA t, jI l1, jI l2, jI v2, jI v6, jI l5_7, jI l6_8, jI l7_20, jI l8_18, jI l9_11, jI l10_16]) (pc := 123) hC dX8_trimmed_123 rfl (by decide) rfl el7_20 rfl ?_
          obtain ⟨l9_21, el9_21, h⟩ := jlet_some h
          refine x_iinc (ls2 := [jA t, jI l1, jI l2, jI v2, jI v6, jI l5_7, jI l6_8, jI l7_20, jI l8_18, jI l9_21, jI l10_16]) (pc := 126) hC dX8_trimmed_126 rfl (by decide) rfl el9_21 rfl ?_
          refine x_goto (tgt := 56) (pc := 129) hC dX8_trimmed_129 (by decide) ?_
          refine x_kill 10 (ls2 := [jA t, jI l1, jI l2, jI v2, jI v6, jI l5_7, jI l6_8, jI l7_20, jI l8_18, jI l9_21, jN]) rfl ?_
          exact Hself12 _ _ _ h)
        refine x_icmp_lt (tgt := 123) (pc := 93) hC dX8_trimmed_93 (by decide) (fun hc => ?_) (fun hc => ?_)
        · replace h := jit_pos hc h
          exact Hk19 _ h
        · replace h := jit_neg hc h
          refine x_iload (pc := 96) hC dX8_trimmed_96 rfl ?_
          refine x_iload_n (pc := 98) hC dX8_trimmed_98 rfl rfl ?_
          refine x_iload (pc := 99) hC dX8_trimmed_99 rfl ?_
          refine x_isub (pc := 101) hC dX8_trimmed_101 ?_
          refine x_icmp_ge (tgt := 123) (pc := 102) hC dX8_trimmed_102 (by decide) (fun hc => ?_) (fun hc => ?_)
          · replace h := jit_pos hc h
            exact Hk19 _ h
          · replace h := jit_neg hc h
            refine x_iload (pc := 105) hC dX8_trimmed_105 rfl ?_
            refine x_aloadA_n (pc := 107) hC dX8_trimmed_107 rfl rfl ht (by decide) ?_
            obtain ⟨hk22, h⟩ := jck_some h
            refine x_gr (pc := 108) (ji := 1) hC fl_X8_64 rfl ft8_1 ht dX8_trimmed_108 ?_
            refine x_gf (pc := 111) (b := ((M t 1) + 5)) hC fl_X8_152 ft6_7 hk22 (by decide) (off := 5) (by decide +kernel) rfl dX8_trimmed_111 ?_
            refine x_iload (pc := 114) hC dX8_trimmed_114 rfl ?_
            refine x_iload (pc := 116) hC dX8_trimmed_116 rfl ?_
            refine x_iadd (pc := 118) hC dX8_trimmed_118 ?_
            obtain ⟨hb23, h⟩ := jck_some h
            refine x_iald (pc := 119) hC (ko6_7 hk22) (by rw [lo6_7 hk22]; exact hb23) dX8_trimmed_119 ?_
            refine x_iadd (pc := 120) hC dX8_trimmed_120 ?_
            obtain ⟨l8_24, el8_24, h⟩ := jlet_some h
            refine x_istore (ls2 := [jA t, jI l1, jI l2, jI v2, jI v6, jI l5_7, jI l6_8, jI l7_9, jI l8_24, jI l9_11, jI l10_16]) (pc := 121) hC dX8_trimmed_121 (by decide) rfl el8_24 rfl ?_
            exact Hk19 _ h
  · replace h := jit_neg hc h
    refine x_iconst (pc := 38) hC dX8_trimmed_38 ?_
    exact x_iret (pc := 39) hC hR dX8_trimmed_39 (jrR h) rfl

set_option maxHeartbeats 4000000 in
set_option maxRecDepth 20000 in
theorem ok_X8_gainBy {X : jX} {n : Nat} (hn : 179 ≤ n) {t : Int} {l1 : Int} {l2 : Int} {M : jM} {rz : Int} (ht : jkd t = 8) (h : f_X8_gainBy t l1 l2 M = some rz) : jCt X n yX8_gainBy cX8_gainBy 3 (some .int) 1 [jA t, jI l1, jI l2] M (some (jI rz)) M := by
  refine jCt_of (own := RX8) (ls := [jA t, jI l1, jI l2]) (by decide +kernel) rfl hn (Nat.le_of_ble_eq_true rfl) rfl ?_
  intro C hC hR
  unfold f_X8_gainBy at h
  refine x_aloadA_n (pc := 0) hC dX8_gainBy_0 rfl rfl ht (by decide) ?_
  refine x_gf (pc := 1) (b := (t + 3)) hC fl_X8_40 ft8_11 ht (by decide) (off := 3) (by decide +kernel) rfl dX8_gainBy_1 ?_
  refine x_iload_n (pc := 4) hC dX8_gainBy_4 rfl rfl ?_
  obtain ⟨hb1, h⟩ := jck_some h
  refine x_iald (pc := 5) hC (ko8_11 ht) (by rw [lo8_11 ht]; exact hb1) dX8_gainBy_5 ?_
  refine x_iload_n (pc := 6) hC dX8_gainBy_6 rfl rfl ?_
  refine x_imul (pc := 7) hC dX8_gainBy_7 ?_
  refine x_sipush (pc := 8) hC dX8_gainBy_8 rfl ?_
  obtain ⟨v3, e2, h⟩ := jbR_some h
  refine x_cS (pc := 11) hC ms_X8_173 (ok_J9_floorDiv_7cf53 hn e2) rfl (Nat.le_of_ble_eq_true rfl) (jRo0 C) (Nat.le_of_ble_eq_true rfl) dX8_gainBy_11 rfl ?_
  exact x_iret (pc := 14) hC hR dX8_gainBy_14 (jrR h) rfl

set_option maxHeartbeats 4000000 in
set_option maxRecDepth 20000 in
theorem ok_X8_gainOf {X : jX} {n : Nat} (hn : 179 ≤ n) {t : Int} {l1 : Int} {l2 : Int} {M : jM} {rz : Int} (ht : jkd t = 8) (h : f_X8_gainOf t l1 l2 M = some rz) : jCt X n yX8_gainOf cX8_gainOf 3 (some .int) 2 [jA t, jI l1, jI l2] M (some (jI rz)) M := by
  refine jCt_of (own := RX8) (ls := [jA t, jI l1, jI l2]) (by decide +kernel) rfl hn (Nat.le_of_ble_eq_true rfl) rfl ?_
  intro C hC hR
  unfold f_X8_gainOf at h
  refine x_aloadA_n (pc := 0) hC dX8_gainOf_0 rfl rfl ht (by decide) ?_
  refine x_iload_n (pc := 1) hC dX8_gainOf_1 rfl rfl ?_
  refine x_aloadA_n (pc := 2) hC dX8_gainOf_2 rfl rfl ht (by decide) ?_
  refine x_iload_n (pc := 3) hC dX8_gainOf_3 rfl rfl ?_
  refine x_iload_n (pc := 4) hC dX8_gainOf_4 rfl rfl ?_
  obtain ⟨v2, e1, h⟩ := jbR_some h
  refine x_cV (pc := 5) hC mv_X8_176 (ok_X8_trimmed hn ht e1) rfl (Nat.le_of_ble_eq_true rfl) ht rfl (by decide) (jRo0 C) (Nat.le_of_ble_eq_true rfl) dX8_gainOf_5 rfl ?_
  obtain ⟨v4, e3, h⟩ := jbR_some h
  refine x_cV (pc := 8) hC mv_X8_164 (ok_X8_gainBy hn ht e3) rfl (Nat.le_of_ble_eq_true rfl) ht rfl (by decide) (jRo0 C) (Nat.le_of_ble_eq_true rfl) dX8_gainOf_8 rfl ?_
  exact x_iret (pc := 11) hC hR dX8_gainOf_11 (jrR h) rfl

set_option maxHeartbeats 4000000 in
set_option maxRecDepth 20000 in
theorem ok_X8_pointsOf {X : jX} {n : Nat} (hn : 179 ≤ n) {t : Int} {l1 : Int} {l2 : Int} {M : jM} {rz : Int} (ht : jkd t = 8) (h : f_X8_pointsOf t l1 l2 M = some rz) : jCt X n yX8_pointsOf cX8_pointsOf 3 (some .int) 3 [jA t, jI l1, jI l2] M (some (jI rz)) M := by
  refine jCt_of (own := RX8) (ls := [jA t, jI l1, jI l2]) (by decide +kernel) rfl hn (Nat.le_of_ble_eq_true rfl) rfl ?_
  intro C hC hR
  unfold f_X8_pointsOf at h
  refine x_aloadA_n (pc := 0) hC dX8_pointsOf_0 rfl rfl ht (by decide) ?_
  refine x_iload_n (pc := 1) hC dX8_pointsOf_1 rfl rfl ?_
  obtain ⟨v2, e1, h⟩ := jbR_some h
  refine x_cV (pc := 2) hC mv_X8_128 (ok_X8_worthOf hn ht e1) rfl (Nat.le_of_ble_eq_true rfl) ht rfl (by decide) (jRo0 C) (Nat.le_of_ble_eq_true rfl) dX8_pointsOf_2 rfl ?_
  refine x_aloadA_n (pc := 5) hC dX8_pointsOf_5 rfl rfl ht (by decide) ?_
  refine x_iload_n (pc := 6) hC dX8_pointsOf_6 rfl rfl ?_
  refine x_iload_n (pc := 7) hC dX8_pointsOf_7 rfl rfl ?_
  obtain ⟨v4, e3, h⟩ := jbR_some h
  refine x_cV (pc := 8) hC mv_X8_155 (ok_X8_gainOf hn ht e3) rfl (Nat.le_of_ble_eq_true rfl) ht rfl (by decide) (jRo0 C) (Nat.le_of_ble_eq_true rfl) dX8_pointsOf_8 rfl ?_
  refine x_iadd (pc := 11) hC dX8_pointsOf_11 ?_
  exact x_iret (pc := 12) hC hR dX8_pointsOf_12 (jrR h) rfl

set_option maxHeartbeats 4000000 in
set_option maxRecDepth 20000 in
theorem ok_X3_putAttempt {X : jX} {n : Nat} (hn : 179 ≤ n) {l1 : Int} {l2 : Int} {l3 : Int} {l4 : Int} {M : jM} {Mz : jM} (hl1 : jkd l1 = 1) (hl2 : jkd l2 = 6) (hl4 : jkd l4 = 8) (h : f_X3_putAttempt l1 l2 l3 l4 M = some Mz) : jCt X n yX3_putAttempt cX3_putAttempt 6 (none) 4 [jA 164, jA l1, jA l2, jI l3, jA l4] M (none) Mz := by
  refine jCt_of (own := RX3) (ls := [jA 164, jA l1, jA l2, jI l3, jA l4, jN]) (by decide +kernel) rfl hn (Nat.le_of_ble_eq_true rfl) rfl ?_
  intro C hC hR
  unfold f_X3_putAttempt at h
  refine x_aloadA_n (pc := 0) hC dX3_putAttempt_0 rfl rfl k_164 (by decide) ?_
  refine x_bipush (pc := 1) hC dX3_putAttempt_1 rfl ?_
  obtain ⟨M2, e1, h⟩ := jbV_some h
  refine x_cV (pc := 3) hC mv_X3_33 (ok_X3_put hn e1) rfl (Nat.le_of_ble_eq_true rfl) k_164 rfl (by decide) (jRo0 C) (Nat.le_of_ble_eq_true rfl) dX3_putAttempt_3 rfl ?_
  refine x_iconst (pc := 6) hC dX3_putAttempt_6 ?_
  refine x_istore (ls2 := [jA 164, jA l1, jA l2, jI l3, jA l4, jI 0]) (pc := 7) hC dX3_putAttempt_7 (by decide) rfl rfl rfl ?_
  refine jlp2_ind (P := fun (l5_3 : Int) (M4 : jM) => jG C X n 6 0 0 9 [jA 164, jA l1, jA l2, jI l3, jA l4, jI l5_3] [] M4) ?_ _ _ _ h
  intro self5 l5_3 M4 Hself5 h
  refine x_iload (pc := 9) hC dX3_putAttempt_9 rfl ?_
  refine x_aloadA_n (pc := 11) hC dX3_putAttempt_11 rfl rfl hl2 (by decide) ?_
  refine x_gf (pc := 12) (b := (l2 + 2)) hC fl_X3_58 ft6_4 hl2 (by decide) (off := 2) (by decide +kernel) rfl dX3_putAttempt_12 ?_
  refine x_iload_n (pc := 15) hC dX3_putAttempt_15 rfl rfl ?_
  obtain ⟨hb6, h⟩ := jck_some h
  refine x_iald (pc := 16) hC (ko6_4 hl2) (by rw [lo6_4 hl2]; exact hb6) dX3_putAttempt_16 ?_
  refine x_icmp_ge (tgt := 56) (pc := 17) hC dX3_putAttempt_17 (by decide) (fun hc => ?_) (fun hc => ?_)
  · replace h := jit_pos hc h
    refine x_aloadA_n (pc := 56) hC dX3_putAttempt_56 rfl rfl hl2 (by decide) ?_
    refine x_gf (pc := 57) (b := (l2 + 4)) hC fl_X3_67 ft6_6 hl2 (by decide) (off := 4) (by decide +kernel) rfl dX3_putAttempt_57 ?_
    refine x_iload_n (pc := 60) hC dX3_putAttempt_60 rfl rfl ?_
    obtain ⟨hb7, h⟩ := jck_some h
    refine x_iald (pc := 61) hC (ko6_6 hl2) (by rw [lo6_6 hl2]; exact hb7) dX3_putAttempt_61 ?_
    refine x_iconst (pc := 62) hC dX3_putAttempt_62 ?_
    refine x_iand (pc := 63) hC dX3_putAttempt_63 ?_
    obtain ⟨k9, Hk9, h⟩ := jk_some (P := fun k9 => ∀ (M8 : jM), k9 M8 = some Mz → jG C X n 6 0 0 73 [jA 164, jA l1, jA l2, jI l3, jA l4, jI l5_3] [] M8) h (by
      intro M8 h
      refine x_aloadA_n (pc := 73) hC dX3_putAttempt_73 rfl rfl hl2 (by decide) ?_
      refine x_gf (pc := 74) (b := (l2 + 4)) hC fl_X3_67 ft6_6 hl2 (by decide) (off := 4) (by decide +kernel) rfl dX3_putAttempt_74 ?_
      refine x_iload_n (pc := 77) hC dX3_putAttempt_77 rfl rfl ?_
      obtain ⟨hb10, h⟩ := jck_some h
      refine x_iald (pc := 78) hC (ko6_6 hl2) (by rw [lo6_6 hl2]; exact hb10) dX3_putAttempt_78 ?_
      refine x_iconst (pc := 79) hC dX3_putAttempt_79 ?_
      refine x_iand (pc := 80) hC dX3_putAttempt_80 ?_
      obtain ⟨k12, Hk12, h⟩ := jk_some (P := fun k12 => ∀ (M11 : jM), k12 M11 = some Mz → jG C X n 6 0 0 90 [jA 164, jA l1, jA l2, jI l3, jA l4, jI l5_3] [] M11) h (by
        intro M11 h
        refine x_aloadA (pc := 90) hC dX3_putAttempt_90 rfl hl4 (by decide) ?_
        refine x_iload_n (pc := 92) hC dX3_putAttempt_92 rfl rfl ?_
        obtain ⟨v14, e13, h⟩ := jbR_some h
        refine x_cV (pc := 93) hC mv_X3_70 (ok_X8_isLate hn hl4 e13) rfl (Nat.le_of_ble_eq_true rfl) hl4 rfl (by decide) (jRo0 C) (Nat.le_of_ble_eq_true rfl) dX3_putAttempt_93 rfl ?_
        obtain ⟨k16, Hk16, h⟩ := jk_some (P := fun k16 => ∀ (M15 : jM), k16 M15 = some Mz → jG C X n 6 0 0 105 [jA 164, jA l1, jA l2, jI l3, jA l4, jI l5_3] [] M15) h (by
          intro M15 h
          refine x_aloadA_n (pc := 105) hC dX3_putAttempt_105 rfl rfl k_164 (by decide) ?_
          refine x_bipush (pc := 106) hC dX3_putAttempt_106 rfl ?_
          obtain ⟨M18, e17, h⟩ := jbV_some h
          refine x_cV (pc := 108) hC mv_X3_33 (ok_X3_put hn e17) rfl (Nat.le_of_ble_eq_true rfl) k_164 rfl (by decide) (jRo0 C) (Nat.le_of_ble_eq_true rfl) dX3_putAttempt_108 rfl ?_
          refine x_aloadA_n (pc := 111) hC dX3_putAttempt_111 rfl rfl k_164 (by decide) ?_
          refine x_aloadA (pc := 112) hC dX3_putAttempt_112 rfl hl4 (by decide) ?_
          refine x_iload_n (pc := 114) hC dX3_putAttempt_114 rfl rfl ?_
          refine x_aloadA_n (pc := 115) hC dX3_putAttempt_115 rfl rfl hl1 (by decide) ?_
          obtain ⟨v20, e19, h⟩ := jbR_some h
          refine x_cV (pc := 116) hC mv_X3_73 (ok_X1_everyJudge hn hl1 e19) rfl (Nat.le_of_ble_eq_true rfl) hl1 rfl (by decide) (jRo0 C) (Nat.le_of_ble_eq_true rfl) dX3_putAttempt_116 rfl ?_
          obtain ⟨v22, e21, h⟩ := jbR_some h
          refine x_cV (pc := 119) hC mv_X3_77 (ok_X8_pointsOf hn hl4 e21) rfl (Nat.le_of_ble_eq_true rfl) hl4 rfl (by decide) (jRo0 C) (Nat.le_of_ble_eq_true rfl) dX3_putAttempt_119 rfl ?_
          obtain ⟨M24, e23, h⟩ := jbV_some h
          refine x_cV (pc := 122) hC mv_X3_42 (ok_X3_putHundredths hn e23) rfl (Nat.le_of_ble_eq_true rfl) k_164 rfl (by decide) (jRo0 C) (Nat.le_of_ble_eq_true rfl) dX3_putAttempt_122 rfl ?_
          exact x_vret (pc := 125) hC hR dX3_putAttempt_125 (jrR h))
        refine x_if_eq (tgt := 105) (pc := 96) hC dX3_putAttempt_96 (by decide) (fun hc => ?_) (fun hc => ?_)
        · replace h := jit_pos hc h
          exact Hk16 _ h
        · replace h := jit_neg hc h
          refine x_aloadA_n (pc := 99) hC dX3_putAttempt_99 rfl rfl k_164 (by decide) ?_
          refine x_bipush (pc := 100) hC dX3_putAttempt_100 rfl ?_
          obtain ⟨M26, e25, h⟩ := jbV_some h
          refine x_cV (pc := 102) hC mv_X3_33 (ok_X3_put hn e25) rfl (Nat.le_of_ble_eq_true rfl) k_164 rfl (by decide) (jRo0 C) (Nat.le_of_ble_eq_true rfl) dX3_putAttempt_102 rfl ?_
          exact Hk16 _ h)
      refine x_if_eq (tgt := 90) (pc := 81) hC dX3_putAttempt_81 (by decide) (fun hc => ?_) (fun hc => ?_)
      · replace h := jit_pos hc h
        exact Hk12 _ h
      · replace h := jit_neg hc h
        refine x_aloadA_n (pc := 84) hC dX3_putAttempt_84 rfl rfl k_164 (by decide) ?_
        refine x_bipush (pc := 85) hC dX3_putAttempt_85 rfl ?_
        obtain ⟨M28, e27, h⟩ := jbV_some h
        refine x_cV (pc := 87) hC mv_X3_33 (ok_X3_put hn e27) rfl (Nat.le_of_ble_eq_true rfl) k_164 rfl (by decide) (jRo0 C) (Nat.le_of_ble_eq_true rfl) dX3_putAttempt_87 rfl ?_
        exact Hk12 _ h)
    refine x_if_eq (tgt := 73) (pc := 64) hC dX3_putAttempt_64 (by decide) (fun hc => ?_) (fun hc => ?_)
    · replace h := jit_pos hc h
      exact Hk9 _ h
    · replace h := jit_neg hc h
      refine x_aloadA_n (pc := 67) hC dX3_putAttempt_67 rfl rfl k_164 (by decide) ?_
      refine x_bipush (pc := 68) hC dX3_putAttempt_68 rfl ?_
      obtain ⟨M30, e29, h⟩ := jbV_some h
      refine x_cV (pc := 70) hC mv_X3_33 (ok_X3_put hn e29) rfl (Nat.le_of_ble_eq_true rfl) k_164 rfl (by decide) (jRo0 C) (Nat.le_of_ble_eq_true rfl) dX3_putAttempt_70 rfl ?_
      exact Hk9 _ h
  · replace h := jit_neg hc h
    refine x_iload (pc := 20) hC dX3_putAttempt_20 rfl ?_
    obtain ⟨k32, Hk32, h⟩ := jk_some (P := fun k32 => ∀ (M31 : jM), k32 M31 = some Mz → jG C X n 6 0 0 31 [jA 164, jA l1, jA l2, jI l3, jA l4, jI l5_3] [] M31) h (by
      intro M31 h
      refine x_aloadA_n (pc := 31) hC dX3_putAttempt_31 rfl rfl k_164 (by decide) ?_
      refine x_aloadA_n (pc := 32) hC dX3_putAttempt_32 rfl rfl hl1 (by decide) ?_
      refine x_gf (pc := 33) (b := (l1 + 2)) hC fl_X3_61 ft1_2 hl1 (by decide) (off := 2) (by decide +kernel) rfl dX3_putAttempt_33 ?_
      refine x_aloadA_n (pc := 36) hC dX3_putAttempt_36 rfl rfl hl2 (by decide) ?_
      refine x_gf (pc := 37) (b := (l2 + 3)) hC fl_X3_64 ft6_5 hl2 (by decide) (off := 3) (by decide +kernel) rfl dX3_putAttempt_37 ?_
      refine x_iload_n (pc := 40) hC dX3_putAttempt_40 rfl rfl ?_
      refine x_iconst (pc := 41) hC dX3_putAttempt_41 ?_
      refine x_imul (pc := 42) hC dX3_putAttempt_42 ?_
      refine x_iload (pc := 43) hC dX3_putAttempt_43 rfl ?_
      refine x_iadd (pc := 45) hC dX3_putAttempt_45 ?_
      obtain ⟨hb33, h⟩ := jck_some h
      refine x_iald (pc := 46) hC (ko6_5 hl2) (by rw [lo6_5 hl2]; exact hb33) dX3_putAttempt_46 ?_
      obtain ⟨M35, e34, h⟩ := jbV_some h
      refine x_cV (pc := 47) hC mv_X3_29 (ok_X3_putLetters hn (ko1_2 hl1) e34) rfl (Nat.le_of_ble_eq_true rfl) k_164 rfl (by decide) (jRo0 C) (Nat.le_of_ble_eq_true rfl) dX3_putAttempt_47 rfl ?_
      obtain ⟨l5_36, el5_36, h⟩ := jlet_some h
      refine x_iinc (ls2 := [jA 164, jA l1, jA l2, jI l3, jA l4, jI l5_36]) (pc := 50) hC dX3_putAttempt_50 rfl (by decide) rfl el5_36 rfl ?_
      refine x_goto (tgt := 9) (pc := 53) hC dX3_putAttempt_53 (by decide) ?_
      exact Hself5 _ _ h)
    refine x_if_le (tgt := 31) (pc := 22) hC dX3_putAttempt_22 (by decide) (fun hc => ?_) (fun hc => ?_)
    · replace h := jit_pos hc h
      exact Hk32 _ h
    · replace h := jit_neg hc h
      refine x_aloadA_n (pc := 25) hC dX3_putAttempt_25 rfl rfl k_164 (by decide) ?_
      refine x_bipush (pc := 26) hC dX3_putAttempt_26 rfl ?_
      obtain ⟨M38, e37, h⟩ := jbV_some h
      refine x_cV (pc := 28) hC mv_X3_33 (ok_X3_put hn e37) rfl (Nat.le_of_ble_eq_true rfl) k_164 rfl (by decide) (jRo0 C) (Nat.le_of_ble_eq_true rfl) dX3_putAttempt_28 rfl ?_
      exact Hk32 _ h

set_option maxHeartbeats 4000000 in
set_option maxRecDepth 20000 in
theorem ok_X3_putSkater {X : jX} {n : Nat} (hn : 179 ≤ n) {l1 : Int} {l2 : Int} {l3 : Int} {M : jM} {Mz : jM} (hl1 : jkd l1 = 1) (hl3 : jkd l3 = 8) (h : f_X3_putSkater l1 l2 l3 M = some Mz) : jCt X n yX3_putSkater cX3_putSkater 6 (none) 5 [jA 164, jA l1, jI l2, jA l3] M (none) Mz := by
  refine jCt_of (own := RX3) (ls := [jA 164, jA l1, jI l2, jA l3, jN, jN]) (by decide +kernel) rfl hn (Nat.le_of_ble_eq_true rfl) rfl ?_
  intro C hC hR
  unfold f_X3_putSkater at h
  refine x_aloadA_n (pc := 0) hC dX3_putSkater_0 rfl rfl hl1 (by decide) ?_
  refine x_gf (pc := 1) (b := (l1 + 16)) hC fl_X3_19 ft1_7 hl1 (by decide) (off := 16) (by decide +kernel) rfl dX3_putSkater_1 ?_
  refine x_iload_n (pc := 4) hC dX3_putSkater_4 rfl rfl ?_
  obtain ⟨hb1, h⟩ := jck_some h
  refine x_aald14 (pc := 5) hC (ko1_7 hl1) hb1 rfl dX3_putSkater_5 ?_
  refine x_astoreA (ls2 := [jA 164, jA l1, jI l2, jA l3, jA ((l1 + 16) + 1 + 6 * jw l2), jN]) (pc := 6) hC dX3_putSkater_6 (by decide) rfl (jsk (ko1_7 hl1) hb1.1 hb1.2) (by decide) rfl ?_
  refine x_aloadA_n (pc := 8) hC dX3_putSkater_8 rfl rfl k_164 (by decide) ?_
  refine x_iconst (pc := 9) hC dX3_putSkater_9 ?_
  obtain ⟨M2, eM2, h⟩ := jlet_some h
  refine x_pi (pc := 10) (ji := 1) hC fl_X3_15 rfl ft3_1 k_164 dX3_putSkater_10 eM2 ?_
  refine x_aloadA_n (pc := 13) hC dX3_putSkater_13 rfl rfl k_164 (by decide) ?_
  refine x_aloadA_n (pc := 14) hC dX3_putSkater_14 rfl rfl hl1 (by decide) ?_
  refine x_gf (pc := 15) (b := (l1 + 13)) hC fl_X3_25 ft1_6 hl1 (by decide) (off := 13) (by decide +kernel) rfl dX3_putSkater_15 ?_
  refine x_iload_n (pc := 18) hC dX3_putSkater_18 rfl rfl ?_
  obtain ⟨M4, e3, h⟩ := jbV_some h
  refine x_cV (pc := 19) hC mv_X3_29 (ok_X3_putLetters hn (ko1_6 hl1) e3) rfl (Nat.le_of_ble_eq_true rfl) k_164 rfl (by decide) (jRo0 C) (Nat.le_of_ble_eq_true rfl) dX3_putSkater_19 rfl ?_
  refine x_aloadA_n (pc := 22) hC dX3_putSkater_22 rfl rfl k_164 (by decide) ?_
  refine x_bipush (pc := 23) hC dX3_putSkater_23 rfl ?_
  obtain ⟨M6, e5, h⟩ := jbV_some h
  refine x_cV (pc := 25) hC mv_X3_33 (ok_X3_put hn e5) rfl (Nat.le_of_ble_eq_true rfl) k_164 rfl (by decide) (jRo0 C) (Nat.le_of_ble_eq_true rfl) dX3_putSkater_25 rfl ?_
  refine x_aloadA_n (pc := 28) hC dX3_putSkater_28 rfl rfl k_164 (by decide) ?_
  refine x_aloadA_n (pc := 29) hC dX3_putSkater_29 rfl rfl hl3 (by decide) ?_
  refine x_gi (pc := 30) (ji := 8) hC fl_X3_37 rfl fn8_8 hl3 dX3_putSkater_30 ?_
  obtain ⟨M8, e7, h⟩ := jbV_some h
  refine x_cV (pc := 33) hC mv_X3_42 (ok_X3_putHundredths hn e7) rfl (Nat.le_of_ble_eq_true rfl) k_164 rfl (by decide) (jRo0 C) (Nat.le_of_ble_eq_true rfl) dX3_putSkater_33 rfl ?_
  refine x_iconst (pc := 36) hC dX3_putSkater_36 ?_
  refine x_istore (ls2 := [jA 164, jA l1, jI l2, jA l3, jA ((l1 + 16) + 1 + 6 * jw l2), jI 0]) (pc := 37) hC dX3_putSkater_37 (by decide) rfl rfl rfl ?_
  refine jlp2_ind (P := fun (l5_9 : Int) (M10 : jM) => jG C X n 6 0 0 39 [jA 164, jA l1, jI l2, jA l3, jA ((l1 + 16) + 1 + 6 * jw l2), jI l5_9] [] M10) ?_ _ _ _ h
  intro self11 l5_9 M10 Hself11 h
  refine x_iload (pc := 39) hC dX3_putSkater_39 rfl ?_
  refine x_aloadA (pc := 41) hC dX3_putSkater_41 rfl (jsk (ko1_7 hl1) hb1.1 hb1.2) (by decide) ?_
  refine x_gi (pc := 43) (ji := 0) hC fl_X3_45 rfl fn6_0 (jsk (ko1_7 hl1) hb1.1 hb1.2) dX3_putSkater_43 ?_
  refine x_icmp_ge (tgt := 75) (pc := 46) hC dX3_putSkater_46 (by decide) (fun hc => ?_) (fun hc => ?_)
  · replace h := jit_pos hc h
    exact x_vret (pc := 75) hC hR dX3_putSkater_75 (jrR h)
  · replace h := jit_neg hc h
    refine x_aloadA (pc := 49) hC dX3_putSkater_49 rfl (jsk (ko1_7 hl1) hb1.1 hb1.2) (by decide) ?_
    refine x_iload (pc := 51) hC dX3_putSkater_51 rfl ?_
    obtain ⟨v13, e12, h⟩ := jbR_some h
    refine x_cV (pc := 53) hC mv_X3_50 (ok_X6_has hn (jsk (ko1_7 hl1) hb1.1 hb1.2) e12) rfl (Nat.le_of_ble_eq_true rfl) (jsk (ko1_7 hl1) hb1.1 hb1.2) rfl (by decide) (jRo0 C) (Nat.le_of_ble_eq_true rfl) dX3_putSkater_53 rfl ?_
    refine x_if_eq (tgt := 69) (pc := 56) hC dX3_putSkater_56 (by decide) (fun hc => ?_) (fun hc => ?_)
    · replace h := jit_pos hc h
      obtain ⟨l5_14, el5_14, h⟩ := jlet_some h
      refine x_iinc (ls2 := [jA 164, jA l1, jI l2, jA l3, jA ((l1 + 16) + 1 + 6 * jw l2), jI l5_14]) (pc := 69) hC dX3_putSkater_69 rfl (by decide) rfl el5_14 rfl ?_
      refine x_goto (tgt := 39) (pc := 72) hC dX3_putSkater_72 (by decide) ?_
      exact Hself11 _ _ h
    · replace h := jit_neg hc h
      refine x_aloadA_n (pc := 59) hC dX3_putSkater_59 rfl rfl k_164 (by decide) ?_
      refine x_aloadA_n (pc := 60) hC dX3_putSkater_60 rfl rfl hl1 (by decide) ?_
      refine x_aloadA (pc := 61) hC dX3_putSkater_61 rfl (jsk (ko1_7 hl1) hb1.1 hb1.2) (by decide) ?_
      refine x_iload (pc := 63) hC dX3_putSkater_63 rfl ?_
      refine x_aloadA_n (pc := 65) hC dX3_putSkater_65 rfl rfl hl3 (by decide) ?_
      obtain ⟨M16, e15, h⟩ := jbV_some h
      refine x_cV (pc := 66) hC mv_X3_54 (ok_X3_putAttempt hn hl1 (jsk (ko1_7 hl1) hb1.1 hb1.2) hl3 e15) rfl (Nat.le_of_ble_eq_true rfl) k_164 rfl (by decide) (jRo0 C) (Nat.le_of_ble_eq_true rfl) dX3_putSkater_66 rfl ?_
      obtain ⟨l5_17, el5_17, h⟩ := jlet_some h
      refine x_iinc (ls2 := [jA 164, jA l1, jI l2, jA l3, jA ((l1 + 16) + 1 + 6 * jw l2), jI l5_17]) (pc := 69) hC dX3_putSkater_69 rfl (by decide) rfl el5_17 rfl ?_
      refine x_goto (tgt := 39) (pc := 72) hC dX3_putSkater_72 (by decide) ?_
      exact Hself11 _ _ h

set_option maxHeartbeats 4000000 in
set_option maxRecDepth 20000 in
theorem ok_X4_advance {X : jX} {n : Nat} (hn : 179 ≤ n) {M : jM} {Mz : jM} (h : f_X4_advance M = some Mz) : jCt X n yX4_advance cX4_advance 2 (none) 0 [jA 109] M (none) Mz := by
  refine jCt_of (own := RX4) (ls := [jA 109, jN]) (by decide +kernel) rfl hn (Nat.le_of_ble_eq_true rfl) rfl ?_
  intro C hC hR
  unfold f_X4_advance at h
  refine x_aloadA_n (pc := 0) hC dX4_advance_0 rfl rfl k_109 (by decide) ?_
  refine x_gi (pc := 1) (ji := 4) hC fl_X4_18 rfl fn4_4 k_109 dX4_advance_1 ?_
  refine x_aloadA_n (pc := 4) hC dX4_advance_4 rfl rfl k_109 (by decide) ?_
  refine x_gi (pc := 5) (ji := 5) hC fl_X4_21 rfl fn4_5 k_109 dX4_advance_5 ?_
  refine x_iadd (pc := 8) hC dX4_advance_8 ?_
  obtain ⟨l1_1, el1_1, h⟩ := jlet_some h
  refine x_istore_n (ls2 := [jA 109, jI l1_1]) (pc := 9) hC dX4_advance_9 rfl (by decide) rfl el1_1 rfl ?_
  refine jlp1_ind (P := fun (l1_2 : Int) => jG C X n 2 0 0 10 [jA 109, jI l1_2] [] M) ?_ _ _ h
  intro self3 l1_2 Hself3 h
  refine x_iload_n (pc := 10) hC dX4_advance_10 rfl rfl ?_
  refine x_aloadA_n (pc := 11) hC dX4_advance_11 rfl rfl k_109 (by decide) ?_
  refine x_gi (pc := 12) (ji := 2) hC fl_X4_9 rfl fn4_2 k_109 dX4_advance_12 ?_
  obtain ⟨k4, Hk4, h⟩ := jk_some (P := fun k4 => k4 = some Mz → jG C X n 2 0 0 57 [jA 109, jI l1_2] [] M) h (by
    intro h
    refine x_aloadA_n (pc := 57) hC dX4_advance_57 rfl rfl k_109 (by decide) ?_
    refine x_iload_n (pc := 58) hC dX4_advance_58 rfl rfl ?_
    obtain ⟨M5, eM5, h⟩ := jlet_some h
    refine x_pi (pc := 59) (ji := 4) hC fl_X4_18 rfl ft4_4 k_109 dX4_advance_59 eM5 ?_
    refine x_aloadA_n (pc := 62) hC dX4_advance_62 rfl rfl k_109 (by decide) ?_
    refine x_iload_n (pc := 63) hC dX4_advance_63 rfl rfl ?_
    refine x_aloadA_n (pc := 64) hC dX4_advance_64 rfl rfl k_109 (by decide) ?_
    refine x_gi (pc := 65) (ji := 2) hC fl_X4_9 rfl fn4_2 k_109 dX4_advance_65 ?_
    obtain ⟨k7, Hk7, h⟩ := jk_some (P := fun k7 => ∀ (s1_6 : Int), k7 s1_6 = some Mz → jG C X n 2 0 0 81 [jA 109, jI l1_2] [jI s1_6, jA 109] M5) h (by
      intro s1_6 h
      obtain ⟨M8, eM8, h⟩ := jlet_some h
      refine x_pi (pc := 81) (ji := 3) hC fl_X4_15 rfl ft4_3 k_109 dX4_advance_81 eM8 ?_
      refine x_aloadA_n (pc := 84) hC dX4_advance_84 rfl rfl k_109 (by decide) ?_
      refine x_gi (pc := 85) (ji := 3) hC fl_X4_15 rfl fn4_3 k_109 dX4_advance_85 ?_
      refine x_bipush (pc := 88) hC dX4_advance_88 rfl ?_
      obtain ⟨k11, Hk11, h⟩ := jk_some (P := fun k11 => ∀ (l1_9 : Int) (M10 : jM), k11 l1_9 M10 = some Mz → jG C X n 2 0 0 215 [jA 109, jI l1_9] [] M10) h (by
        intro l1_9 M10 h
        refine x_aloadA_n (pc := 215) hC dX4_advance_215 rfl rfl k_109 (by decide) ?_
        refine x_iload_n (pc := 216) hC dX4_advance_216 rfl rfl ?_
        refine x_aloadA_n (pc := 217) hC dX4_advance_217 rfl rfl k_109 (by decide) ?_
        refine x_gi (pc := 218) (ji := 4) hC fl_X4_18 rfl fn4_4 k_109 dX4_advance_218 ?_
        refine x_isub (pc := 221) hC dX4_advance_221 ?_
        obtain ⟨M12, eM12, h⟩ := jlet_some h
        refine x_pi (pc := 222) (ji := 5) hC fl_X4_21 rfl ft4_5 k_109 dX4_advance_222 eM12 ?_
        exact x_vret (pc := 225) hC hR dX4_advance_225 (jrR h))
      obtain ⟨k13, Hk13, h⟩ := jk_some (P := fun k13 => k13 = some Mz → jG C X n 2 0 0 144 [jA 109, jI l1_2] [] M8) h (by
        intro h
        refine x_aloadA_n (pc := 144) hC dX4_advance_144 rfl rfl k_109 (by decide) ?_
        refine x_gi (pc := 145) (ji := 3) hC fl_X4_15 rfl fn4_3 k_109 dX4_advance_145 ?_
        refine x_bipush (pc := 148) hC dX4_advance_148 rfl ?_
        obtain ⟨k14, Hk14, h⟩ := jk_some (P := fun k14 => k14 = some Mz → jG C X n 2 0 0 204 [jA 109, jI l1_2] [] M8) h (by
          intro h
          refine x_aloadA_n (pc := 204) hC dX4_advance_204 rfl rfl k_109 (by decide) ?_
          refine x_gi (pc := 205) (ji := 3) hC fl_X4_15 rfl fn4_3 k_109 dX4_advance_205 ?_
          refine x_iconst (pc := 208) hC dX4_advance_208 ?_
          refine x_icmp_eq (tgt := 215) (pc := 209) hC dX4_advance_209 (by decide) (fun hc => ?_) (fun hc => ?_)
          · replace h := jit_pos hc h
            exact Hk11 _ _ h
          · replace h := jit_neg hc h
            obtain ⟨l1_15, el1_15, h⟩ := jlet_some h
            refine x_iinc (ls2 := [jA 109, jI l1_15]) (pc := 212) hC dX4_advance_212 rfl (by decide) rfl el1_15 rfl ?_
            exact Hk11 _ _ h)
        refine x_icmp_lt (tgt := 204) (pc := 150) hC dX4_advance_150 (by decide) (fun hc => ?_) (fun hc => ?_)
        · replace h := jit_pos hc h
          exact Hk14 h
        · replace h := jit_neg hc h
          refine x_aloadA_n (pc := 153) hC dX4_advance_153 rfl rfl k_109 (by decide) ?_
          refine x_gi (pc := 154) (ji := 3) hC fl_X4_15 rfl fn4_3 k_109 dX4_advance_154 ?_
          refine x_bipush (pc := 157) hC dX4_advance_157 rfl ?_
          refine x_icmp_gt (tgt := 204) (pc := 159) hC dX4_advance_159 (by decide) (fun hc => ?_) (fun hc => ?_)
          · replace h := jit_pos hc h
            exact Hk14 h
          · replace h := jit_neg hc h
            refine x_aloadA_n (pc := 162) hC dX4_advance_162 rfl rfl k_109 (by decide) ?_
            refine x_bipush (pc := 163) hC dX4_advance_163 rfl ?_
            obtain ⟨M16, eM16, h⟩ := jlet_some h
            refine x_pi (pc := 165) (ji := 3) hC fl_X4_15 rfl ft4_3 k_109 dX4_advance_165 eM16 ?_
            refine jlp1_ind (P := fun (l1_17 : Int) => jG C X n 2 0 0 168 [jA 109, jI l1_17] [] M16) ?_ _ _ h
            intro self18 l1_17 Hself18 h
            refine x_iload_n (pc := 168) hC dX4_advance_168 rfl rfl ?_
            refine x_aloadA_n (pc := 169) hC dX4_advance_169 rfl rfl k_109 (by decide) ?_
            refine x_gi (pc := 170) (ji := 2) hC fl_X4_9 rfl fn4_2 k_109 dX4_advance_170 ?_
            refine x_icmp_ge (tgt := 215) (pc := 173) hC dX4_advance_173 (by decide) (fun hc => ?_) (fun hc => ?_)
            · replace h := jit_pos hc h
              exact Hk11 _ _ h
            · replace h := jit_neg hc h
              refine x_aloadA_n (pc := 176) hC dX4_advance_176 rfl rfl k_109 (by decide) ?_
              refine x_gf (pc := 177) (b := 2) hC fl_X4_34 ft4_0 k_109 (by decide) (off := -107) (by decide +kernel) (by decide) dX4_advance_177 ?_
              refine x_iload_n (pc := 180) hC dX4_advance_180 rfl rfl ?_
              obtain ⟨hb19, h⟩ := jck_some h
              refine x_iald (pc := 181) hC k_2 (by rw [l_2]; exact hb19) dX4_advance_181 ?_
              refine x_bipush (pc := 182) hC dX4_advance_182 rfl ?_
              refine x_icmp_lt (tgt := 215) (pc := 184) hC dX4_advance_184 (by decide) (fun hc => ?_) (fun hc => ?_)
              · replace h := jit_pos hc h
                exact Hk11 _ _ h
              · replace h := jit_neg hc h
                refine x_aloadA_n (pc := 187) hC dX4_advance_187 rfl rfl k_109 (by decide) ?_
                refine x_gf (pc := 188) (b := 2) hC fl_X4_34 ft4_0 k_109 (by decide) (off := -107) (by decide +kernel) (by decide) dX4_advance_188 ?_
                refine x_iload_n (pc := 191) hC dX4_advance_191 rfl rfl ?_
                obtain ⟨hb20, h⟩ := jck_some h
                refine x_iald (pc := 192) hC k_2 (by rw [l_2]; exact hb20) dX4_advance_192 ?_
                refine x_bipush (pc := 193) hC dX4_advance_193 rfl ?_
                refine x_icmp_gt (tgt := 215) (pc := 195) hC dX4_advance_195 (by decide) (fun hc => ?_) (fun hc => ?_)
                · replace h := jit_pos hc h
                  exact Hk11 _ _ h
                · replace h := jit_neg hc h
                  obtain ⟨l1_21, el1_21, h⟩ := jlet_some h
                  refine x_iinc (ls2 := [jA 109, jI l1_21]) (pc := 198) hC dX4_advance_198 rfl (by decide) rfl el1_21 rfl ?_
                  refine x_goto (tgt := 168) (pc := 201) hC dX4_advance_201 (by decide) ?_
                  exact Hself18 _ h)
      refine x_icmp_lt (tgt := 144) (pc := 90) hC dX4_advance_90 (by decide) (fun hc => ?_) (fun hc => ?_)
      · replace h := jit_pos hc h
        exact Hk13 h
      · replace h := jit_neg hc h
        refine x_aloadA_n (pc := 93) hC dX4_advance_93 rfl rfl k_109 (by decide) ?_
        refine x_gi (pc := 94) (ji := 3) hC fl_X4_15 rfl fn4_3 k_109 dX4_advance_94 ?_
        refine x_bipush (pc := 97) hC dX4_advance_97 rfl ?_
        refine x_icmp_gt (tgt := 144) (pc := 99) hC dX4_advance_99 (by decide) (fun hc => ?_) (fun hc => ?_)
        · replace h := jit_pos hc h
          exact Hk13 h
        · replace h := jit_neg hc h
          refine x_aloadA_n (pc := 102) hC dX4_advance_102 rfl rfl k_109 (by decide) ?_
          refine x_bipush (pc := 103) hC dX4_advance_103 rfl ?_
          obtain ⟨M22, eM22, h⟩ := jlet_some h
          refine x_pi (pc := 105) (ji := 3) hC fl_X4_15 rfl ft4_3 k_109 dX4_advance_105 eM22 ?_
          refine jlp1_ind (P := fun (l1_23 : Int) => jG C X n 2 0 0 108 [jA 109, jI l1_23] [] M22) ?_ _ _ h
          intro self24 l1_23 Hself24 h
          refine x_iload_n (pc := 108) hC dX4_advance_108 rfl rfl ?_
          refine x_aloadA_n (pc := 109) hC dX4_advance_109 rfl rfl k_109 (by decide) ?_
          refine x_gi (pc := 110) (ji := 2) hC fl_X4_9 rfl fn4_2 k_109 dX4_advance_110 ?_
          refine x_icmp_ge (tgt := 215) (pc := 113) hC dX4_advance_113 (by decide) (fun hc => ?_) (fun hc => ?_)
          · replace h := jit_pos hc h
            exact Hk11 _ _ h
          · replace h := jit_neg hc h
            refine x_aloadA_n (pc := 116) hC dX4_advance_116 rfl rfl k_109 (by decide) ?_
            refine x_gf (pc := 117) (b := 2) hC fl_X4_34 ft4_0 k_109 (by decide) (off := -107) (by decide +kernel) (by decide) dX4_advance_117 ?_
            refine x_iload_n (pc := 120) hC dX4_advance_120 rfl rfl ?_
            obtain ⟨hb25, h⟩ := jck_some h
            refine x_iald (pc := 121) hC k_2 (by rw [l_2]; exact hb25) dX4_advance_121 ?_
            refine x_bipush (pc := 122) hC dX4_advance_122 rfl ?_
            refine x_icmp_lt (tgt := 215) (pc := 124) hC dX4_advance_124 (by decide) (fun hc => ?_) (fun hc => ?_)
            · replace h := jit_pos hc h
              exact Hk11 _ _ h
            · replace h := jit_neg hc h
              refine x_aloadA_n (pc := 127) hC dX4_advance_127 rfl rfl k_109 (by decide) ?_
              refine x_gf (pc := 128) (b := 2) hC fl_X4_34 ft4_0 k_109 (by decide) (off := -107) (by decide +kernel) (by decide) dX4_advance_128 ?_
              refine x_iload_n (pc := 131) hC dX4_advance_131 rfl rfl ?_
              obtain ⟨hb26, h⟩ := jck_some h
              refine x_iald (pc := 132) hC k_2 (by rw [l_2]; exact hb26) dX4_advance_132 ?_
              refine x_bipush (pc := 133) hC dX4_advance_133 rfl ?_
              refine x_icmp_gt (tgt := 215) (pc := 135) hC dX4_advance_135 (by decide) (fun hc => ?_) (fun hc => ?_)
              · replace h := jit_pos hc h
                exact Hk11 _ _ h
              · replace h := jit_neg hc h
                obtain ⟨l1_27, el1_27, h⟩ := jlet_some h
                refine x_iinc (ls2 := [jA 109, jI l1_27]) (pc := 138) hC dX4_advance_138 rfl (by decide) rfl el1_27 rfl ?_
                refine x_goto (tgt := 108) (pc := 141) hC dX4_advance_141 (by decide) ?_
                exact Hself24 _ h)
    refine x_icmp_ge (tgt := 80) (pc := 68) hC dX4_advance_68 (by decide) (fun hc => ?_) (fun hc => ?_)
    · replace h := jit_pos hc h
      refine x_iconst (pc := 80) hC dX4_advance_80 ?_
      exact Hk7 _ h
    · replace h := jit_neg hc h
      refine x_aloadA_n (pc := 71) hC dX4_advance_71 rfl rfl k_109 (by decide) ?_
      refine x_gf (pc := 72) (b := 2) hC fl_X4_34 ft4_0 k_109 (by decide) (off := -107) (by decide +kernel) (by decide) dX4_advance_72 ?_
      refine x_iload_n (pc := 75) hC dX4_advance_75 rfl rfl ?_
      obtain ⟨hb28, h⟩ := jck_some h
      refine x_iald (pc := 76) hC k_2 (by rw [l_2]; exact hb28) dX4_advance_76 ?_
      refine x_goto (tgt := 81) (pc := 77) hC dX4_advance_77 (by decide) ?_
      exact Hk7 _ h)
  refine x_icmp_ge (tgt := 57) (pc := 15) hC dX4_advance_15 (by decide) (fun hc => ?_) (fun hc => ?_)
  · replace h := jit_pos hc h
    exact Hk4 h
  · replace h := jit_neg hc h
    refine x_aloadA_n (pc := 18) hC dX4_advance_18 rfl rfl k_109 (by decide) ?_
    refine x_gf (pc := 19) (b := 2) hC fl_X4_34 ft4_0 k_109 (by decide) (off := -107) (by decide +kernel) (by decide) dX4_advance_19 ?_
    refine x_iload_n (pc := 22) hC dX4_advance_22 rfl rfl ?_
    obtain ⟨hb29, h⟩ := jck_some h
    refine x_iald (pc := 23) hC k_2 (by rw [l_2]; exact hb29) dX4_advance_23 ?_
    refine x_bipush (pc := 24) hC dX4_advance_24 rfl ?_
    refine x_icmp_eq (tgt := 51) (pc := 26) hC dX4_advance_26 (by decide) (fun hc => ?_) (fun hc => ?_)
    · replace h := jit_pos hc h
      obtain ⟨l1_30, el1_30, h⟩ := jlet_some h
      refine x_iinc (ls2 := [jA 109, jI l1_30]) (pc := 51) hC dX4_advance_51 rfl (by decide) rfl el1_30 rfl ?_
      refine x_goto (tgt := 10) (pc := 54) hC dX4_advance_54 (by decide) ?_
      exact Hself3 _ h
    · replace h := jit_neg hc h
      refine x_aloadA_n (pc := 29) hC dX4_advance_29 rfl rfl k_109 (by decide) ?_
      refine x_gf (pc := 30) (b := 2) hC fl_X4_34 ft4_0 k_109 (by decide) (off := -107) (by decide +kernel) (by decide) dX4_advance_30 ?_
      refine x_iload_n (pc := 33) hC dX4_advance_33 rfl rfl ?_
      obtain ⟨hb31, h⟩ := jck_some h
      refine x_iald (pc := 34) hC k_2 (by rw [l_2]; exact hb31) dX4_advance_34 ?_
      refine x_bipush (pc := 35) hC dX4_advance_35 rfl ?_
      refine x_icmp_eq (tgt := 51) (pc := 37) hC dX4_advance_37 (by decide) (fun hc => ?_) (fun hc => ?_)
      · replace h := jit_pos hc h
        obtain ⟨l1_32, el1_32, h⟩ := jlet_some h
        refine x_iinc (ls2 := [jA 109, jI l1_32]) (pc := 51) hC dX4_advance_51 rfl (by decide) rfl el1_32 rfl ?_
        refine x_goto (tgt := 10) (pc := 54) hC dX4_advance_54 (by decide) ?_
        exact Hself3 _ h
      · replace h := jit_neg hc h
        refine x_aloadA_n (pc := 40) hC dX4_advance_40 rfl rfl k_109 (by decide) ?_
        refine x_gf (pc := 41) (b := 2) hC fl_X4_34 ft4_0 k_109 (by decide) (off := -107) (by decide +kernel) (by decide) dX4_advance_41 ?_
        refine x_iload_n (pc := 44) hC dX4_advance_44 rfl rfl ?_
        obtain ⟨hb33, h⟩ := jck_some h
        refine x_iald (pc := 45) hC k_2 (by rw [l_2]; exact hb33) dX4_advance_45 ?_
        refine x_bipush (pc := 46) hC dX4_advance_46 rfl ?_
        refine x_icmp_ne (tgt := 57) (pc := 48) hC dX4_advance_48 (by decide) (fun hc => ?_) (fun hc => ?_)
        · replace h := jit_neg hc h
          exact Hk4 h
        · replace h := jit_pos hc h
          obtain ⟨l1_34, el1_34, h⟩ := jlet_some h
          refine x_iinc (ls2 := [jA 109, jI l1_34]) (pc := 51) hC dX4_advance_51 rfl (by decide) rfl el1_34 rfl ?_
          refine x_goto (tgt := 10) (pc := 54) hC dX4_advance_54 (by decide) ?_
          exact Hself3 _ h

set_option maxHeartbeats 4000000 in
set_option maxRecDepth 20000 in
theorem ok_X4_start {X : jX} {n : Nat} (hn : 179 ≤ n) {l1 : Int} {l2 : Int} {M : jM} {Mz : jM} (hl2 : jkd l2 = 1) (h : f_X4_start l1 l2 M = some Mz) : jCt X n yX4_start cX4_start 3 (none) 3 [jA 109, jI l1, jA l2] M (none) Mz := by
  refine jCt_of (own := RX4) (ls := [jA 109, jI l1, jA l2]) (by decide +kernel) rfl hn (Nat.le_of_ble_eq_true rfl) rfl ?_
  intro C hC hR
  unfold f_X4_start at h
  refine x_aloadA_n (pc := 0) hC dX4_start_0 rfl rfl k_109 (by decide) ?_
  refine x_aloadA_n (pc := 1) hC dX4_start_1 rfl rfl hl2 (by decide) ?_
  obtain ⟨M1, eM1, h⟩ := jlet_some h
  refine x_pr (pc := 2) (ji := 1) hC fl_X4_38 rfl ft4_1 k_109 dX4_start_2 eM1 ?_
  refine x_aloadA_n (pc := 5) hC dX4_start_5 rfl rfl k_109 (by decide) ?_
  obtain ⟨hk2, h⟩ := jck_some h
  refine x_gr (pc := 6) (ji := 1) hC fl_X4_38 rfl ft4_1 k_109 dX4_start_6 ?_
  obtain ⟨M4, e3, h⟩ := jbV_some h
  refine x_cV (pc := 9) hC mv_X4_84 (ok_X1_forget hn hk2 e3) rfl (Nat.le_of_ble_eq_true rfl) hk2 rfl (by decide) (jRo0 C) (Nat.le_of_ble_eq_true rfl) dX4_start_9 rfl ?_
  refine x_aloadA_n (pc := 12) hC dX4_start_12 rfl rfl k_109 (by decide) ?_
  refine x_iload_n (pc := 13) hC dX4_start_13 rfl rfl ?_
  refine x_aloadA_n (pc := 14) hC dX4_start_14 rfl rfl k_109 (by decide) ?_
  refine x_gf (pc := 15) (b := 2) hC fl_X4_34 ft4_0 k_109 (by decide) (off := -107) (by decide +kernel) (by decide) dX4_start_15 ?_
  refine x_alenL (pc := 18) hC k_2 l_2 dX4_start_18 ?_
  obtain ⟨v6, e5, h⟩ := jbR_some h
  refine x_cS (pc := 19) hC ms_X4_89 (ok_J9_min_7cf53 hn e5) rfl (Nat.le_of_ble_eq_true rfl) (jRo0 C) (Nat.le_of_ble_eq_true rfl) dX4_start_19 rfl ?_
  obtain ⟨M7, eM7, h⟩ := jlet_some h
  refine x_pi (pc := 22) (ji := 2) hC fl_X4_9 rfl ft4_2 k_109 dX4_start_22 eM7 ?_
  refine x_aloadA_n (pc := 25) hC dX4_start_25 rfl rfl k_109 (by decide) ?_
  refine x_iconst (pc := 26) hC dX4_start_26 ?_
  obtain ⟨M8, eM8, h⟩ := jlet_some h
  refine x_pi (pc := 27) (ji := 4) hC fl_X4_18 rfl ft4_4 k_109 dX4_start_27 eM8 ?_
  refine x_aloadA_n (pc := 30) hC dX4_start_30 rfl rfl k_109 (by decide) ?_
  refine x_iconst (pc := 31) hC dX4_start_31 ?_
  obtain ⟨M9, eM9, h⟩ := jlet_some h
  refine x_pi (pc := 32) (ji := 5) hC fl_X4_21 rfl ft4_5 k_109 dX4_start_32 eM9 ?_
  refine x_aloadA_n (pc := 35) hC dX4_start_35 rfl rfl k_109 (by decide) ?_
  refine x_iconst (pc := 36) hC dX4_start_36 ?_
  obtain ⟨M10, eM10, h⟩ := jlet_some h
  refine x_pi (pc := 37) (ji := 7) hC fl_X4_27 rfl ft4_7 k_109 dX4_start_37 eM10 ?_
  refine x_aloadA_n (pc := 40) hC dX4_start_40 rfl rfl k_109 (by decide) ?_
  refine x_iconst (pc := 41) hC dX4_start_41 ?_
  obtain ⟨M11, eM11, h⟩ := jlet_some h
  refine x_pz (pc := 42) (ji := 8) hC fl_X4_30 rfl ft4_8 (by decide) k_109 dX4_start_42 eM11 ?_
  refine x_aloadA_n (pc := 45) hC dX4_start_45 rfl rfl k_109 (by decide) ?_
  obtain ⟨M13, e12, h⟩ := jbV_some h
  refine x_cV (pc := 46) hC mv_X4_95 (ok_X4_advance hn e12) rfl (Nat.le_of_ble_eq_true rfl) k_109 rfl (by decide) (jRo0 C) (Nat.le_of_ble_eq_true rfl) dX4_start_46 rfl ?_
  exact x_vret (pc := 49) hC hR dX4_start_49 (jrR h)

set_option maxHeartbeats 4000000 in
set_option maxRecDepth 20000 in
theorem ok_X4_among {X : jX} {n : Nat} (hn : 179 ≤ n) {l1 : Int} {M : jM} {rz : Int} (hl1 : 0 ≤ l1 ∧ l1 < 58) (h : f_X4_among l1 M = some rz) : jCt X n yX4_among cX4_among 6 (some .int) 5 [jA 109, jS l1] M (some (jI rz)) M := by
  refine jCt_of (own := RX4) (ls := [jA 109, jS l1, jN, jN, jN, jN]) (by decide +kernel) rfl hn (Nat.le_of_ble_eq_true rfl) rfl ?_
  intro C hC hR
  unfold f_X4_among at h
  refine x_iconst (pc := 0) hC dX4_among_0 ?_
  refine x_istore_n (ls2 := [jA 109, jS l1, jI 0, jN, jN, jN]) (pc := 1) hC dX4_among_1 rfl (by decide) rfl rfl rfl ?_
  refine x_iconst (pc := 2) hC dX4_among_2 ?_
  refine x_istore_n (ls2 := [jA 109, jS l1, jI 0, jI 0, jN, jN]) (pc := 3) hC dX4_among_3 rfl (by decide) rfl rfl rfl ?_
  refine x_iconst (pc := 4) hC dX4_among_4 ?_
  refine x_istore (ls2 := [jA 109, jS l1, jI 0, jI 0, jI 0, jN]) (pc := 5) hC dX4_among_5 (by decide) rfl rfl rfl ?_
  refine jlp3_ind (P := fun (l2_1 : Int) (l3_2 : Int) (l4_3 : Int) => jG C X n 6 0 0 7 [jA 109, jS l1, jI l2_1, jI l3_2, jI l4_3, jN] [] M) ?_ _ _ _ _ h
  intro self4 l2_1 l3_2 l4_3 Hself4 h
  refine x_iload (pc := 7) hC dX4_among_7 rfl ?_
  refine x_aload_n (pc := 9) hC dX4_among_9 rfl rfl (show (6 : Nat) ≠ 0 by decide) rfl ?_
  refine x_slen (pc := 10) hC mv_X4_98 (Nat.le_of_ble_eq_true rfl) (jRo0 C) (Nat.le_of_ble_eq_true rfl) hl1 dX4_among_10 ?_
  refine x_icmp_ge (tgt := 101) (pc := 13) hC dX4_among_13 (by decide) (fun hc => ?_) (fun hc => ?_)
  · replace h := jit_pos hc h
    refine x_iconst (pc := 101) hC dX4_among_101 ?_
    exact x_iret (pc := 102) hC hR dX4_among_102 (jrR h) rfl
  · replace h := jit_neg hc h
    refine x_aloadA_n (pc := 16) hC dX4_among_16 rfl rfl k_109 (by decide) ?_
    refine x_gi (pc := 17) (ji := 3) hC fl_X4_15 rfl fn4_3 k_109 dX4_among_17 ?_
    refine x_bipush (pc := 20) hC dX4_among_20 rfl ?_
    refine x_icmp_ne (tgt := 101) (pc := 22) hC dX4_among_22 (by decide) (fun hc => ?_) (fun hc => ?_)
    · replace h := jit_neg hc h
      refine x_iconst (pc := 101) hC dX4_among_101 ?_
      exact x_iret (pc := 102) hC hR dX4_among_102 (jrR h) rfl
    · replace h := jit_pos hc h
      refine x_aload_n (pc := 25) hC dX4_among_25 rfl rfl (show (6 : Nat) ≠ 0 by decide) rfl ?_
      refine x_iload (pc := 26) hC dX4_among_26 rfl ?_
      obtain ⟨hb5, h⟩ := jck_some h
      refine x_schr (pc := 28) hC mv_X4_103 (Nat.le_of_ble_eq_true rfl) (jRo0 C) (Nat.le_of_ble_eq_true rfl) hl1 hb5 dX4_among_28 ?_
      obtain ⟨l5_6, el5_6, h⟩ := jlet_some h
      refine x_istore (ls2 := [jA 109, jS l1, jI l2_1, jI l3_2, jI l4_3, jI l5_6]) (pc := 31) hC dX4_among_31 (by decide) rfl el5_6 rfl ?_
      refine x_iload (pc := 33) hC dX4_among_33 rfl ?_
      refine x_bipush (pc := 35) hC dX4_among_35 rfl ?_
      refine x_icmp_ne (tgt := 58) (pc := 37) hC dX4_among_37 (by decide) (fun hc => ?_) (fun hc => ?_)
      · replace h := jit_neg hc h
        refine x_iload_n (pc := 58) hC dX4_among_58 rfl rfl ?_
        refine x_iconst (pc := 59) hC dX4_among_59 ?_
        obtain ⟨k7, Hk7, h⟩ := jk_some (P := fun k7 => k7 = some rz → jG C X n 6 0 0 93 [jA 109, jS l1, jI l2_1, jI l3_2, jI l4_3, jI l5_6] [] M) h (by
          intro h
          refine x_iconst (pc := 93) hC dX4_among_93 ?_
          refine x_istore_n (ls2 := [jA 109, jS l1, jI l2_1, jI (-1), jI l4_3, jI l5_6]) (pc := 94) hC dX4_among_94 rfl (by decide) rfl rfl rfl ?_
          obtain ⟨l4_8, el4_8, h⟩ := jlet_some h
          refine x_iinc (ls2 := [jA 109, jS l1, jI l2_1, jI (-1), jI l4_8, jI l5_6]) (pc := 95) hC dX4_among_95 rfl (by decide) rfl el4_8 rfl ?_
          refine x_goto (tgt := 7) (pc := 98) hC dX4_among_98 (by decide) ?_
          refine x_kill 5 (ls2 := [jA 109, jS l1, jI l2_1, jI (-1), jI l4_8, jN]) rfl ?_
          exact Hself4 _ _ _ h)
        refine x_icmp_eq (tgt := 93) (pc := 60) hC dX4_among_60 (by decide) (fun hc => ?_) (fun hc => ?_)
        · replace h := jit_pos hc h
          exact Hk7 h
        · replace h := jit_neg hc h
          refine x_iload_n (pc := 63) hC dX4_among_63 rfl rfl ?_
          refine x_aloadA_n (pc := 64) hC dX4_among_64 rfl rfl k_109 (by decide) ?_
          refine x_gi (pc := 65) (ji := 5) hC fl_X4_21 rfl fn4_5 k_109 dX4_among_65 ?_
          refine x_icmp_ge (tgt := 93) (pc := 68) hC dX4_among_68 (by decide) (fun hc => ?_) (fun hc => ?_)
          · replace h := jit_pos hc h
            exact Hk7 h
          · replace h := jit_neg hc h
            refine x_aloadA_n (pc := 71) hC dX4_among_71 rfl rfl k_109 (by decide) ?_
            refine x_gf (pc := 72) (b := 2) hC fl_X4_34 ft4_0 k_109 (by decide) (off := -107) (by decide +kernel) (by decide) dX4_among_72 ?_
            refine x_aloadA_n (pc := 75) hC dX4_among_75 rfl rfl k_109 (by decide) ?_
            refine x_gi (pc := 76) (ji := 4) hC fl_X4_18 rfl fn4_4 k_109 dX4_among_76 ?_
            refine x_iload_n (pc := 79) hC dX4_among_79 rfl rfl ?_
            refine x_iadd (pc := 80) hC dX4_among_80 ?_
            obtain ⟨hb9, h⟩ := jck_some h
            refine x_iald (pc := 81) hC k_2 (by rw [l_2]; exact hb9) dX4_among_81 ?_
            refine x_iload (pc := 82) hC dX4_among_82 rfl ?_
            refine x_icmp_ne (tgt := 93) (pc := 84) hC dX4_among_84 (by decide) (fun hc => ?_) (fun hc => ?_)
            · replace h := jit_neg hc h
              exact Hk7 h
            · replace h := jit_pos hc h
              obtain ⟨l3_10, el3_10, h⟩ := jlet_some h
              refine x_iinc (ls2 := [jA 109, jS l1, jI l2_1, jI l3_10, jI l4_3, jI l5_6]) (pc := 87) hC dX4_among_87 rfl (by decide) rfl el3_10 rfl ?_
              refine x_goto (tgt := 95) (pc := 90) hC dX4_among_90 (by decide) ?_
              obtain ⟨l4_11, el4_11, h⟩ := jlet_some h
              refine x_iinc (ls2 := [jA 109, jS l1, jI l2_1, jI l3_10, jI l4_11, jI l5_6]) (pc := 95) hC dX4_among_95 rfl (by decide) rfl el4_11 rfl ?_
              refine x_goto (tgt := 7) (pc := 98) hC dX4_among_98 (by decide) ?_
              refine x_kill 5 (ls2 := [jA 109, jS l1, jI l2_1, jI l3_10, jI l4_11, jN]) rfl ?_
              exact Hself4 _ _ _ h
      · replace h := jit_pos hc h
        refine x_iload_n (pc := 40) hC dX4_among_40 rfl rfl ?_
        refine x_aloadA_n (pc := 41) hC dX4_among_41 rfl rfl k_109 (by decide) ?_
        refine x_gi (pc := 42) (ji := 5) hC fl_X4_21 rfl fn4_5 k_109 dX4_among_42 ?_
        refine x_icmp_ne (tgt := 50) (pc := 45) hC dX4_among_45 (by decide) (fun hc => ?_) (fun hc => ?_)
        · replace h := jit_neg hc h
          obtain ⟨l2_12, el2_12, h⟩ := jlet_some h
          refine x_iinc (ls2 := [jA 109, jS l1, jI l2_12, jI l3_2, jI l4_3, jI l5_6]) (pc := 50) hC dX4_among_50 rfl (by decide) rfl el2_12 rfl ?_
          refine x_iconst (pc := 53) hC dX4_among_53 ?_
          refine x_istore_n (ls2 := [jA 109, jS l1, jI l2_12, jI 0, jI l4_3, jI l5_6]) (pc := 54) hC dX4_among_54 rfl (by decide) rfl rfl rfl ?_
          refine x_goto (tgt := 95) (pc := 55) hC dX4_among_55 (by decide) ?_
          obtain ⟨l4_13, el4_13, h⟩ := jlet_some h
          refine x_iinc (ls2 := [jA 109, jS l1, jI l2_12, jI 0, jI l4_13, jI l5_6]) (pc := 95) hC dX4_among_95 rfl (by decide) rfl el4_13 rfl ?_
          refine x_goto (tgt := 7) (pc := 98) hC dX4_among_98 (by decide) ?_
          refine x_kill 5 (ls2 := [jA 109, jS l1, jI l2_12, jI 0, jI l4_13, jN]) rfl ?_
          exact Hself4 _ _ _ h
        · replace h := jit_pos hc h
          refine x_iload_n (pc := 48) hC dX4_among_48 rfl rfl ?_
          exact x_iret (pc := 49) hC hR dX4_among_49 (jrR h) rfl

set_option maxHeartbeats 4000000 in
set_option maxRecDepth 20000 in
theorem ok_X4_refuse {X : jX} {n : Nat} (hn : 179 ≤ n) {M : jM} {rz : Int} {Mz : jM} (h : f_X4_refuse M = some (rz, Mz)) : jCt X n yX4_refuse cX4_refuse 1 (some .boolean) 0 [jA 109] M (some (jI rz)) Mz := by
  refine jCt_of (own := RX4) (ls := [jA 109]) (by decide +kernel) rfl hn (Nat.le_of_ble_eq_true rfl) rfl ?_
  intro C hC hR
  unfold f_X4_refuse at h
  refine x_aloadA_n (pc := 0) hC dX4_refuse_0 rfl rfl k_109 (by decide) ?_
  refine x_aloadA_n (pc := 1) hC dX4_refuse_1 rfl rfl k_109 (by decide) ?_
  refine x_gi (pc := 2) (ji := 4) hC fl_X4_18 rfl fn4_4 k_109 dX4_refuse_2 ?_
  obtain ⟨M1, eM1, h⟩ := jlet_some h
  refine x_pi (pc := 5) (ji := 7) hC fl_X4_27 rfl ft4_7 k_109 dX4_refuse_5 eM1 ?_
  refine x_iconst (pc := 8) hC dX4_refuse_8 ?_
  exact x_zret (pc := 9) hC hR dX4_refuse_9 (Or.inl jw0) (jr1 h) (jr2 h)

set_option maxHeartbeats 4000000 in
set_option maxRecDepth 20000 in
theorem ok_X4_number {X : jX} {n : Nat} (hn : 179 ≤ n) {l1 : Int} {l2 : Int} {M : jM} {rz : Int} {Mz : jM} (h : f_X4_number l1 l2 M = some (rz, Mz)) : jCt X n yX4_number cX4_number 4 (some .boolean) 1 [jA 109, jI l1, jI l2] M (some (jI rz)) Mz := by
  refine jCt_of (own := RX4) (ls := [jA 109, jI l1, jI l2, jN]) (by decide +kernel) rfl hn (Nat.le_of_ble_eq_true rfl) rfl ?_
  intro C hC hR
  unfold f_X4_number at h
  refine x_aloadA_n (pc := 0) hC dX4_number_0 rfl rfl k_109 (by decide) ?_
  refine x_gi (pc := 1) (ji := 3) hC fl_X4_15 rfl fn4_3 k_109 dX4_number_1 ?_
  refine x_bipush (pc := 4) hC dX4_number_4 rfl ?_
  obtain ⟨k1, Hk1, h⟩ := jk_some (P := fun k1 => k1 = some (rz, Mz) → jG C X n 4 0 0 17 [jA 109, jI l1, jI l2, jN] [] M) h (by
    intro h
    refine x_aloadA_n (pc := 17) hC dX4_number_17 rfl rfl k_109 (by decide) ?_
    obtain ⟨v4, M3, e2, h⟩ := jbW_some h
    refine x_cV (pc := 18) hC mv_X4_74 (ok_X4_refuse hn e2) rfl (Nat.le_of_ble_eq_true rfl) k_109 rfl (by decide) (jRo0 C) (Nat.le_of_ble_eq_true rfl) dX4_number_18 rfl ?_
    obtain ⟨hz5, h⟩ := jck_some h
    exact x_zret (pc := 21) hC hR dX4_number_21 hz5 (jr1 h) (jr2 h))
  refine x_icmp_ne (tgt := 17) (pc := 6) hC dX4_number_6 (by decide) (fun hc => ?_) (fun hc => ?_)
  · replace h := jit_neg hc h
    exact Hk1 h
  · replace h := jit_pos hc h
    refine x_aloadA_n (pc := 9) hC dX4_number_9 rfl rfl k_109 (by decide) ?_
    refine x_gi (pc := 10) (ji := 5) hC fl_X4_21 rfl fn4_5 k_109 dX4_number_10 ?_
    refine x_iconst (pc := 13) hC dX4_number_13 ?_
    refine x_icmp_le (tgt := 22) (pc := 14) hC dX4_number_14 (by decide) (fun hc => ?_) (fun hc => ?_)
    · replace h := jit_pos hc h
      refine x_aloadA_n (pc := 22) hC dX4_number_22 rfl rfl k_109 (by decide) ?_
      refine x_iconst (pc := 23) hC dX4_number_23 ?_
      obtain ⟨M6, eM6, h⟩ := jlet_some h
      refine x_pi (pc := 24) (ji := 6) hC fl_X4_24 rfl ft4_6 k_109 dX4_number_24 eM6 ?_
      refine x_iconst (pc := 27) hC dX4_number_27 ?_
      refine x_istore_n (ls2 := [jA 109, jI l1, jI l2, jI 0]) (pc := 28) hC dX4_number_28 rfl (by decide) rfl rfl rfl ?_
      refine jlp2_ind (P := fun (l3_7 : Int) (M8 : jM) => jG C X n 4 0 0 29 [jA 109, jI l1, jI l2, jI l3_7] [] M8) ?_ _ _ _ h
      intro self9 l3_7 M8 Hself9 h
      refine x_iload_n (pc := 29) hC dX4_number_29 rfl rfl ?_
      refine x_aloadA_n (pc := 30) hC dX4_number_30 rfl rfl k_109 (by decide) ?_
      refine x_gi (pc := 31) (ji := 5) hC fl_X4_21 rfl fn4_5 k_109 dX4_number_31 ?_
      refine x_icmp_ge (tgt := 69) (pc := 34) hC dX4_number_34 (by decide) (fun hc => ?_) (fun hc => ?_)
      · replace h := jit_pos hc h
        refine x_aloadA_n (pc := 69) hC dX4_number_69 rfl rfl k_109 (by decide) ?_
        refine x_gi (pc := 70) (ji := 6) hC fl_X4_24 rfl fn4_6 k_109 dX4_number_70 ?_
        refine x_iload_n (pc := 73) hC dX4_number_73 rfl rfl ?_
        obtain ⟨k10, Hk10, h⟩ := jk_some (P := fun k10 => k10 = some (rz, Mz) → jG C X n 4 0 0 85 [jA 109, jI l1, jI l2, jI l3_7] [] M8) h (by
          intro h
          refine x_aloadA_n (pc := 85) hC dX4_number_85 rfl rfl k_109 (by decide) ?_
          obtain ⟨v13, M12, e11, h⟩ := jbW_some h
          refine x_cV (pc := 86) hC mv_X4_74 (ok_X4_refuse hn e11) rfl (Nat.le_of_ble_eq_true rfl) k_109 rfl (by decide) (jRo0 C) (Nat.le_of_ble_eq_true rfl) dX4_number_86 rfl ?_
          obtain ⟨hz14, h⟩ := jck_some h
          exact x_zret (pc := 89) hC hR dX4_number_89 hz14 (jr1 h) (jr2 h))
        refine x_icmp_lt (tgt := 85) (pc := 74) hC dX4_number_74 (by decide) (fun hc => ?_) (fun hc => ?_)
        · replace h := jit_pos hc h
          exact Hk10 h
        · replace h := jit_neg hc h
          refine x_aloadA_n (pc := 77) hC dX4_number_77 rfl rfl k_109 (by decide) ?_
          refine x_gi (pc := 78) (ji := 6) hC fl_X4_24 rfl fn4_6 k_109 dX4_number_78 ?_
          refine x_iload_n (pc := 81) hC dX4_number_81 rfl rfl ?_
          refine x_icmp_le (tgt := 90) (pc := 82) hC dX4_number_82 (by decide) (fun hc => ?_) (fun hc => ?_)
          · replace h := jit_pos hc h
            refine x_aloadA_n (pc := 90) hC dX4_number_90 rfl rfl k_109 (by decide) ?_
            obtain ⟨M16, e15, h⟩ := jbV_some h
            refine x_cV (pc := 91) hC mv_X4_95 (ok_X4_advance hn e15) rfl (Nat.le_of_ble_eq_true rfl) k_109 rfl (by decide) (jRo0 C) (Nat.le_of_ble_eq_true rfl) dX4_number_91 rfl ?_
            refine x_iconst (pc := 94) hC dX4_number_94 ?_
            exact x_zret (pc := 95) hC hR dX4_number_95 (Or.inr jw1) (jr1 h) (jr2 h)
          · replace h := jit_neg hc h
            exact Hk10 h
      · replace h := jit_neg hc h
        refine x_aloadA_n (pc := 37) hC dX4_number_37 rfl rfl k_109 (by decide) ?_
        refine x_bipush (pc := 38) hC dX4_number_38 rfl ?_
        refine x_aloadA_n (pc := 40) hC dX4_number_40 rfl rfl k_109 (by decide) ?_
        refine x_gi (pc := 41) (ji := 6) hC fl_X4_24 rfl fn4_6 k_109 dX4_number_41 ?_
        refine x_imul (pc := 44) hC dX4_number_44 ?_
        refine x_aloadA_n (pc := 45) hC dX4_number_45 rfl rfl k_109 (by decide) ?_
        refine x_gf (pc := 46) (b := 2) hC fl_X4_34 ft4_0 k_109 (by decide) (off := -107) (by decide +kernel) (by decide) dX4_number_46 ?_
        refine x_aloadA_n (pc := 49) hC dX4_number_49 rfl rfl k_109 (by decide) ?_
        refine x_gi (pc := 50) (ji := 4) hC fl_X4_18 rfl fn4_4 k_109 dX4_number_50 ?_
        refine x_iload_n (pc := 53) hC dX4_number_53 rfl rfl ?_
        refine x_iadd (pc := 54) hC dX4_number_54 ?_
        obtain ⟨hb17, h⟩ := jck_some h
        refine x_iald (pc := 55) hC k_2 (by rw [l_2]; exact hb17) dX4_number_55 ?_
        refine x_iadd (pc := 56) hC dX4_number_56 ?_
        refine x_bipush (pc := 57) hC dX4_number_57 rfl ?_
        refine x_isub (pc := 59) hC dX4_number_59 ?_
        obtain ⟨M18, eM18, h⟩ := jlet_some h
        refine x_pi (pc := 60) (ji := 6) hC fl_X4_24 rfl ft4_6 k_109 dX4_number_60 eM18 ?_
        obtain ⟨l3_19, el3_19, h⟩ := jlet_some h
        refine x_iinc (ls2 := [jA 109, jI l1, jI l2, jI l3_19]) (pc := 63) hC dX4_number_63 rfl (by decide) rfl el3_19 rfl ?_
        refine x_goto (tgt := 29) (pc := 66) hC dX4_number_66 (by decide) ?_
        exact Hself9 _ _ h
    · replace h := jit_neg hc h
      exact Hk1 h

set_option maxHeartbeats 4000000 in
set_option maxRecDepth 20000 in
theorem ok_X4_lastsLine {X : jX} {n : Nat} (hn : 179 ≤ n) {M : jM} {rz : Int} {Mz : jM} (h : f_X4_lastsLine M = some (rz, Mz)) : jCt X n yX4_lastsLine cX4_lastsLine 2 (some .boolean) 2 [jA 109] M (some (jI rz)) Mz := by
  refine jCt_of (own := RX4) (ls := [jA 109, jN]) (by decide +kernel) rfl hn (Nat.le_of_ble_eq_true rfl) rfl ?_
  intro C hC hR
  unfold f_X4_lastsLine at h
  refine x_aloadA_n (pc := 0) hC dX4_lastsLine_0 rfl rfl k_109 (by decide) ?_
  obtain ⟨hk1, h⟩ := jck_some h
  refine x_gr (pc := 1) (ji := 1) hC fl_X4_38 rfl ft4_1 k_109 dX4_lastsLine_1 ?_
  refine x_gf (pc := 4) (b := ((M 109 1) + 13)) hC fl_X4_153 ft1_6 hk1 (by decide) (off := 13) (by decide +kernel) rfl dX4_lastsLine_4 ?_
  refine x_gi (pc := 7) (ji := 3) hC fl_X4_121 rfl fn2_3 (ko1_6 hk1) dX4_lastsLine_7 ?_
  refine x_iconst (pc := 10) hC dX4_lastsLine_10 ?_
  refine x_isub (pc := 11) hC dX4_lastsLine_11 ?_
  obtain ⟨l1_2, el1_2, h⟩ := jlet_some h
  refine x_istore_n (ls2 := [jA 109, jI l1_2]) (pc := 12) hC dX4_lastsLine_12 rfl (by decide) rfl el1_2 rfl ?_
  refine x_iload_n (pc := 13) hC dX4_lastsLine_13 rfl rfl ?_
  refine x_if_ge (tgt := 22) (pc := 14) hC dX4_lastsLine_14 (by decide) (fun hc => ?_) (fun hc => ?_)
  · replace h := jit_pos hc h
    refine x_aloadA_n (pc := 22) hC dX4_lastsLine_22 rfl rfl k_109 (by decide) ?_
    obtain ⟨M4, e3, h⟩ := jbV_some h
    refine x_cV (pc := 23) hC mv_X4_95 (ok_X4_advance hn e3) rfl (Nat.le_of_ble_eq_true rfl) k_109 rfl (by decide) (jRo0 C) (Nat.le_of_ble_eq_true rfl) dX4_lastsLine_23 rfl ?_
    refine x_aloadA_n (pc := 26) hC dX4_lastsLine_26 rfl rfl k_109 (by decide) ?_
    refine x_iconst (pc := 27) hC dX4_lastsLine_27 ?_
    refine x_sipush (pc := 28) hC dX4_lastsLine_28 rfl ?_
    obtain ⟨v7, M6, e5, h⟩ := jbW_some h
    refine x_cV (pc := 31) hC mv_X4_131 (ok_X4_number hn e5) rfl (Nat.le_of_ble_eq_true rfl) k_109 rfl (by decide) (jRo0 C) (Nat.le_of_ble_eq_true rfl) dX4_lastsLine_31 rfl ?_
    refine x_if_ne (tgt := 39) (pc := 34) hC dX4_lastsLine_34 (by decide) (fun hc => ?_) (fun hc => ?_)
    · replace h := jit_neg hc h
      refine x_aloadA_n (pc := 39) hC dX4_lastsLine_39 rfl rfl k_109 (by decide) ?_
      obtain ⟨hk8, h⟩ := jck_some h
      refine x_gr (pc := 40) (ji := 1) hC fl_X4_38 rfl ft4_1 k_109 dX4_lastsLine_40 ?_
      refine x_gf (pc := 43) (b := ((M6 109 1) + 16)) hC fl_X4_156 ft1_7 hk8 (by decide) (off := 16) (by decide +kernel) rfl dX4_lastsLine_43 ?_
      refine x_iload_n (pc := 46) hC dX4_lastsLine_46 rfl rfl ?_
      obtain ⟨hb9, h⟩ := jck_some h
      refine x_aald14 (pc := 47) hC (ko1_7 hk8) hb9 rfl dX4_lastsLine_47 ?_
      refine x_aloadA_n (pc := 48) hC dX4_lastsLine_48 rfl rfl k_109 (by decide) ?_
      refine x_gi (pc := 49) (ji := 6) hC fl_X4_24 rfl fn4_6 k_109 dX4_lastsLine_49 ?_
      obtain ⟨M10, eM10, h⟩ := jlet_some h
      refine x_pi (pc := 52) (ji := 2) hC fl_X4_160 rfl ft6_2 (jsk (ko1_7 hk8) hb9.1 hb9.2) dX4_lastsLine_52 eM10 ?_
      refine x_iconst (pc := 55) hC dX4_lastsLine_55 ?_
      exact x_zret (pc := 56) hC hR dX4_lastsLine_56 (Or.inr jw1) (jr1 h) (jr2 h)
    · replace h := jit_pos hc h
      refine x_iconst (pc := 37) hC dX4_lastsLine_37 ?_
      exact x_zret (pc := 38) hC hR dX4_lastsLine_38 (Or.inl jw0) (jr1 h) (jr2 h)
  · replace h := jit_neg hc h
    refine x_aloadA_n (pc := 17) hC dX4_lastsLine_17 rfl rfl k_109 (by decide) ?_
    obtain ⟨v13, M12, e11, h⟩ := jbW_some h
    refine x_cV (pc := 18) hC mv_X4_74 (ok_X4_refuse hn e11) rfl (Nat.le_of_ble_eq_true rfl) k_109 rfl (by decide) (jRo0 C) (Nat.le_of_ble_eq_true rfl) dX4_lastsLine_18 rfl ?_
    obtain ⟨hz14, h⟩ := jck_some h
    exact x_zret (pc := 21) hC hR dX4_lastsLine_21 hz14 (jr1 h) (jr2 h)

set_option maxHeartbeats 4000000 in
set_option maxRecDepth 20000 in
theorem ok_X4_votes {X : jX} {n : Nat} (hn : 179 ≤ n) {l1 : Int} {l2 : Int} {l3 : Int} {M : jM} {rz : Int} {Mz : jM} (hl1 : jkd l1 = 6) (h : f_X4_votes l1 l2 l3 M = some (rz, Mz)) : jCt X n yX4_votes cX4_votes 6 (some .boolean) 1 [jA 109, jA l1, jI l2, jI l3] M (some (jI rz)) Mz := by
  refine jCt_of (own := RX4) (ls := [jA 109, jA l1, jI l2, jI l3, jN, jN]) (by decide +kernel) rfl hn (Nat.le_of_ble_eq_true rfl) rfl ?_
  intro C hC hR
  unfold f_X4_votes at h
  refine x_aloadA_n (pc := 0) hC dX4_votes_0 rfl rfl k_109 (by decide) ?_
  refine x_gi (pc := 1) (ji := 3) hC fl_X4_15 rfl fn4_3 k_109 dX4_votes_1 ?_
  refine x_bipush (pc := 4) hC dX4_votes_4 rfl ?_
  obtain ⟨k1, Hk1, h⟩ := jk_some (P := fun k1 => k1 = some (rz, Mz) → jG C X n 6 0 0 23 [jA 109, jA l1, jI l2, jI l3, jN, jN] [] M) h (by
    intro h
    refine x_aloadA_n (pc := 23) hC dX4_votes_23 rfl rfl k_109 (by decide) ?_
    obtain ⟨v4, M3, e2, h⟩ := jbW_some h
    refine x_cV (pc := 24) hC mv_X4_74 (ok_X4_refuse hn e2) rfl (Nat.le_of_ble_eq_true rfl) k_109 rfl (by decide) (jRo0 C) (Nat.le_of_ble_eq_true rfl) dX4_votes_24 rfl ?_
    obtain ⟨hz5, h⟩ := jck_some h
    exact x_zret (pc := 27) hC hR dX4_votes_27 hz5 (jr1 h) (jr2 h))
  refine x_icmp_ne (tgt := 23) (pc := 6) hC dX4_votes_6 (by decide) (fun hc => ?_) (fun hc => ?_)
  · replace h := jit_neg hc h
    exact Hk1 h
  · replace h := jit_pos hc h
    refine x_aloadA_n (pc := 9) hC dX4_votes_9 rfl rfl k_109 (by decide) ?_
    refine x_gi (pc := 10) (ji := 5) hC fl_X4_21 rfl fn4_5 k_109 dX4_votes_10 ?_
    refine x_aloadA_n (pc := 13) hC dX4_votes_13 rfl rfl k_109 (by decide) ?_
    obtain ⟨hk6, h⟩ := jck_some h
    refine x_gr (pc := 14) (ji := 1) hC fl_X4_38 rfl ft4_1 k_109 dX4_votes_14 ?_
    refine x_gi (pc := 17) (ji := 0) hC fl_X4_141 rfl fn1_0 hk6 dX4_votes_17 ?_
    refine x_icmp_eq (tgt := 28) (pc := 20) hC dX4_votes_20 (by decide) (fun hc => ?_) (fun hc => ?_)
    · replace h := jit_pos hc h
      refine x_iconst (pc := 28) hC dX4_votes_28 ?_
      refine x_istore (ls2 := [jA 109, jA l1, jI l2, jI l3, jI 0, jN]) (pc := 29) hC dX4_votes_29 (by decide) rfl rfl rfl ?_
      refine jlp2_ind (P := fun (l4_7 : Int) (M8 : jM) => jG C X n 6 0 0 31 [jA 109, jA l1, jI l2, jI l3, jI l4_7, jN] [] M8) ?_ _ _ _ h
      intro self9 l4_7 M8 Hself9 h
      refine x_iload (pc := 31) hC dX4_votes_31 rfl ?_
      refine x_aloadA_n (pc := 33) hC dX4_votes_33 rfl rfl k_109 (by decide) ?_
      refine x_gi (pc := 34) (ji := 5) hC fl_X4_21 rfl fn4_5 k_109 dX4_votes_34 ?_
      obtain ⟨k10, Hk10, h⟩ := jk_some (P := fun k10 => k10 = some (rz, Mz) → jG C X n 6 0 0 98 [jA 109, jA l1, jI l2, jI l3, jI l4_7, jN] [] M8) h (by
        intro h
        refine x_aloadA_n (pc := 98) hC dX4_votes_98 rfl rfl k_109 (by decide) ?_
        obtain ⟨M12, e11, h⟩ := jbV_some h
        refine x_cV (pc := 99) hC mv_X4_95 (ok_X4_advance hn e11) rfl (Nat.le_of_ble_eq_true rfl) k_109 rfl (by decide) (jRo0 C) (Nat.le_of_ble_eq_true rfl) dX4_votes_99 rfl ?_
        refine x_iconst (pc := 102) hC dX4_votes_102 ?_
        exact x_zret (pc := 103) hC hR dX4_votes_103 (Or.inr jw1) (jr1 h) (jr2 h))
      refine x_icmp_ge (tgt := 98) (pc := 37) hC dX4_votes_37 (by decide) (fun hc => ?_) (fun hc => ?_)
      · replace h := jit_pos hc h
        exact Hk10 h
      · replace h := jit_neg hc h
        refine x_iload (pc := 40) hC dX4_votes_40 rfl ?_
        refine x_bipush (pc := 42) hC dX4_votes_42 rfl ?_
        refine x_icmp_ge (tgt := 98) (pc := 44) hC dX4_votes_44 (by decide) (fun hc => ?_) (fun hc => ?_)
        · replace h := jit_pos hc h
          exact Hk10 h
        · replace h := jit_neg hc h
          refine x_aloadA_n (pc := 47) hC dX4_votes_47 rfl rfl k_109 (by decide) ?_
          refine x_gf (pc := 48) (b := 2) hC fl_X4_34 ft4_0 k_109 (by decide) (off := -107) (by decide +kernel) (by decide) dX4_votes_48 ?_
          refine x_aloadA_n (pc := 51) hC dX4_votes_51 rfl rfl k_109 (by decide) ?_
          refine x_gi (pc := 52) (ji := 4) hC fl_X4_18 rfl fn4_4 k_109 dX4_votes_52 ?_
          refine x_iload (pc := 55) hC dX4_votes_55 rfl ?_
          refine x_iadd (pc := 57) hC dX4_votes_57 ?_
          obtain ⟨hb13, h⟩ := jck_some h
          refine x_iald (pc := 58) hC k_2 (by rw [l_2]; exact hb13) dX4_votes_58 ?_
          refine x_bipush (pc := 59) hC dX4_votes_59 rfl ?_
          refine x_isub (pc := 61) hC dX4_votes_61 ?_
          obtain ⟨l5_14, el5_14, h⟩ := jlet_some h
          refine x_istore (ls2 := [jA 109, jA l1, jI l2, jI l3, jI l4_7, jI l5_14]) (pc := 62) hC dX4_votes_62 (by decide) rfl el5_14 rfl ?_
          refine x_iload (pc := 64) hC dX4_votes_64 rfl ?_
          refine x_bipush (pc := 66) hC dX4_votes_66 rfl ?_
          refine x_icmp_le (tgt := 76) (pc := 68) hC dX4_votes_68 (by decide) (fun hc => ?_) (fun hc => ?_)
          · replace h := jit_pos hc h
            refine x_aloadA_n (pc := 76) hC dX4_votes_76 rfl rfl hl1 (by decide) ?_
            refine x_gf (pc := 77) (b := (l1 + 5)) hC fl_X4_187 ft6_7 hl1 (by decide) (off := 5) (by decide +kernel) rfl dX4_votes_77 ?_
            refine x_iload_n (pc := 80) hC dX4_votes_80 rfl rfl ?_
            refine x_bipush (pc := 81) hC dX4_votes_81 rfl ?_
            refine x_imul (pc := 83) hC dX4_votes_83 ?_
            refine x_iload (pc := 84) hC dX4_votes_84 rfl ?_
            refine x_iadd (pc := 86) hC dX4_votes_86 ?_
            refine x_iload_n (pc := 87) hC dX4_votes_87 rfl rfl ?_
            refine x_iload (pc := 88) hC dX4_votes_88 rfl ?_
            refine x_iadd (pc := 90) hC dX4_votes_90 ?_
            obtain ⟨hb15, h⟩ := jck_some h
            obtain ⟨M16, eM16, h⟩ := jlet_some h
            refine x_iast (pc := 91) hC (ko6_7 hl1) (by rw [lo6_7 hl1]; exact hb15) dX4_votes_91 eM16 ?_
            obtain ⟨l4_17, el4_17, h⟩ := jlet_some h
            refine x_iinc (ls2 := [jA 109, jA l1, jI l2, jI l3, jI l4_17, jI l5_14]) (pc := 92) hC dX4_votes_92 rfl (by decide) rfl el4_17 rfl ?_
            refine x_goto (tgt := 31) (pc := 95) hC dX4_votes_95 (by decide) ?_
            refine x_kill 5 (ls2 := [jA 109, jA l1, jI l2, jI l3, jI l4_17, jN]) rfl ?_
            exact Hself9 _ _ h
          · replace h := jit_neg hc h
            refine x_aloadA_n (pc := 71) hC dX4_votes_71 rfl rfl k_109 (by decide) ?_
            obtain ⟨v20, M19, e18, h⟩ := jbW_some h
            refine x_cV (pc := 72) hC mv_X4_74 (ok_X4_refuse hn e18) rfl (Nat.le_of_ble_eq_true rfl) k_109 rfl (by decide) (jRo0 C) (Nat.le_of_ble_eq_true rfl) dX4_votes_72 rfl ?_
            obtain ⟨hz21, h⟩ := jck_some h
            exact x_zret (pc := 75) hC hR dX4_votes_75 hz21 (jr1 h) (jr2 h)
    · replace h := jit_neg hc h
      exact Hk1 h

set_option maxHeartbeats 4000000 in
set_option maxRecDepth 20000 in
theorem ok_X4_showLine {X : jX} {n : Nat} (hn : 179 ≤ n) {M : jM} {rz : Int} {Mz : jM} (h : f_X4_showLine M = some (rz, Mz)) : jCt X n yX4_showLine cX4_showLine 3 (some .boolean) 2 [jA 109] M (some (jI rz)) Mz := by
  refine jCt_of (own := RX4) (ls := [jA 109, jN, jN]) (by decide +kernel) rfl hn (Nat.le_of_ble_eq_true rfl) rfl ?_
  intro C hC hR
  unfold f_X4_showLine at h
  refine x_aloadA_n (pc := 0) hC dX4_showLine_0 rfl rfl k_109 (by decide) ?_
  obtain ⟨hk1, h⟩ := jck_some h
  refine x_gr (pc := 1) (ji := 1) hC fl_X4_38 rfl ft4_1 k_109 dX4_showLine_1 ?_
  refine x_gf (pc := 4) (b := ((M 109 1) + 13)) hC fl_X4_153 ft1_6 hk1 (by decide) (off := 13) (by decide +kernel) rfl dX4_showLine_4 ?_
  refine x_gi (pc := 7) (ji := 3) hC fl_X4_121 rfl fn2_3 (ko1_6 hk1) dX4_showLine_7 ?_
  refine x_iconst (pc := 10) hC dX4_showLine_10 ?_
  refine x_isub (pc := 11) hC dX4_showLine_11 ?_
  obtain ⟨l1_2, el1_2, h⟩ := jlet_some h
  refine x_istore_n (ls2 := [jA 109, jI l1_2, jN]) (pc := 12) hC dX4_showLine_12 rfl (by decide) rfl el1_2 rfl ?_
  refine x_iload_n (pc := 13) hC dX4_showLine_13 rfl rfl ?_
  refine x_if_ge (tgt := 22) (pc := 14) hC dX4_showLine_14 (by decide) (fun hc => ?_) (fun hc => ?_)
  · replace h := jit_pos hc h
    refine x_aloadA_n (pc := 22) hC dX4_showLine_22 rfl rfl k_109 (by decide) ?_
    refine x_iconst (pc := 23) hC dX4_showLine_23 ?_
    obtain ⟨M3, eM3, h⟩ := jlet_some h
    refine x_pz (pc := 24) (ji := 8) hC fl_X4_30 rfl ft4_8 (by decide) k_109 dX4_showLine_24 eM3 ?_
    refine x_aloadA_n (pc := 27) hC dX4_showLine_27 rfl rfl k_109 (by decide) ?_
    obtain ⟨M5, e4, h⟩ := jbV_some h
    refine x_cV (pc := 28) hC mv_X4_95 (ok_X4_advance hn e4) rfl (Nat.le_of_ble_eq_true rfl) k_109 rfl (by decide) (jRo0 C) (Nat.le_of_ble_eq_true rfl) dX4_showLine_28 rfl ?_
    refine x_iconst (pc := 31) hC dX4_showLine_31 ?_
    refine x_istore_n (ls2 := [jA 109, jI l1_2, jI 0]) (pc := 32) hC dX4_showLine_32 rfl (by decide) rfl rfl rfl ?_
    refine jlp2_ind (P := fun (l2_6 : Int) (M7 : jM) => jG C X n 3 0 0 33 [jA 109, jI l1_2, jI l2_6] [] M7) ?_ _ _ _ h
    intro self8 l2_6 M7 Hself8 h
    refine x_iload_n (pc := 33) hC dX4_showLine_33 rfl rfl ?_
    refine x_iconst (pc := 34) hC dX4_showLine_34 ?_
    refine x_icmp_ge (tgt := 67) (pc := 35) hC dX4_showLine_35 (by decide) (fun hc => ?_) (fun hc => ?_)
    · replace h := jit_pos hc h
      refine x_iconst (pc := 67) hC dX4_showLine_67 ?_
      exact x_zret (pc := 68) hC hR dX4_showLine_68 (Or.inr jw1) (jr1 h) (jr2 h)
    · replace h := jit_neg hc h
      refine x_aloadA_n (pc := 38) hC dX4_showLine_38 rfl rfl k_109 (by decide) ?_
      refine x_aloadA_n (pc := 39) hC dX4_showLine_39 rfl rfl k_109 (by decide) ?_
      obtain ⟨hk9, h⟩ := jck_some h
      refine x_gr (pc := 40) (ji := 1) hC fl_X4_38 rfl ft4_1 k_109 dX4_showLine_40 ?_
      refine x_gf (pc := 43) (b := ((M7 109 1) + 16)) hC fl_X4_156 ft1_7 hk9 (by decide) (off := 16) (by decide +kernel) rfl dX4_showLine_43 ?_
      refine x_iload_n (pc := 46) hC dX4_showLine_46 rfl rfl ?_
      obtain ⟨hb10, h⟩ := jck_some h
      refine x_aald14 (pc := 47) hC (ko1_7 hk9) hb10 rfl dX4_showLine_47 ?_
      refine x_bipush (pc := 48) hC dX4_showLine_48 rfl ?_
      refine x_iload_n (pc := 50) hC dX4_showLine_50 rfl rfl ?_
      refine x_iadd (pc := 51) hC dX4_showLine_51 ?_
      refine x_iconst (pc := 52) hC dX4_showLine_52 ?_
      obtain ⟨v13, M12, e11, h⟩ := jbW_some h
      refine x_cV (pc := 53) hC mv_X4_165 (ok_X4_votes hn (jsk (ko1_7 hk9) hb10.1 hb10.2) e11) rfl (Nat.le_of_ble_eq_true rfl) k_109 rfl (by decide) (jRo0 C) (Nat.le_of_ble_eq_true rfl) dX4_showLine_53 rfl ?_
      refine x_if_ne (tgt := 61) (pc := 56) hC dX4_showLine_56 (by decide) (fun hc => ?_) (fun hc => ?_)
      · replace h := jit_neg hc h
        obtain ⟨l2_14, el2_14, h⟩ := jlet_some h
        refine x_iinc (ls2 := [jA 109, jI l1_2, jI l2_14]) (pc := 61) hC dX4_showLine_61 rfl (by decide) rfl el2_14 rfl ?_
        refine x_goto (tgt := 33) (pc := 64) hC dX4_showLine_64 (by decide) ?_
        exact Hself8 _ _ h
      · replace h := jit_pos hc h
        refine x_iconst (pc := 59) hC dX4_showLine_59 ?_
        exact x_zret (pc := 60) hC hR dX4_showLine_60 (Or.inl jw0) (jr1 h) (jr2 h)
  · replace h := jit_neg hc h
    refine x_aloadA_n (pc := 17) hC dX4_showLine_17 rfl rfl k_109 (by decide) ?_
    obtain ⟨v17, M16, e15, h⟩ := jbW_some h
    refine x_cV (pc := 18) hC mv_X4_74 (ok_X4_refuse hn e15) rfl (Nat.le_of_ble_eq_true rfl) k_109 rfl (by decide) (jRo0 C) (Nat.le_of_ble_eq_true rfl) dX4_showLine_18 rfl ?_
    obtain ⟨hz18, h⟩ := jck_some h
    exact x_zret (pc := 21) hC hR dX4_showLine_21 hz18 (jr1 h) (jr2 h)

set_option maxHeartbeats 4000000 in
set_option maxRecDepth 20000 in
theorem ok_X4_elements {X : jX} {n : Nat} (hn : 179 ≤ n) {l1 : Int} {l2 : Int} {M : jM} {rz : Int} {Mz : jM} (hl1 : jkd l1 = 6) (h : f_X4_elements l1 l2 M = some (rz, Mz)) : jCt X n yX4_elements cX4_elements 5 (some .boolean) 2 [jA 109, jA l1, jI l2] M (some (jI rz)) Mz := by
  refine jCt_of (own := RX4) (ls := [jA 109, jA l1, jI l2, jN, jN]) (by decide +kernel) rfl hn (Nat.le_of_ble_eq_true rfl) rfl ?_
  intro C hC hR
  unfold f_X4_elements at h
  refine x_iconst (pc := 0) hC dX4_elements_0 ?_
  refine x_istore_n (ls2 := [jA 109, jA l1, jI l2, jI 0, jN]) (pc := 1) hC dX4_elements_1 rfl (by decide) rfl rfl rfl ?_
  refine jlp2_ind (P := fun (l3_1 : Int) (M2 : jM) => jG C X n 5 0 0 2 [jA 109, jA l1, jI l2, jI l3_1, jN] [] M2) ?_ _ _ _ h
  intro self3 l3_1 M2 Hself3 h
  refine x_iload_n (pc := 2) hC dX4_elements_2 rfl rfl ?_
  refine x_iconst (pc := 3) hC dX4_elements_3 ?_
  refine x_icmp_ge (tgt := 143) (pc := 4) hC dX4_elements_4 (by decide) (fun hc => ?_) (fun hc => ?_)
  · replace h := jit_pos hc h
    refine x_aloadA_n (pc := 143) hC dX4_elements_143 rfl rfl k_109 (by decide) ?_
    obtain ⟨v6, M5, e4, h⟩ := jbW_some h
    refine x_cV (pc := 144) hC mv_X4_74 (ok_X4_refuse hn e4) rfl (Nat.le_of_ble_eq_true rfl) k_109 rfl (by decide) (jRo0 C) (Nat.le_of_ble_eq_true rfl) dX4_elements_144 rfl ?_
    obtain ⟨hz7, h⟩ := jck_some h
    exact x_zret (pc := 147) hC hR dX4_elements_147 hz7 (jr1 h) (jr2 h)
  · replace h := jit_neg hc h
    refine x_aloadA_n (pc := 7) hC dX4_elements_7 rfl rfl k_109 (by decide) ?_
    refine x_gi (pc := 8) (ji := 3) hC fl_X4_15 rfl fn4_3 k_109 dX4_elements_8 ?_
    refine x_bipush (pc := 11) hC dX4_elements_11 rfl ?_
    obtain ⟨k9, Hk9, h⟩ := jk_some (P := fun k9 => ∀ (s0_8 : Int), k9 s0_8 = some (rz, Mz) → jG C X n 5 0 0 42 [jA 109, jA l1, jI l2, jI l3_1, jN] [jI s0_8] M2) h (by
      intro s0_8 h
      refine x_istore (ls2 := [jA 109, jA l1, jI l2, jI l3_1, jI s0_8]) (pc := 42) hC dX4_elements_42 (by decide) rfl rfl rfl ?_
      refine x_iload (pc := 44) hC dX4_elements_44 rfl ?_
      refine x_iconst (pc := 46) hC dX4_elements_46 ?_
      obtain ⟨k10, Hk10, h⟩ := jk_some (P := fun k10 => k10 = some (rz, Mz) → jG C X n 5 0 0 67 [jA 109, jA l1, jI l2, jI l3_1, jI s0_8] [] M2) h (by
        intro h
        refine x_aloadA_n (pc := 67) hC dX4_elements_67 rfl rfl k_109 (by decide) ?_
        obtain ⟨v13, M12, e11, h⟩ := jbW_some h
        refine x_cV (pc := 68) hC mv_X4_74 (ok_X4_refuse hn e11) rfl (Nat.le_of_ble_eq_true rfl) k_109 rfl (by decide) (jRo0 C) (Nat.le_of_ble_eq_true rfl) dX4_elements_68 rfl ?_
        obtain ⟨hz14, h⟩ := jck_some h
        exact x_zret (pc := 71) hC hR dX4_elements_71 hz14 (jr1 h) (jr2 h))
      refine x_icmp_eq (tgt := 67) (pc := 47) hC dX4_elements_47 (by decide) (fun hc => ?_) (fun hc => ?_)
      · replace h := jit_pos hc h
        exact Hk10 h
      · replace h := jit_neg hc h
        refine x_iload_n (pc := 50) hC dX4_elements_50 rfl rfl ?_
        obtain ⟨k15, Hk15, h⟩ := jk_some (P := fun k15 => k15 = some (rz, Mz) → jG C X n 5 0 0 72 [jA 109, jA l1, jI l2, jI l3_1, jI s0_8] [] M2) h (by
          intro h
          refine x_aloadA_n (pc := 72) hC dX4_elements_72 rfl rfl hl1 (by decide) ?_
          refine x_gf (pc := 73) (b := (l1 + 3)) hC fl_X4_182 ft6_5 hl1 (by decide) (off := 3) (by decide +kernel) rfl dX4_elements_73 ?_
          refine x_iload_n (pc := 76) hC dX4_elements_76 rfl rfl ?_
          refine x_iconst (pc := 77) hC dX4_elements_77 ?_
          refine x_imul (pc := 78) hC dX4_elements_78 ?_
          refine x_iload_n (pc := 79) hC dX4_elements_79 rfl rfl ?_
          refine x_iadd (pc := 80) hC dX4_elements_80 ?_
          refine x_iload (pc := 81) hC dX4_elements_81 rfl ?_
          obtain ⟨hb16, h⟩ := jck_some h
          obtain ⟨M17, eM17, h⟩ := jlet_some h
          refine x_iast (pc := 83) hC (ko6_5 hl1) (by rw [lo6_5 hl1]; exact hb16) dX4_elements_83 eM17 ?_
          refine x_aloadA_n (pc := 84) hC dX4_elements_84 rfl rfl hl1 (by decide) ?_
          refine x_gf (pc := 85) (b := (l1 + 2)) hC fl_X4_184 ft6_4 hl1 (by decide) (off := 2) (by decide +kernel) rfl dX4_elements_85 ?_
          refine x_iload_n (pc := 88) hC dX4_elements_88 rfl rfl ?_
          refine x_iload_n (pc := 89) hC dX4_elements_89 rfl rfl ?_
          refine x_iconst (pc := 90) hC dX4_elements_90 ?_
          refine x_iadd (pc := 91) hC dX4_elements_91 ?_
          obtain ⟨hb18, h⟩ := jck_some h
          obtain ⟨M19, eM19, h⟩ := jlet_some h
          refine x_iast (pc := 92) hC (ko6_4 hl1) (by rw [lo6_4 hl1]; exact hb18) dX4_elements_92 eM19 ?_
          refine x_aloadA_n (pc := 93) hC dX4_elements_93 rfl rfl k_109 (by decide) ?_
          obtain ⟨M21, e20, h⟩ := jbV_some h
          refine x_cV (pc := 94) hC mv_X4_95 (ok_X4_advance hn e20) rfl (Nat.le_of_ble_eq_true rfl) k_109 rfl (by decide) (jRo0 C) (Nat.le_of_ble_eq_true rfl) dX4_elements_94 rfl ?_
          refine x_aloadA_n (pc := 97) hC dX4_elements_97 rfl rfl k_109 (by decide) ?_
          refine x_gi (pc := 98) (ji := 3) hC fl_X4_15 rfl fn4_3 k_109 dX4_elements_98 ?_
          refine x_bipush (pc := 101) hC dX4_elements_101 rfl ?_
          refine x_icmp_eq (tgt := 108) (pc := 103) hC dX4_elements_103 (by decide) (fun hc => ?_) (fun hc => ?_)
          · replace h := jit_pos hc h
            refine x_aloadA_n (pc := 108) hC dX4_elements_108 rfl rfl k_109 (by decide) ?_
            obtain ⟨hk22, h⟩ := jck_some h
            refine x_gr (pc := 109) (ji := 1) hC fl_X4_38 rfl ft4_1 k_109 dX4_elements_109 ?_
            refine x_gf (pc := 112) (b := ((M21 109 1) + 6)) hC fl_X4_135 ft1_4 hk22 (by decide) (off := 6) (by decide +kernel) rfl dX4_elements_112 ?_
            refine x_iload (pc := 115) hC dX4_elements_115 rfl ?_
            obtain ⟨hb23, h⟩ := jck_some h
            refine x_iald (pc := 117) hC (ko1_4 hk22) (by rw [lo1_4 hk22]; exact hb23) dX4_elements_117 ?_
            obtain ⟨k24, Hk24, h⟩ := jk_some (P := fun k24 => k24 = some (rz, Mz) → jG C X n 5 0 0 128 [jA 109, jA l1, jI l2, jI l3_1, jI s0_8] [] M21) h (by
              intro h
              refine x_aloadA_n (pc := 128) hC dX4_elements_128 rfl rfl k_109 (by decide) ?_
              obtain ⟨v27, M26, e25, h⟩ := jbW_some h
              refine x_cV (pc := 129) hC mv_X4_74 (ok_X4_refuse hn e25) rfl (Nat.le_of_ble_eq_true rfl) k_109 rfl (by decide) (jRo0 C) (Nat.le_of_ble_eq_true rfl) dX4_elements_129 rfl ?_
              obtain ⟨hz28, h⟩ := jck_some h
              exact x_zret (pc := 132) hC hR dX4_elements_132 hz28 (jr1 h) (jr2 h))
            refine x_if_ne (tgt := 128) (pc := 118) hC dX4_elements_118 (by decide) (fun hc => ?_) (fun hc => ?_)
            · replace h := jit_neg hc h
              exact Hk24 h
            · replace h := jit_pos hc h
              refine x_iload_n (pc := 121) hC dX4_elements_121 rfl rfl ?_
              refine x_iconst (pc := 122) hC dX4_elements_122 ?_
              refine x_iadd (pc := 123) hC dX4_elements_123 ?_
              refine x_iconst (pc := 124) hC dX4_elements_124 ?_
              refine x_icmp_lt (tgt := 133) (pc := 125) hC dX4_elements_125 (by decide) (fun hc => ?_) (fun hc => ?_)
              · replace h := jit_pos hc h
                refine x_aloadA_n (pc := 133) hC dX4_elements_133 rfl rfl k_109 (by decide) ?_
                obtain ⟨M30, e29, h⟩ := jbV_some h
                refine x_cV (pc := 134) hC mv_X4_95 (ok_X4_advance hn e29) rfl (Nat.le_of_ble_eq_true rfl) k_109 rfl (by decide) (jRo0 C) (Nat.le_of_ble_eq_true rfl) dX4_elements_134 rfl ?_
                obtain ⟨l3_31, el3_31, h⟩ := jlet_some h
                refine x_iinc (ls2 := [jA 109, jA l1, jI l2, jI l3_31, jI s0_8]) (pc := 137) hC dX4_elements_137 rfl (by decide) rfl el3_31 rfl ?_
                refine x_goto (tgt := 2) (pc := 140) hC dX4_elements_140 (by decide) ?_
                refine x_kill 4 (ls2 := [jA 109, jA l1, jI l2, jI l3_31, jN]) rfl ?_
                exact Hself3 _ _ h
              · replace h := jit_neg hc h
                exact Hk24 h
          · replace h := jit_neg hc h
            refine x_iconst (pc := 106) hC dX4_elements_106 ?_
            exact x_zret (pc := 107) hC hR dX4_elements_107 (Or.inr jw1) (jr1 h) (jr2 h))
        refine x_if_le (tgt := 72) (pc := 51) hC dX4_elements_51 (by decide) (fun hc => ?_) (fun hc => ?_)
        · replace h := jit_pos hc h
          exact Hk15 h
        · replace h := jit_neg hc h
          refine x_aloadA_n (pc := 54) hC dX4_elements_54 rfl rfl k_109 (by decide) ?_
          obtain ⟨hk32, h⟩ := jck_some h
          refine x_gr (pc := 55) (ji := 1) hC fl_X4_38 rfl ft4_1 k_109 dX4_elements_55 ?_
          refine x_gf (pc := 58) (b := ((M2 109 1) + 6)) hC fl_X4_135 ft1_4 hk32 (by decide) (off := 6) (by decide +kernel) rfl dX4_elements_58 ?_
          refine x_iload (pc := 61) hC dX4_elements_61 rfl ?_
          obtain ⟨hb33, h⟩ := jck_some h
          refine x_iald (pc := 63) hC (ko1_4 hk32) (by rw [lo1_4 hk32]; exact hb33) dX4_elements_63 ?_
          refine x_if_eq (tgt := 72) (pc := 64) hC dX4_elements_64 (by decide) (fun hc => ?_) (fun hc => ?_)
          · replace h := jit_pos hc h
            exact Hk15 h
          · replace h := jit_neg hc h
            exact Hk10 h)
    refine x_icmp_ne (tgt := 41) (pc := 13) hC dX4_elements_13 (by decide) (fun hc => ?_) (fun hc => ?_)
    · replace h := jit_neg hc h
      refine x_iconst (pc := 41) hC dX4_elements_41 ?_
      exact Hk9 _ h
    · replace h := jit_pos hc h
      refine x_aloadA_n (pc := 16) hC dX4_elements_16 rfl rfl k_109 (by decide) ?_
      obtain ⟨hk34, h⟩ := jck_some h
      refine x_gr (pc := 17) (ji := 1) hC fl_X4_38 rfl ft4_1 k_109 dX4_elements_17 ?_
      refine x_gf (pc := 20) (b := ((M2 109 1) + 2)) hC fl_X4_117 ft1_2 hk34 (by decide) (off := 2) (by decide +kernel) rfl dX4_elements_20 ?_
      refine x_aloadA_n (pc := 23) hC dX4_elements_23 rfl rfl k_109 (by decide) ?_
      refine x_gf (pc := 24) (b := 2) hC fl_X4_34 ft4_0 k_109 (by decide) (off := -107) (by decide +kernel) (by decide) dX4_elements_24 ?_
      refine x_aloadA_n (pc := 27) hC dX4_elements_27 rfl rfl k_109 (by decide) ?_
      refine x_gi (pc := 28) (ji := 4) hC fl_X4_18 rfl fn4_4 k_109 dX4_elements_28 ?_
      refine x_aloadA_n (pc := 31) hC dX4_elements_31 rfl rfl k_109 (by decide) ?_
      refine x_gi (pc := 32) (ji := 5) hC fl_X4_21 rfl fn4_5 k_109 dX4_elements_32 ?_
      obtain ⟨v36, e35, h⟩ := jbR_some h
      refine x_cV (pc := 35) hC mv_X4_107 (ok_X2_find hn (ko1_2 hk34) k_2 e35) rfl (Nat.le_of_ble_eq_true rfl) (ko1_2 hk34) rfl (by decide) (jRo0 C) (Nat.le_of_ble_eq_true rfl) dX4_elements_35 rfl ?_
      refine x_goto (tgt := 42) (pc := 38) hC dX4_elements_38 (by decide) ?_
      exact Hk9 _ h

set_option maxHeartbeats 4000000 in
set_option maxRecDepth 20000 in
theorem ok_X4_calls {X : jX} {n : Nat} (hn : 179 ≤ n) {l1 : Int} {l2 : Int} {M : jM} {rz : Int} {Mz : jM} (hl1 : jkd l1 = 6) (h : f_X4_calls l1 l2 M = some (rz, Mz)) : jCt X n yX4_calls cX4_calls 6 (some .boolean) 6 [jA 109, jA l1, jI l2] M (some (jI rz)) Mz := by
  refine jCt_of (own := RX4) (ls := [jA 109, jA l1, jI l2, jN, jN, jN]) (by decide +kernel) rfl hn (Nat.le_of_ble_eq_true rfl) rfl ?_
  intro C hC hR
  unfold f_X4_calls at h
  refine x_iconst (pc := 0) hC dX4_calls_0 ?_
  refine x_istore_n (ls2 := [jA 109, jA l1, jI l2, jI 0, jN, jN]) (pc := 1) hC dX4_calls_1 rfl (by decide) rfl rfl rfl ?_
  refine x_iconst (pc := 2) hC dX4_calls_2 ?_
  refine x_istore (ls2 := [jA 109, jA l1, jI l2, jI 0, jI 0, jN]) (pc := 3) hC dX4_calls_3 (by decide) rfl rfl rfl ?_
  refine jlp3_ind (P := fun (l3_1 : Int) (l4_2 : Int) (M3 : jM) => jG C X n 6 0 0 5 [jA 109, jA l1, jI l2, jI l3_1, jI l4_2, jN] [] M3) ?_ _ _ _ _ h
  intro self4 l3_1 l4_2 M3 Hself4 h
  refine x_iload (pc := 5) hC dX4_calls_5 rfl ?_
  refine x_iconst (pc := 7) hC dX4_calls_7 ?_
  obtain ⟨k5, Hk5, h⟩ := jk_some (P := fun k5 => k5 = some (rz, Mz) → jG C X n 6 0 0 65 [jA 109, jA l1, jI l2, jI l3_1, jI l4_2, jN] [] M3) h (by
    intro h
    refine x_aloadA_n (pc := 65) hC dX4_calls_65 rfl rfl hl1 (by decide) ?_
    refine x_gf (pc := 66) (b := (l1 + 4)) hC fl_X4_191 ft6_6 hl1 (by decide) (off := 4) (by decide +kernel) rfl dX4_calls_66 ?_
    refine x_iload_n (pc := 69) hC dX4_calls_69 rfl rfl ?_
    refine x_iload_n (pc := 70) hC dX4_calls_70 rfl rfl ?_
    obtain ⟨hb6, h⟩ := jck_some h
    obtain ⟨M7, eM7, h⟩ := jlet_some h
    refine x_iast (pc := 71) hC (ko6_6 hl1) (by rw [lo6_6 hl1]; exact hb6) dX4_calls_71 eM7 ?_
    refine x_iconst (pc := 72) hC dX4_calls_72 ?_
    exact x_zret (pc := 73) hC hR dX4_calls_73 (Or.inr jw1) (jr1 h) (jr2 h))
  refine x_icmp_gt (tgt := 65) (pc := 8) hC dX4_calls_8 (by decide) (fun hc => ?_) (fun hc => ?_)
  · replace h := jit_pos hc h
    exact Hk5 h
  · replace h := jit_neg hc h
    refine x_aloadA_n (pc := 11) hC dX4_calls_11 rfl rfl k_109 (by decide) ?_
    refine x_gi (pc := 12) (ji := 3) hC fl_X4_15 rfl fn4_3 k_109 dX4_calls_12 ?_
    refine x_bipush (pc := 15) hC dX4_calls_15 rfl ?_
    refine x_icmp_ne (tgt := 65) (pc := 17) hC dX4_calls_17 (by decide) (fun hc => ?_) (fun hc => ?_)
    · replace h := jit_neg hc h
      exact Hk5 h
    · replace h := jit_pos hc h
      refine x_aloadA_n (pc := 20) hC dX4_calls_20 rfl rfl k_109 (by decide) ?_
      refine x_ldcS (pc := 21) hC dX4_calls_21 sr_5 (q := 5) rfl ?_
      obtain ⟨v9, e8, h⟩ := jbR_some h
      refine x_cV (pc := 23) hC mv_X4_48 (ok_X4_among hn (by decide) e8) rfl (Nat.le_of_ble_eq_true rfl) k_109 rfl (by decide) (jRo0 C) (Nat.le_of_ble_eq_true rfl) dX4_calls_23 rfl ?_
      refine x_istore (ls2 := [jA 109, jA l1, jI l2, jI l3_1, jI l4_2, jI v9]) (pc := 26) hC dX4_calls_26 (by decide) rfl rfl rfl ?_
      refine x_iload (pc := 28) hC dX4_calls_28 rfl ?_
      refine x_iconst (pc := 30) hC dX4_calls_30 ?_
      obtain ⟨k10, Hk10, h⟩ := jk_some (P := fun k10 => k10 = some (rz, Mz) → jG C X n 6 0 0 43 [jA 109, jA l1, jI l2, jI l3_1, jI l4_2, jI v9] [] M3) h (by
        intro h
        refine x_aloadA_n (pc := 43) hC dX4_calls_43 rfl rfl k_109 (by decide) ?_
        obtain ⟨v13, M12, e11, h⟩ := jbW_some h
        refine x_cV (pc := 44) hC mv_X4_74 (ok_X4_refuse hn e11) rfl (Nat.le_of_ble_eq_true rfl) k_109 rfl (by decide) (jRo0 C) (Nat.le_of_ble_eq_true rfl) dX4_calls_44 rfl ?_
        obtain ⟨hz14, h⟩ := jck_some h
        exact x_zret (pc := 47) hC hR dX4_calls_47 hz14 (jr1 h) (jr2 h))
      refine x_icmp_eq (tgt := 43) (pc := 31) hC dX4_calls_31 (by decide) (fun hc => ?_) (fun hc => ?_)
      · replace h := jit_pos hc h
        exact Hk10 h
      · replace h := jit_neg hc h
        refine x_iload_n (pc := 34) hC dX4_calls_34 rfl rfl ?_
        refine x_iload (pc := 35) hC dX4_calls_35 rfl ?_
        refine x_ishr (pc := 37) hC dX4_calls_37 ?_
        refine x_iconst (pc := 38) hC dX4_calls_38 ?_
        refine x_iand (pc := 39) hC dX4_calls_39 ?_
        refine x_if_eq (tgt := 48) (pc := 40) hC dX4_calls_40 (by decide) (fun hc => ?_) (fun hc => ?_)
        · replace h := jit_pos hc h
          refine x_iload_n (pc := 48) hC dX4_calls_48 rfl rfl ?_
          refine x_iconst (pc := 49) hC dX4_calls_49 ?_
          refine x_iload (pc := 50) hC dX4_calls_50 rfl ?_
          refine x_ishl (pc := 52) hC dX4_calls_52 ?_
          refine x_ior (pc := 53) hC dX4_calls_53 ?_
          obtain ⟨l3_15, el3_15, h⟩ := jlet_some h
          refine x_istore_n (ls2 := [jA 109, jA l1, jI l2, jI l3_15, jI l4_2, jI v9]) (pc := 54) hC dX4_calls_54 rfl (by decide) rfl el3_15 rfl ?_
          refine x_aloadA_n (pc := 55) hC dX4_calls_55 rfl rfl k_109 (by decide) ?_
          obtain ⟨M17, e16, h⟩ := jbV_some h
          refine x_cV (pc := 56) hC mv_X4_95 (ok_X4_advance hn e16) rfl (Nat.le_of_ble_eq_true rfl) k_109 rfl (by decide) (jRo0 C) (Nat.le_of_ble_eq_true rfl) dX4_calls_56 rfl ?_
          obtain ⟨l4_18, el4_18, h⟩ := jlet_some h
          refine x_iinc (ls2 := [jA 109, jA l1, jI l2, jI l3_15, jI l4_18, jI v9]) (pc := 59) hC dX4_calls_59 rfl (by decide) rfl el4_18 rfl ?_
          refine x_goto (tgt := 5) (pc := 62) hC dX4_calls_62 (by decide) ?_
          refine x_kill 5 (ls2 := [jA 109, jA l1, jI l2, jI l3_15, jI l4_18, jN]) rfl ?_
          exact Hself4 _ _ _ h
        · replace h := jit_neg hc h
          exact Hk10 h

