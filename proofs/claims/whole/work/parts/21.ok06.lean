/-! ===== the machine does what the functions say; by program ===== -/
set_option maxHeartbeats 4000000 in
set_option maxRecDepth 20000 in
theorem ok_X10_prime {X : jX} {n : Nat} (hn : 179 ≤ n) {l1 : Int} {l2 : Int} {M : jM} {rz : Int} {Mz : jM} (h : f_X10_prime l1 l2 M = some (rz, Mz)) : jCt X n yX10_prime cX10_prime 9 (some .int) 7 [jA 166, jI l1, jI l2] M (some (jI rz)) Mz := by
  refine jCt_of (own := RX10) (ls := [jA 166, jI l1, jI l2, jN, jN, jN, jN, jN, jN]) (by decide +kernel) rfl hn (Nat.le_of_ble_eq_true rfl) rfl ?_
  intro C hC hR
  unfold f_X10_prime at h
  refine x_aloadA_n (pc := 0) hC dX10_prime_0 rfl rfl k_166 (by decide) ?_
  refine x_iconst (pc := 1) hC dX10_prime_1 ?_
  obtain ⟨M1, eM1, h⟩ := jlet_some h
  refine x_pi (pc := 2) (ji := 0) hC fl_X10_3 rfl ft10_0 k_166 dX10_prime_2 eM1 ?_
  refine x_aloadA_n (pc := 5) hC dX10_prime_5 rfl rfl k_166 (by decide) ?_
  obtain ⟨M3, e2, h⟩ := jbV_some h
  refine x_cV (pc := 6) hC mv_X10_408 (ok_X10_all hn e2) rfl (Nat.le_of_ble_eq_true rfl) k_166 rfl (by decide) (jRo0 C) (Nat.le_of_ble_eq_true rfl) dX10_prime_6 rfl ?_
  refine x_aloadA_n (pc := 9) hC dX10_prime_9 rfl rfl k_166 (by decide) ?_
  refine x_iload_n (pc := 10) hC dX10_prime_10 rfl rfl ?_
  obtain ⟨v6, M5, e4, h⟩ := jbW_some h
  refine x_cV (pc := 11) hC mv_X10_411 (ok_X10_noSkater hn e4) rfl (Nat.le_of_ble_eq_true rfl) k_166 rfl (by decide) (jRo0 C) (Nat.le_of_ble_eq_true rfl) dX10_prime_11 rfl ?_
  refine x_if_ne (tgt := 40) (pc := 14) hC dX10_prime_14 (by decide) (fun hc => ?_) (fun hc => ?_)
  · replace h := jit_neg hc h
    refine x_iconst (pc := 40) hC dX10_prime_40 ?_
    exact x_iret (pc := 41) hC hR dX10_prime_41 (jr1 h) (jr2 h)
  · replace h := jit_pos hc h
    refine x_aloadA_n (pc := 17) hC dX10_prime_17 rfl rfl k_166 (by decide) ?_
    refine x_iload_n (pc := 18) hC dX10_prime_18 rfl rfl ?_
    refine x_iconst (pc := 19) hC dX10_prime_19 ?_
    refine x_bipush (pc := 20) hC dX10_prime_20 rfl ?_
    obtain ⟨v8, e7, h⟩ := jbR_some h
    refine x_cS (pc := 22) hC ms_X10_69 (ok_X10_in hn e7) rfl (Nat.le_of_ble_eq_true rfl) (jRo0 C) (Nat.le_of_ble_eq_true rfl) dX10_prime_22 rfl ?_
    obtain ⟨k10, Hk10, h⟩ := jk_some (P := fun k10 => ∀ (s1_9 : Int), k10 s1_9 = some (rz, Mz) → jG C X n 9 0 0 33 [jA 166, jI l1, jI l2, jN, jN, jN, jN, jN, jN] [jI s1_9, jA 166] M5) h (by
      intro s1_9 h
      refine x_iconst (pc := 33) hC dX10_prime_33 ?_
      obtain ⟨v13, M12, e11, h⟩ := jbW_some h
      refine x_cV (pc := 34) hC mv_X10_268 (ok_X10_throwsIf hn e11) rfl (Nat.le_of_ble_eq_true rfl) k_166 rfl (by decide) (jRo0 C) (Nat.le_of_ble_eq_true rfl) dX10_prime_34 rfl ?_
      refine x_if_eq (tgt := 42) (pc := 37) hC dX10_prime_37 (by decide) (fun hc => ?_) (fun hc => ?_)
      · replace h := jit_pos hc h
        refine x_iconst (pc := 42) hC dX10_prime_42 ?_
        refine x_istore_n (ls2 := [jA 166, jI l1, jI l2, jI 0, jN, jN, jN, jN, jN]) (pc := 43) hC dX10_prime_43 rfl (by decide) rfl rfl rfl ?_
        refine x_iconst (pc := 44) hC dX10_prime_44 ?_
        refine x_istore (ls2 := [jA 166, jI l1, jI l2, jI 0, jI 0, jN, jN, jN, jN]) (pc := 45) hC dX10_prime_45 (by decide) rfl rfl rfl ?_
        refine jlp2_ind (P := fun (l3_14 : Int) (l4_15 : Int) => jG C X n 9 0 0 47 [jA 166, jI l1, jI l2, jI l3_14, jI l4_15, jN, jN, jN, jN] [] M12) ?_ _ _ _ h
        intro self16 l3_14 l4_15 Hself16 h
        refine x_iload (pc := 47) hC dX10_prime_47 rfl ?_
        refine x_aloadA_n (pc := 49) hC dX10_prime_49 rfl rfl k_166 (by decide) ?_
        refine x_gf (pc := 50) (b := 169) hC fl_X10_81 ft10_9 k_166 (by decide) (off := 3) (by decide +kernel) (by decide) dX10_prime_50 ?_
        refine x_bipush (pc := 53) hC dX10_prime_53 rfl ?_
        refine x_iload_n (pc := 55) hC dX10_prime_55 rfl rfl ?_
        refine x_iadd (pc := 56) hC dX10_prime_56 ?_
        obtain ⟨hb17, h⟩ := jck_some h
        refine x_iald (pc := 57) hC k_169 (by rw [l_169]; exact hb17) dX10_prime_57 ?_
        refine x_icmp_ge (tgt := 103) (pc := 58) hC dX10_prime_58 (by decide) (fun hc => ?_) (fun hc => ?_)
        · replace h := jit_pos hc h
          refine x_iload_n (pc := 103) hC dX10_prime_103 rfl rfl ?_
          refine x_iload_n (pc := 104) hC dX10_prime_104 rfl rfl ?_
          obtain ⟨v19, e18, h⟩ := jbR_some h
          refine x_cS (pc := 105) hC ms_X10_466 (ok_X10_bits hn e18) rfl (Nat.le_of_ble_eq_true rfl) (jRo0 C) (Nat.le_of_ble_eq_true rfl) dX10_prime_105 rfl ?_
          obtain ⟨v21, e20, h⟩ := jbR_some h
          refine x_cS (pc := 108) hC ms_X10_306 (ok_J9_min_7cf53 hn e20) rfl (Nat.le_of_ble_eq_true rfl) (jRo0 C) (Nat.le_of_ble_eq_true rfl) dX10_prime_108 rfl ?_
          refine x_istore (ls2 := [jA 166, jI l1, jI l2, jI l3_14, jI v21, jN, jN, jN, jN]) (pc := 111) hC dX10_prime_111 (by decide) rfl rfl rfl ?_
          refine x_aloadA_n (pc := 113) hC dX10_prime_113 rfl rfl k_166 (by decide) ?_
          refine x_iload_n (pc := 114) hC dX10_prime_114 rfl rfl ?_
          obtain ⟨M22, eM22, h⟩ := jlet_some h
          refine x_pi (pc := 115) (ji := 17) hC fl_X10_281 rfl ft10_17 k_166 dX10_prime_115 eM22 ?_
          refine x_iconst (pc := 118) hC dX10_prime_118 ?_
          refine x_istore (ls2 := [jA 166, jI l1, jI l2, jI l3_14, jI v21, jI (-1), jN, jN, jN]) (pc := 119) hC dX10_prime_119 (by decide) rfl rfl rfl ?_
          refine x_iconst (pc := 121) hC dX10_prime_121 ?_
          refine x_istore (ls2 := [jA 166, jI l1, jI l2, jI l3_14, jI v21, jI (-1), jI 0, jN, jN]) (pc := 122) hC dX10_prime_122 (by decide) rfl rfl rfl ?_
          refine x_iconst (pc := 124) hC dX10_prime_124 ?_
          refine x_istore (ls2 := [jA 166, jI l1, jI l2, jI l3_14, jI v21, jI (-1), jI 0, jI 0, jN]) (pc := 125) hC dX10_prime_125 (by decide) rfl rfl rfl ?_
          refine jlp4_ind (P := fun (l5_23 : Int) (l6_24 : Int) (l7_25 : Int) (M26 : jM) => jG C X n 9 0 0 127 [jA 166, jI l1, jI l2, jI l3_14, jI v21, jI l5_23, jI l6_24, jI l7_25, jN] [] M26) ?_ _ _ _ _ _ h
          intro self27 l5_23 l6_24 l7_25 M26 Hself27 h
          refine x_iload (pc := 127) hC dX10_prime_127 rfl ?_
          refine x_iload_n (pc := 129) hC dX10_prime_129 rfl rfl ?_
          refine x_icmp_gt (tgt := 198) (pc := 130) hC dX10_prime_130 (by decide) (fun hc => ?_) (fun hc => ?_)
          · replace h := jit_pos hc h
            refine x_iload (pc := 198) hC dX10_prime_198 rfl ?_
            exact x_iret (pc := 200) hC hR dX10_prime_200 (jr1 h) (jr2 h)
          · replace h := jit_neg hc h
            refine x_iload (pc := 133) hC dX10_prime_133 rfl ?_
            refine x_iload_n (pc := 135) hC dX10_prime_135 rfl rfl ?_
            refine x_iconst (pc := 136) hC dX10_prime_136 ?_
            refine x_ixor (pc := 137) hC dX10_prime_137 ?_
            refine x_iand (pc := 138) hC dX10_prime_138 ?_
            refine x_if_ne (tgt := 192) (pc := 139) hC dX10_prime_139 (by decide) (fun hc => ?_) (fun hc => ?_)
            · replace h := jit_neg hc h
              obtain ⟨l7_28, el7_28, h⟩ := jlet_some h
              refine x_iinc (ls2 := [jA 166, jI l1, jI l2, jI l3_14, jI v21, jI l5_23, jI l6_24, jI l7_28, jN]) (pc := 192) hC dX10_prime_192 rfl (by decide) rfl el7_28 rfl ?_
              refine x_goto (tgt := 127) (pc := 195) hC dX10_prime_195 (by decide) ?_
              exact Hself27 _ _ _ _ h
            · replace h := jit_pos hc h
              refine x_iload (pc := 142) hC dX10_prime_142 rfl ?_
              obtain ⟨v30, e29, h⟩ := jbR_some h
              refine x_cS (pc := 144) hC ms_X10_466 (ok_X10_bits hn e29) rfl (Nat.le_of_ble_eq_true rfl) (jRo0 C) (Nat.le_of_ble_eq_true rfl) dX10_prime_144 rfl ?_
              refine x_iload (pc := 147) hC dX10_prime_147 rfl ?_
              refine x_icmp_eq (tgt := 155) (pc := 149) hC dX10_prime_149 (by decide) (fun hc => ?_) (fun hc => ?_)
              · replace h := jit_pos hc h
                refine x_aloadA_n (pc := 155) hC dX10_prime_155 rfl rfl k_166 (by decide) ?_
                refine x_iload (pc := 156) hC dX10_prime_156 rfl ?_
                obtain ⟨M31, eM31, h⟩ := jlet_some h
                refine x_pi (pc := 158) (ji := 18) hC fl_X10_290 rfl ft10_18 k_166 dX10_prime_158 eM31 ?_
                refine x_aloadA_n (pc := 161) hC dX10_prime_161 rfl rfl k_166 (by decide) ?_
                refine x_iload_n (pc := 162) hC dX10_prime_162 rfl rfl ?_
                obtain ⟨v34, M33, e32, h⟩ := jbW_some h
                refine x_cV (pc := 163) hC mv_X10_390 (ok_X10_pointsOf hn e32) rfl (Nat.le_of_ble_eq_true rfl) k_166 rfl (by decide) (jRo0 C) (Nat.le_of_ble_eq_true rfl) dX10_prime_163 rfl ?_
                refine x_istore (ls2 := [jA 166, jI l1, jI l2, jI l3_14, jI v21, jI l5_23, jI l6_24, jI l7_25, jI v34]) (pc := 166) hC dX10_prime_166 (by decide) rfl rfl rfl ?_
                refine x_iload (pc := 168) hC dX10_prime_168 rfl ?_
                refine x_iconst (pc := 170) hC dX10_prime_170 ?_
                obtain ⟨k35, Hk35, h⟩ := jk_some (P := fun k35 => k35 = some (rz, Mz) → jG C X n 9 0 0 184 [jA 166, jI l1, jI l2, jI l3_14, jI v21, jI l5_23, jI l6_24, jI l7_25, jI v34] [] M33) h (by
                  intro h
                  refine x_iload (pc := 184) hC dX10_prime_184 rfl ?_
                  refine x_istore (ls2 := [jA 166, jI l1, jI l2, jI l3_14, jI v21, jI l7_25, jI l6_24, jI l7_25, jI v34]) (pc := 186) hC dX10_prime_186 (by decide) rfl rfl rfl ?_
                  refine x_iload (pc := 188) hC dX10_prime_188 rfl ?_
                  refine x_istore (ls2 := [jA 166, jI l1, jI l2, jI l3_14, jI v21, jI l7_25, jI v34, jI l7_25, jI v34]) (pc := 190) hC dX10_prime_190 (by decide) rfl rfl rfl ?_
                  obtain ⟨l7_36, el7_36, h⟩ := jlet_some h
                  refine x_iinc (ls2 := [jA 166, jI l1, jI l2, jI l3_14, jI v21, jI l7_25, jI v34, jI l7_36, jI v34]) (pc := 192) hC dX10_prime_192 rfl (by decide) rfl el7_36 rfl ?_
                  refine x_goto (tgt := 127) (pc := 195) hC dX10_prime_195 (by decide) ?_
                  refine x_kill 8 (ls2 := [jA 166, jI l1, jI l2, jI l3_14, jI v21, jI l7_25, jI v34, jI l7_36, jN]) rfl ?_
                  exact Hself27 _ _ _ _ h)
                refine x_icmp_eq (tgt := 184) (pc := 171) hC dX10_prime_171 (by decide) (fun hc => ?_) (fun hc => ?_)
                · replace h := jit_pos hc h
                  exact Hk35 h
                · replace h := jit_neg hc h
                  refine x_iload (pc := 174) hC dX10_prime_174 rfl ?_
                  refine x_iload (pc := 176) hC dX10_prime_176 rfl ?_
                  refine x_icmp_gt (tgt := 184) (pc := 178) hC dX10_prime_178 (by decide) (fun hc => ?_) (fun hc => ?_)
                  · replace h := jit_pos hc h
                    exact Hk35 h
                  · replace h := jit_neg hc h
                    refine x_goto (tgt := 192) (pc := 181) hC dX10_prime_181 (by decide) ?_
                    obtain ⟨l7_37, el7_37, h⟩ := jlet_some h
                    refine x_iinc (ls2 := [jA 166, jI l1, jI l2, jI l3_14, jI v21, jI l5_23, jI l6_24, jI l7_37, jI v34]) (pc := 192) hC dX10_prime_192 rfl (by decide) rfl el7_37 rfl ?_
                    refine x_goto (tgt := 127) (pc := 195) hC dX10_prime_195 (by decide) ?_
                    refine x_kill 8 (ls2 := [jA 166, jI l1, jI l2, jI l3_14, jI v21, jI l5_23, jI l6_24, jI l7_37, jN]) rfl ?_
                    exact Hself27 _ _ _ _ h
              · replace h := jit_neg hc h
                refine x_goto (tgt := 192) (pc := 152) hC dX10_prime_152 (by decide) ?_
                obtain ⟨l7_38, el7_38, h⟩ := jlet_some h
                refine x_iinc (ls2 := [jA 166, jI l1, jI l2, jI l3_14, jI v21, jI l5_23, jI l6_24, jI l7_38, jN]) (pc := 192) hC dX10_prime_192 rfl (by decide) rfl el7_38 rfl ?_
                refine x_goto (tgt := 127) (pc := 195) hC dX10_prime_195 (by decide) ?_
                exact Hself27 _ _ _ _ h
        · replace h := jit_neg hc h
          refine x_iload_n (pc := 61) hC dX10_prime_61 rfl rfl ?_
          refine x_aloadA_n (pc := 62) hC dX10_prime_62 rfl rfl k_166 (by decide) ?_
          refine x_iload_n (pc := 63) hC dX10_prime_63 rfl rfl ?_
          refine x_iload (pc := 64) hC dX10_prime_64 rfl ?_
          obtain ⟨v40, e39, h⟩ := jbR_some h
          refine x_cV (pc := 66) hC mv_X10_322 (ok_X10_is hn e39) rfl (Nat.le_of_ble_eq_true rfl) k_166 rfl (by decide) (jRo0 C) (Nat.le_of_ble_eq_true rfl) dX10_prime_66 rfl ?_
          obtain ⟨k42, Hk42, h⟩ := jk_some (P := fun k42 => ∀ (s1_41 : Int), k42 s1_41 = some (rz, Mz) → jG C X n 9 0 0 95 [jA 166, jI l1, jI l2, jI l3_14, jI l4_15, jN, jN, jN, jN] [jI s1_41, jI l3_14] M12) h (by
            intro s1_41 h
            refine x_ior (pc := 95) hC dX10_prime_95 ?_
            obtain ⟨l3_43, el3_43, h⟩ := jlet_some h
            refine x_istore_n (ls2 := [jA 166, jI l1, jI l2, jI l3_43, jI l4_15, jN, jN, jN, jN]) (pc := 96) hC dX10_prime_96 rfl (by decide) rfl el3_43 rfl ?_
            obtain ⟨l4_44, el4_44, h⟩ := jlet_some h
            refine x_iinc (ls2 := [jA 166, jI l1, jI l2, jI l3_43, jI l4_44, jN, jN, jN, jN]) (pc := 97) hC dX10_prime_97 rfl (by decide) rfl el4_44 rfl ?_
            refine x_goto (tgt := 47) (pc := 100) hC dX10_prime_100 (by decide) ?_
            exact Hself16 _ _ h)
          obtain ⟨k45, Hk45, h⟩ := jk_some (P := fun k45 => k45 = some (rz, Mz) → jG C X n 9 0 0 94 [jA 166, jI l1, jI l2, jI l3_14, jI l4_15, jN, jN, jN, jN] [jI l3_14] M12) h (by
            intro h
            refine x_iconst (pc := 94) hC dX10_prime_94 ?_
            exact Hk42 _ h)
          refine x_if_eq (tgt := 94) (pc := 69) hC dX10_prime_69 (by decide) (fun hc => ?_) (fun hc => ?_)
          · replace h := jit_pos hc h
            exact Hk45 h
          · replace h := jit_neg hc h
            refine x_aloadA_n (pc := 72) hC dX10_prime_72 rfl rfl k_166 (by decide) ?_
            refine x_aloadA_n (pc := 73) hC dX10_prime_73 rfl rfl k_166 (by decide) ?_
            refine x_iload_n (pc := 74) hC dX10_prime_74 rfl rfl ?_
            refine x_iload (pc := 75) hC dX10_prime_75 rfl ?_
            refine x_iconst (pc := 77) hC dX10_prime_77 ?_
            obtain ⟨v47, e46, h⟩ := jbR_some h
            refine x_cV (pc := 78) hC mv_X10_293 (ok_X10_elementOf hn e46) rfl (Nat.le_of_ble_eq_true rfl) k_166 rfl (by decide) (jRo0 C) (Nat.le_of_ble_eq_true rfl) dX10_prime_78 rfl ?_
            obtain ⟨v49, e48, h⟩ := jbR_some h
            refine x_cV (pc := 81) hC mv_X10_297 (ok_X10_isJump hn e48) rfl (Nat.le_of_ble_eq_true rfl) k_166 rfl (by decide) (jRo0 C) (Nat.le_of_ble_eq_true rfl) dX10_prime_81 rfl ?_
            refine x_if_eq (tgt := 94) (pc := 84) hC dX10_prime_84 (by decide) (fun hc => ?_) (fun hc => ?_)
            · replace h := jit_pos hc h
              exact Hk45 h
            · replace h := jit_neg hc h
              refine x_iconst (pc := 87) hC dX10_prime_87 ?_
              refine x_iload (pc := 88) hC dX10_prime_88 rfl ?_
              refine x_ishl (pc := 90) hC dX10_prime_90 ?_
              refine x_goto (tgt := 95) (pc := 91) hC dX10_prime_91 (by decide) ?_
              exact Hk42 _ h
      · replace h := jit_neg hc h
        refine x_iconst (pc := 40) hC dX10_prime_40 ?_
        exact x_iret (pc := 41) hC hR dX10_prime_41 (jr1 h) (jr2 h))
    refine x_if_ne (tgt := 32) (pc := 25) hC dX10_prime_25 (by decide) (fun hc => ?_) (fun hc => ?_)
    · replace h := jit_neg hc h
      refine x_iconst (pc := 32) hC dX10_prime_32 ?_
      exact Hk10 _ h
    · replace h := jit_pos hc h
      refine x_iconst (pc := 28) hC dX10_prime_28 ?_
      refine x_goto (tgt := 33) (pc := 29) hC dX10_prime_29 (by decide) ?_
      exact Hk10 _ h

set_option maxHeartbeats 4000000 in
set_option maxRecDepth 20000 in
theorem ok_X10_led {X : jX} {n : Nat} (hn : 179 ≤ n) {l1 : Int} {M : jM} {rz : Int} {Mz : jM} (h : f_X10_led l1 M = some (rz, Mz)) : jCt X n yX10_led cX10_led 2 (some .int) 10 [jA 166, jI l1] M (some (jI rz)) Mz := by
  refine jCt_of (own := RX10) (ls := [jA 166, jI l1]) (by decide +kernel) rfl hn (Nat.le_of_ble_eq_true rfl) rfl ?_
  intro C hC hR
  unfold f_X10_led at h
  refine x_aloadA_n (pc := 0) hC dX10_led_0 rfl rfl k_166 (by decide) ?_
  refine x_iconst (pc := 1) hC dX10_led_1 ?_
  obtain ⟨M1, eM1, h⟩ := jlet_some h
  refine x_pi (pc := 2) (ji := 0) hC fl_X10_3 rfl ft10_0 k_166 dX10_led_2 eM1 ?_
  refine x_aloadA_n (pc := 5) hC dX10_led_5 rfl rfl k_166 (by decide) ?_
  obtain ⟨M3, e2, h⟩ := jbV_some h
  refine x_cV (pc := 6) hC mv_X10_408 (ok_X10_all hn e2) rfl (Nat.le_of_ble_eq_true rfl) k_166 rfl (by decide) (jRo0 C) (Nat.le_of_ble_eq_true rfl) dX10_led_6 rfl ?_
  refine x_aloadA_n (pc := 9) hC dX10_led_9 rfl rfl k_166 (by decide) ?_
  refine x_iload_n (pc := 10) hC dX10_led_10 rfl rfl ?_
  refine x_iconst (pc := 11) hC dX10_led_11 ?_
  refine x_sipush (pc := 12) hC dX10_led_12 rfl ?_
  obtain ⟨v5, e4, h⟩ := jbR_some h
  refine x_cS (pc := 15) hC ms_X10_69 (ok_X10_in hn e4) rfl (Nat.le_of_ble_eq_true rfl) (jRo0 C) (Nat.le_of_ble_eq_true rfl) dX10_led_15 rfl ?_
  obtain ⟨k7, Hk7, h⟩ := jk_some (P := fun k7 => ∀ (s1_6 : Int), k7 s1_6 = some (rz, Mz) → jG C X n 2 0 0 26 [jA 166, jI l1] [jI s1_6, jA 166] M3) h (by
    intro s1_6 h
    refine x_iconst (pc := 26) hC dX10_led_26 ?_
    obtain ⟨v10, M9, e8, h⟩ := jbW_some h
    refine x_cV (pc := 27) hC mv_X10_268 (ok_X10_throwsIf hn e8) rfl (Nat.le_of_ble_eq_true rfl) k_166 rfl (by decide) (jRo0 C) (Nat.le_of_ble_eq_true rfl) dX10_led_27 rfl ?_
    refine x_if_eq (tgt := 35) (pc := 30) hC dX10_led_30 (by decide) (fun hc => ?_) (fun hc => ?_)
    · replace h := jit_pos hc h
      refine x_aloadA_n (pc := 35) hC dX10_led_35 rfl rfl k_166 (by decide) ?_
      refine x_iload_n (pc := 36) hC dX10_led_36 rfl rfl ?_
      obtain ⟨M11, eM11, h⟩ := jlet_some h
      refine x_pi (pc := 37) (ji := 16) hC fl_X10_278 rfl ft10_16 k_166 dX10_led_37 eM11 ?_
      refine x_aloadA_n (pc := 40) hC dX10_led_40 rfl rfl k_166 (by decide) ?_
      obtain ⟨M13, e12, h⟩ := jbV_some h
      refine x_cV (pc := 41) hC mv_X10_429 (ok_X10_laysTotals hn e12) rfl (Nat.le_of_ble_eq_true rfl) k_166 rfl (by decide) (jRo0 C) (Nat.le_of_ble_eq_true rfl) dX10_led_41 rfl ?_
      refine x_aloadA_n (pc := 44) hC dX10_led_44 rfl rfl k_166 (by decide) ?_
      refine x_iconst (pc := 45) hC dX10_led_45 ?_
      obtain ⟨v15, e14, h⟩ := jbR_some h
      refine x_cV (pc := 46) hC mv_X10_432 (ok_X10_rankedAt hn e14) rfl (Nat.le_of_ble_eq_true rfl) k_166 rfl (by decide) (jRo0 C) (Nat.le_of_ble_eq_true rfl) dX10_led_46 rfl ?_
      exact x_iret (pc := 49) hC hR dX10_led_49 (jr1 h) (jr2 h)
    · replace h := jit_neg hc h
      refine x_iconst (pc := 33) hC dX10_led_33 ?_
      exact x_iret (pc := 34) hC hR dX10_led_34 (jr1 h) (jr2 h))
  refine x_if_ne (tgt := 25) (pc := 18) hC dX10_led_18 (by decide) (fun hc => ?_) (fun hc => ?_)
  · replace h := jit_neg hc h
    refine x_iconst (pc := 25) hC dX10_led_25 ?_
    exact Hk7 _ h
  · replace h := jit_pos hc h
    refine x_iconst (pc := 21) hC dX10_led_21 ?_
    refine x_goto (tgt := 26) (pc := 22) hC dX10_led_22 (by decide) ?_
    exact Hk7 _ h

set_option maxHeartbeats 4000000 in
set_option maxRecDepth 20000 in
theorem ok_X10_doubt {X : jX} {n : Nat} (hn : 179 ≤ n) {l1 : Int} {M : jM} {rz : Int} {Mz : jM} (h : f_X10_doubt l1 M = some (rz, Mz)) : jCt X n yX10_doubt cX10_doubt 8 (some .int) 2 [jA 166, jI l1] M (some (jI rz)) Mz := by
  refine jCt_of (own := RX10) (ls := [jA 166, jI l1, jN, jN, jN, jN, jN, jN]) (by decide +kernel) rfl hn (Nat.le_of_ble_eq_true rfl) rfl ?_
  intro C hC hR
  unfold f_X10_doubt at h
  refine x_aloadA_n (pc := 0) hC dX10_doubt_0 rfl rfl k_166 (by decide) ?_
  refine x_iconst (pc := 1) hC dX10_doubt_1 ?_
  obtain ⟨M1, eM1, h⟩ := jlet_some h
  refine x_pi (pc := 2) (ji := 0) hC fl_X10_3 rfl ft10_0 k_166 dX10_doubt_2 eM1 ?_
  refine x_aloadA_n (pc := 5) hC dX10_doubt_5 rfl rfl k_166 (by decide) ?_
  obtain ⟨M3, e2, h⟩ := jbV_some h
  refine x_cV (pc := 6) hC mv_X10_408 (ok_X10_all hn e2) rfl (Nat.le_of_ble_eq_true rfl) k_166 rfl (by decide) (jRo0 C) (Nat.le_of_ble_eq_true rfl) dX10_doubt_6 rfl ?_
  refine x_aloadA_n (pc := 9) hC dX10_doubt_9 rfl rfl k_166 (by decide) ?_
  refine x_iload_n (pc := 10) hC dX10_doubt_10 rfl rfl ?_
  obtain ⟨v6, M5, e4, h⟩ := jbW_some h
  refine x_cV (pc := 11) hC mv_X10_411 (ok_X10_noSkater hn e4) rfl (Nat.le_of_ble_eq_true rfl) k_166 rfl (by decide) (jRo0 C) (Nat.le_of_ble_eq_true rfl) dX10_doubt_11 rfl ?_
  refine x_if_eq (tgt := 19) (pc := 14) hC dX10_doubt_14 (by decide) (fun hc => ?_) (fun hc => ?_)
  · replace h := jit_pos hc h
    refine x_iconst (pc := 19) hC dX10_doubt_19 ?_
    refine x_istore_n (ls2 := [jA 166, jI l1, jI (-1), jN, jN, jN, jN, jN]) (pc := 20) hC dX10_doubt_20 rfl (by decide) rfl rfl rfl ?_
    refine x_iconst (pc := 21) hC dX10_doubt_21 ?_
    refine x_istore_n (ls2 := [jA 166, jI l1, jI (-1), jI 0, jN, jN, jN, jN]) (pc := 22) hC dX10_doubt_22 rfl (by decide) rfl rfl rfl ?_
    refine x_iconst (pc := 23) hC dX10_doubt_23 ?_
    refine x_istore (ls2 := [jA 166, jI l1, jI (-1), jI 0, jI 0, jN, jN, jN]) (pc := 24) hC dX10_doubt_24 (by decide) rfl rfl rfl ?_
    refine jlp3_ind (P := fun (l2_7 : Int) (l3_8 : Int) (l4_9 : Int) => jG C X n 8 0 0 26 [jA 166, jI l1, jI l2_7, jI l3_8, jI l4_9, jN, jN, jN] [] M5) ?_ _ _ _ _ h
    intro self10 l2_7 l3_8 l4_9 Hself10 h
    refine x_iload (pc := 26) hC dX10_doubt_26 rfl ?_
    refine x_aloadA_n (pc := 28) hC dX10_doubt_28 rfl rfl k_166 (by decide) ?_
    refine x_gf (pc := 29) (b := 169) hC fl_X10_81 ft10_9 k_166 (by decide) (off := 3) (by decide +kernel) (by decide) dX10_doubt_29 ?_
    refine x_bipush (pc := 32) hC dX10_doubt_32 rfl ?_
    refine x_iload_n (pc := 34) hC dX10_doubt_34 rfl rfl ?_
    refine x_iadd (pc := 35) hC dX10_doubt_35 ?_
    obtain ⟨hb11, h⟩ := jck_some h
    refine x_iald (pc := 36) hC k_169 (by rw [l_169]; exact hb11) dX10_doubt_36 ?_
    refine x_icmp_ge (tgt := 145) (pc := 37) hC dX10_doubt_37 (by decide) (fun hc => ?_) (fun hc => ?_)
    · replace h := jit_pos hc h
      refine x_iload_n (pc := 145) hC dX10_doubt_145 rfl rfl ?_
      exact x_iret (pc := 146) hC hR dX10_doubt_146 (jr1 h) (jr2 h)
    · replace h := jit_neg hc h
      refine x_aloadA_n (pc := 40) hC dX10_doubt_40 rfl rfl k_166 (by decide) ?_
      refine x_iload_n (pc := 41) hC dX10_doubt_41 rfl rfl ?_
      refine x_iload (pc := 42) hC dX10_doubt_42 rfl ?_
      obtain ⟨v13, e12, h⟩ := jbR_some h
      refine x_cV (pc := 44) hC mv_X10_322 (ok_X10_is hn e12) rfl (Nat.le_of_ble_eq_true rfl) k_166 rfl (by decide) (jRo0 C) (Nat.le_of_ble_eq_true rfl) dX10_doubt_44 rfl ?_
      refine x_if_ne (tgt := 53) (pc := 47) hC dX10_doubt_47 (by decide) (fun hc => ?_) (fun hc => ?_)
      · replace h := jit_neg hc h
        refine x_bipush (pc := 53) hC dX10_doubt_53 rfl ?_
        refine x_istore (ls2 := [jA 166, jI l1, jI l2_7, jI l3_8, jI l4_9, jI 100, jN, jN]) (pc := 55) hC dX10_doubt_55 (by decide) rfl rfl rfl ?_
        refine x_bipush (pc := 57) hC dX10_doubt_57 rfl ?_
        refine x_istore (ls2 := [jA 166, jI l1, jI l2_7, jI l3_8, jI l4_9, jI 100, jI (-100), jN]) (pc := 59) hC dX10_doubt_59 (by decide) rfl rfl rfl ?_
        refine x_iconst (pc := 61) hC dX10_doubt_61 ?_
        refine x_istore (ls2 := [jA 166, jI l1, jI l2_7, jI l3_8, jI l4_9, jI 100, jI (-100), jI 0]) (pc := 62) hC dX10_doubt_62 (by decide) rfl rfl rfl ?_
        refine jlp3_ind (P := fun (l5_14 : Int) (l6_15 : Int) (l7_16 : Int) => jG C X n 8 0 0 64 [jA 166, jI l1, jI l2_7, jI l3_8, jI l4_9, jI l5_14, jI l6_15, jI l7_16] [] M5) ?_ _ _ _ _ h
        intro self17 l5_14 l6_15 l7_16 Hself17 h
        refine x_iload (pc := 64) hC dX10_doubt_64 rfl ?_
        refine x_aloadA_n (pc := 66) hC dX10_doubt_66 rfl rfl k_166 (by decide) ?_
        refine x_gf (pc := 67) (b := 169) hC fl_X10_81 ft10_9 k_166 (by decide) (off := 3) (by decide +kernel) (by decide) dX10_doubt_67 ?_
        refine x_iconst (pc := 70) hC dX10_doubt_70 ?_
        obtain ⟨hb18, h⟩ := jck_some h
        refine x_iald (pc := 71) hC k_169 (by rw [l_169]; exact hb18) dX10_doubt_71 ?_
        refine x_icmp_ge (tgt := 113) (pc := 72) hC dX10_doubt_72 (by decide) (fun hc => ?_) (fun hc => ?_)
        · replace h := jit_pos hc h
          refine x_iload_n (pc := 113) hC dX10_doubt_113 rfl rfl ?_
          refine x_iconst (pc := 114) hC dX10_doubt_114 ?_
          obtain ⟨k19, Hk19, h⟩ := jk_some (P := fun k19 => k19 = some (rz, Mz) → jG C X n 8 0 0 130 [jA 166, jI l1, jI l2_7, jI l3_8, jI l4_9, jI l5_14, jI l6_15, jI l7_16] [] M5) h (by
            intro h
            refine x_iload (pc := 130) hC dX10_doubt_130 rfl ?_
            refine x_istore_n (ls2 := [jA 166, jI l1, jI l4_9, jI l3_8, jI l4_9, jI l5_14, jI l6_15, jI l7_16]) (pc := 132) hC dX10_doubt_132 rfl (by decide) rfl rfl rfl ?_
            refine x_iload (pc := 133) hC dX10_doubt_133 rfl ?_
            refine x_iload (pc := 135) hC dX10_doubt_135 rfl ?_
            refine x_isub (pc := 137) hC dX10_doubt_137 ?_
            obtain ⟨l3_20, el3_20, h⟩ := jlet_some h
            refine x_istore_n (ls2 := [jA 166, jI l1, jI l4_9, jI l3_20, jI l4_9, jI l5_14, jI l6_15, jI l7_16]) (pc := 138) hC dX10_doubt_138 rfl (by decide) rfl el3_20 rfl ?_
            obtain ⟨l4_21, el4_21, h⟩ := jlet_some h
            refine x_iinc (ls2 := [jA 166, jI l1, jI l4_9, jI l3_20, jI l4_21, jI l5_14, jI l6_15, jI l7_16]) (pc := 139) hC dX10_doubt_139 rfl (by decide) rfl el4_21 rfl ?_
            refine x_goto (tgt := 26) (pc := 142) hC dX10_doubt_142 (by decide) ?_
            refine x_kill 5 (ls2 := [jA 166, jI l1, jI l4_9, jI l3_20, jI l4_21, jN, jI l6_15, jI l7_16]) rfl ?_
            refine x_kill 6 (ls2 := [jA 166, jI l1, jI l4_9, jI l3_20, jI l4_21, jN, jN, jI l7_16]) rfl ?_
            refine x_kill 7 (ls2 := [jA 166, jI l1, jI l4_9, jI l3_20, jI l4_21, jN, jN, jN]) rfl ?_
            exact Hself10 _ _ _ h)
          refine x_icmp_eq (tgt := 130) (pc := 115) hC dX10_doubt_115 (by decide) (fun hc => ?_) (fun hc => ?_)
          · replace h := jit_pos hc h
            exact Hk19 h
          · replace h := jit_neg hc h
            refine x_iload (pc := 118) hC dX10_doubt_118 rfl ?_
            refine x_iload (pc := 120) hC dX10_doubt_120 rfl ?_
            refine x_isub (pc := 122) hC dX10_doubt_122 ?_
            refine x_iload_n (pc := 123) hC dX10_doubt_123 rfl rfl ?_
            refine x_icmp_gt (tgt := 130) (pc := 124) hC dX10_doubt_124 (by decide) (fun hc => ?_) (fun hc => ?_)
            · replace h := jit_pos hc h
              exact Hk19 h
            · replace h := jit_neg hc h
              refine x_goto (tgt := 139) (pc := 127) hC dX10_doubt_127 (by decide) ?_
              obtain ⟨l4_22, el4_22, h⟩ := jlet_some h
              refine x_iinc (ls2 := [jA 166, jI l1, jI l2_7, jI l3_8, jI l4_22, jI l5_14, jI l6_15, jI l7_16]) (pc := 139) hC dX10_doubt_139 rfl (by decide) rfl el4_22 rfl ?_
              refine x_goto (tgt := 26) (pc := 142) hC dX10_doubt_142 (by decide) ?_
              refine x_kill 5 (ls2 := [jA 166, jI l1, jI l2_7, jI l3_8, jI l4_22, jN, jI l6_15, jI l7_16]) rfl ?_
              refine x_kill 6 (ls2 := [jA 166, jI l1, jI l2_7, jI l3_8, jI l4_22, jN, jN, jI l7_16]) rfl ?_
              refine x_kill 7 (ls2 := [jA 166, jI l1, jI l2_7, jI l3_8, jI l4_22, jN, jN, jN]) rfl ?_
              exact Hself10 _ _ _ h
        · replace h := jit_neg hc h
          refine x_iload (pc := 75) hC dX10_doubt_75 rfl ?_
          refine x_aloadA_n (pc := 77) hC dX10_doubt_77 rfl rfl k_166 (by decide) ?_
          refine x_iload_n (pc := 78) hC dX10_doubt_78 rfl rfl ?_
          refine x_iload (pc := 79) hC dX10_doubt_79 rfl ?_
          refine x_iload (pc := 81) hC dX10_doubt_81 rfl ?_
          obtain ⟨v24, e23, h⟩ := jbR_some h
          refine x_cV (pc := 83) hC mv_X10_312 (ok_X10_gradeBy hn e23) rfl (Nat.le_of_ble_eq_true rfl) k_166 rfl (by decide) (jRo0 C) (Nat.le_of_ble_eq_true rfl) dX10_doubt_83 rfl ?_
          obtain ⟨v26, e25, h⟩ := jbR_some h
          refine x_cS (pc := 86) hC ms_X10_306 (ok_J9_min_7cf53 hn e25) rfl (Nat.le_of_ble_eq_true rfl) (jRo0 C) (Nat.le_of_ble_eq_true rfl) dX10_doubt_86 rfl ?_
          refine x_istore (ls2 := [jA 166, jI l1, jI l2_7, jI l3_8, jI l4_9, jI v26, jI l6_15, jI l7_16]) (pc := 89) hC dX10_doubt_89 (by decide) rfl rfl rfl ?_
          refine x_iload (pc := 91) hC dX10_doubt_91 rfl ?_
          refine x_aloadA_n (pc := 93) hC dX10_doubt_93 rfl rfl k_166 (by decide) ?_
          refine x_iload_n (pc := 94) hC dX10_doubt_94 rfl rfl ?_
          refine x_iload (pc := 95) hC dX10_doubt_95 rfl ?_
          refine x_iload (pc := 97) hC dX10_doubt_97 rfl ?_
          obtain ⟨v28, e27, h⟩ := jbR_some h
          refine x_cV (pc := 99) hC mv_X10_312 (ok_X10_gradeBy hn e27) rfl (Nat.le_of_ble_eq_true rfl) k_166 rfl (by decide) (jRo0 C) (Nat.le_of_ble_eq_true rfl) dX10_doubt_99 rfl ?_
          obtain ⟨v30, e29, h⟩ := jbR_some h
          refine x_cS (pc := 102) hC ms_X10_253 (ok_J9_max_7cf53 hn e29) rfl (Nat.le_of_ble_eq_true rfl) (jRo0 C) (Nat.le_of_ble_eq_true rfl) dX10_doubt_102 rfl ?_
          refine x_istore (ls2 := [jA 166, jI l1, jI l2_7, jI l3_8, jI l4_9, jI v26, jI v30, jI l7_16]) (pc := 105) hC dX10_doubt_105 (by decide) rfl rfl rfl ?_
          obtain ⟨l7_31, el7_31, h⟩ := jlet_some h
          refine x_iinc (ls2 := [jA 166, jI l1, jI l2_7, jI l3_8, jI l4_9, jI v26, jI v30, jI l7_31]) (pc := 107) hC dX10_doubt_107 rfl (by decide) rfl el7_31 rfl ?_
          refine x_goto (tgt := 64) (pc := 110) hC dX10_doubt_110 (by decide) ?_
          exact Hself17 _ _ _ h
      · replace h := jit_pos hc h
        refine x_goto (tgt := 139) (pc := 50) hC dX10_doubt_50 (by decide) ?_
        obtain ⟨l4_32, el4_32, h⟩ := jlet_some h
        refine x_iinc (ls2 := [jA 166, jI l1, jI l2_7, jI l3_8, jI l4_32, jN, jN, jN]) (pc := 139) hC dX10_doubt_139 rfl (by decide) rfl el4_32 rfl ?_
        refine x_goto (tgt := 26) (pc := 142) hC dX10_doubt_142 (by decide) ?_
        exact Hself10 _ _ _ h
  · replace h := jit_neg hc h
    refine x_iconst (pc := 17) hC dX10_doubt_17 ?_
    exact x_iret (pc := 18) hC hR dX10_doubt_18 (jr1 h) (jr2 h)

set_option maxHeartbeats 4000000 in
set_option maxRecDepth 20000 in
theorem ok_X10_clean {X : jX} {n : Nat} (hn : 179 ≤ n) {l1 : Int} {M : jM} {rz : Int} {Mz : jM} (h : f_X10_clean l1 M = some (rz, Mz)) : jCt X n yX10_clean cX10_clean 2 (some .int) 9 [jA 166, jI l1] M (some (jI rz)) Mz := by
  refine jCt_of (own := RX10) (ls := [jA 166, jI l1]) (by decide +kernel) rfl hn (Nat.le_of_ble_eq_true rfl) rfl ?_
  intro C hC hR
  unfold f_X10_clean at h
  refine x_aloadA_n (pc := 0) hC dX10_clean_0 rfl rfl k_166 (by decide) ?_
  refine x_iconst (pc := 1) hC dX10_clean_1 ?_
  obtain ⟨M1, eM1, h⟩ := jlet_some h
  refine x_pi (pc := 2) (ji := 0) hC fl_X10_3 rfl ft10_0 k_166 dX10_clean_2 eM1 ?_
  refine x_aloadA_n (pc := 5) hC dX10_clean_5 rfl rfl k_166 (by decide) ?_
  obtain ⟨M3, e2, h⟩ := jbV_some h
  refine x_cV (pc := 6) hC mv_X10_408 (ok_X10_all hn e2) rfl (Nat.le_of_ble_eq_true rfl) k_166 rfl (by decide) (jRo0 C) (Nat.le_of_ble_eq_true rfl) dX10_clean_6 rfl ?_
  refine x_aloadA_n (pc := 9) hC dX10_clean_9 rfl rfl k_166 (by decide) ?_
  refine x_iload_n (pc := 10) hC dX10_clean_10 rfl rfl ?_
  obtain ⟨v6, M5, e4, h⟩ := jbW_some h
  refine x_cV (pc := 11) hC mv_X10_411 (ok_X10_noSkater hn e4) rfl (Nat.le_of_ble_eq_true rfl) k_166 rfl (by decide) (jRo0 C) (Nat.le_of_ble_eq_true rfl) dX10_clean_11 rfl ?_
  refine x_if_eq (tgt := 19) (pc := 14) hC dX10_clean_14 (by decide) (fun hc => ?_) (fun hc => ?_)
  · replace h := jit_pos hc h
    refine x_aloadA_n (pc := 19) hC dX10_clean_19 rfl rfl k_166 (by decide) ?_
    refine x_iconst (pc := 20) hC dX10_clean_20 ?_
    obtain ⟨M7, eM7, h⟩ := jlet_some h
    refine x_pz (pc := 21) (ji := 22) hC fl_X10_287 rfl ft10_22 (by decide) k_166 dX10_clean_21 eM7 ?_
    refine x_aloadA_n (pc := 24) hC dX10_clean_24 rfl rfl k_166 (by decide) ?_
    refine x_iload_n (pc := 25) hC dX10_clean_25 rfl rfl ?_
    obtain ⟨v10, M9, e8, h⟩ := jbW_some h
    refine x_cV (pc := 26) hC mv_X10_399 (ok_X10_totalOf hn e8) rfl (Nat.le_of_ble_eq_true rfl) k_166 rfl (by decide) (jRo0 C) (Nat.le_of_ble_eq_true rfl) dX10_clean_26 rfl ?_
    exact x_iret (pc := 29) hC hR dX10_clean_29 (jr1 h) (jr2 h)
  · replace h := jit_neg hc h
    refine x_iconst (pc := 17) hC dX10_clean_17 ?_
    exact x_iret (pc := 18) hC hR dX10_clean_18 (jr1 h) (jr2 h)

set_option maxHeartbeats 4000000 in
set_option maxRecDepth 20000 in
theorem ok_X10_says {X : jX} {n : Nat} (hn : 179 ≤ n) {l1 : Int} {M : jM} {Mz : jM} (h : f_X10_says l1 M = some Mz) : jCt X n yX10_says cX10_says 2 (none) 0 [jA 166, jI l1] M (none) Mz := by
  refine jCt_of (own := RX10) (ls := [jA 166, jI l1]) (by decide +kernel) rfl hn (Nat.le_of_ble_eq_true rfl) rfl ?_
  intro C hC hR
  unfold f_X10_says at h
  refine x_aloadA_n (pc := 0) hC dX10_says_0 rfl rfl k_166 (by decide) ?_
  refine x_gf (pc := 1) (b := 179) hC fl_X10_112 ft10_30 k_166 (by decide) (off := 13) (by decide +kernel) (by decide) dX10_says_1 ?_
  refine x_aloadA_n (pc := 4) hC dX10_says_4 rfl rfl k_166 (by decide) ?_
  refine x_gi (pc := 5) (ji := 31) hC fl_X10_472 rfl fn10_31 k_166 dX10_says_5 ?_
  refine x_iload_n (pc := 8) hC dX10_says_8 rfl rfl ?_
  refine x_i2b (pc := 9) hC dX10_says_9 ?_
  obtain ⟨hb1, h⟩ := jck_some h
  obtain ⟨M2, eM2, h⟩ := jlet_some h
  refine x_bast (pc := 10) hC k_179 (by rw [l_179]; exact hb1) dX10_says_10 eM2 ?_
  refine x_aloadA_n (pc := 11) hC dX10_says_11 rfl rfl k_166 (by decide) ?_
  refine x_dup (pc := 12) hC dX10_says_12 (show (2 : Nat) ≠ 3 by decide) ?_
  refine x_gi (pc := 13) (ji := 31) hC fl_X10_472 rfl fn10_31 k_166 dX10_says_13 ?_
  refine x_iconst (pc := 16) hC dX10_says_16 ?_
  refine x_iadd (pc := 17) hC dX10_says_17 ?_
  obtain ⟨M3, eM3, h⟩ := jlet_some h
  refine x_pi (pc := 18) (ji := 31) hC fl_X10_472 rfl ft10_31 k_166 dX10_says_18 eM3 ?_
  exact x_vret (pc := 21) hC hR dX10_says_21 (jrR h)

set_option maxHeartbeats 4000000 in
set_option maxRecDepth 20000 in
theorem ok_X10_saysName {X : jX} {n : Nat} (hn : 179 ≤ n) {l1 : Int} {M : jM} {Mz : jM} (h : f_X10_saysName l1 M = some Mz) : jCt X n yX10_saysName cX10_saysName 3 (none) 1 [jA 166, jI l1] M (none) Mz := by
  refine jCt_of (own := RX10) (ls := [jA 166, jI l1, jN]) (by decide +kernel) rfl hn (Nat.le_of_ble_eq_true rfl) rfl ?_
  intro C hC hR
  unfold f_X10_saysName at h
  refine x_iconst (pc := 0) hC dX10_saysName_0 ?_
  refine x_istore_n (ls2 := [jA 166, jI l1, jI 0]) (pc := 1) hC dX10_saysName_1 rfl (by decide) rfl rfl rfl ?_
  refine jlp2_ind (P := fun (l2_1 : Int) (M2 : jM) => jG C X n 3 0 0 2 [jA 166, jI l1, jI l2_1] [] M2) ?_ _ _ _ h
  intro self3 l2_1 M2 Hself3 h
  refine x_iload_n (pc := 2) hC dX10_saysName_2 rfl rfl ?_
  refine x_bipush (pc := 3) hC dX10_saysName_3 rfl ?_
  refine x_icmp_ge (tgt := 37) (pc := 5) hC dX10_saysName_5 (by decide) (fun hc => ?_) (fun hc => ?_)
  · replace h := jit_pos hc h
    exact x_vret (pc := 37) hC hR dX10_saysName_37 (jrR h)
  · replace h := jit_neg hc h
    refine x_aloadA_n (pc := 8) hC dX10_saysName_8 rfl rfl k_166 (by decide) ?_
    refine x_gf (pc := 9) (b := 169) hC fl_X10_81 ft10_9 k_166 (by decide) (off := 3) (by decide +kernel) (by decide) dX10_saysName_9 ?_
    refine x_iload_n (pc := 12) hC dX10_saysName_12 rfl rfl ?_
    refine x_iload_n (pc := 13) hC dX10_saysName_13 rfl rfl ?_
    refine x_iadd (pc := 14) hC dX10_saysName_14 ?_
    obtain ⟨hb4, h⟩ := jck_some h
    refine x_iald (pc := 15) hC k_169 (by rw [l_169]; exact hb4) dX10_saysName_15 ?_
    refine x_if_eq (tgt := 31) (pc := 16) hC dX10_saysName_16 (by decide) (fun hc => ?_) (fun hc => ?_)
    · replace h := jit_pos hc h
      obtain ⟨l2_5, el2_5, h⟩ := jlet_some h
      refine x_iinc (ls2 := [jA 166, jI l1, jI l2_5]) (pc := 31) hC dX10_saysName_31 rfl (by decide) rfl el2_5 rfl ?_
      refine x_goto (tgt := 2) (pc := 34) hC dX10_saysName_34 (by decide) ?_
      exact Hself3 _ _ h
    · replace h := jit_neg hc h
      refine x_aloadA_n (pc := 19) hC dX10_saysName_19 rfl rfl k_166 (by decide) ?_
      refine x_aloadA_n (pc := 20) hC dX10_saysName_20 rfl rfl k_166 (by decide) ?_
      refine x_gf (pc := 21) (b := 169) hC fl_X10_81 ft10_9 k_166 (by decide) (off := 3) (by decide +kernel) (by decide) dX10_saysName_21 ?_
      refine x_iload_n (pc := 24) hC dX10_saysName_24 rfl rfl ?_
      refine x_iload_n (pc := 25) hC dX10_saysName_25 rfl rfl ?_
      refine x_iadd (pc := 26) hC dX10_saysName_26 ?_
      obtain ⟨hb6, h⟩ := jck_some h
      refine x_iald (pc := 27) hC k_169 (by rw [l_169]; exact hb6) dX10_saysName_27 ?_
      obtain ⟨M8, e7, h⟩ := jbV_some h
      refine x_cV (pc := 28) hC mv_X10_475 (ok_X10_says hn e7) rfl (Nat.le_of_ble_eq_true rfl) k_166 rfl (by decide) (jRo0 C) (Nat.le_of_ble_eq_true rfl) dX10_saysName_28 rfl ?_
      obtain ⟨l2_9, el2_9, h⟩ := jlet_some h
      refine x_iinc (ls2 := [jA 166, jI l1, jI l2_9]) (pc := 31) hC dX10_saysName_31 rfl (by decide) rfl el2_9 rfl ?_
      refine x_goto (tgt := 2) (pc := 34) hC dX10_saysName_34 (by decide) ?_
      exact Hself3 _ _ h

set_option maxHeartbeats 4000000 in
set_option maxRecDepth 20000 in
theorem ok_X10_octet {X : jX} {n : Nat} (hn : 179 ≤ n) {l1 : Int} {M : jM} {rz : Int} {Mz : jM} (h : f_X10_octet l1 M = some (rz, Mz)) : jCt X n yX10_octet cX10_octet 2 (some .int) 1 [jA 166, jI l1] M (some (jI rz)) Mz := by
  refine jCt_of (own := RX10) (ls := [jA 166, jI l1]) (by decide +kernel) rfl hn (Nat.le_of_ble_eq_true rfl) rfl ?_
  intro C hC hR
  unfold f_X10_octet at h
  refine x_aloadA_n (pc := 0) hC dX10_octet_0 rfl rfl k_166 (by decide) ?_
  refine x_iconst (pc := 1) hC dX10_octet_1 ?_
  obtain ⟨M1, eM1, h⟩ := jlet_some h
  refine x_pi (pc := 2) (ji := 0) hC fl_X10_3 rfl ft10_0 k_166 dX10_octet_2 eM1 ?_
  refine x_iload_n (pc := 5) hC dX10_octet_5 rfl rfl ?_
  refine x_iconst (pc := 6) hC dX10_octet_6 ?_
  refine x_aloadA_n (pc := 7) hC dX10_octet_7 rfl rfl k_166 (by decide) ?_
  refine x_gi (pc := 8) (ji := 31) hC fl_X10_472 rfl fn10_31 k_166 dX10_octet_8 ?_
  refine x_iconst (pc := 11) hC dX10_octet_11 ?_
  refine x_isub (pc := 12) hC dX10_octet_12 ?_
  obtain ⟨v3, e2, h⟩ := jbR_some h
  refine x_cS (pc := 13) hC ms_X10_69 (ok_X10_in hn e2) rfl (Nat.le_of_ble_eq_true rfl) (jRo0 C) (Nat.le_of_ble_eq_true rfl) dX10_octet_13 rfl ?_
  refine x_if_eq (tgt := 28) (pc := 16) hC dX10_octet_16 (by decide) (fun hc => ?_) (fun hc => ?_)
  · replace h := jit_pos hc h
    refine x_iconst (pc := 28) hC dX10_octet_28 ?_
    exact x_iret (pc := 29) hC hR dX10_octet_29 (jr1 h) (jr2 h)
  · replace h := jit_neg hc h
    refine x_aloadA_n (pc := 19) hC dX10_octet_19 rfl rfl k_166 (by decide) ?_
    refine x_gf (pc := 20) (b := 179) hC fl_X10_112 ft10_30 k_166 (by decide) (off := 13) (by decide +kernel) (by decide) dX10_octet_20 ?_
    refine x_iload_n (pc := 23) hC dX10_octet_23 rfl rfl ?_
    obtain ⟨hb4, h⟩ := jck_some h
    refine x_bald (pc := 24) hC k_179 (by rw [l_179]; exact hb4) dX10_octet_24 ?_
    refine x_goto (tgt := 29) (pc := 25) hC dX10_octet_25 (by decide) ?_
    exact x_iret (pc := 29) hC hR dX10_octet_29 (jr1 h) (jr2 h)

set_option maxHeartbeats 4000000 in
set_option maxRecDepth 20000 in
theorem ok_X10_count {X : jX} {n : Nat} (hn : 179 ≤ n) {l1 : Int} {M : jM} {rz : Int} {Mz : jM} (h : f_X10_count l1 M = some (rz, Mz)) : jCt X n yX10_count cX10_count 2 (some .int) 1 [jA 166, jI l1] M (some (jI rz)) Mz := by
  refine jCt_of (own := RX10) (ls := [jA 166, jI l1]) (by decide +kernel) rfl hn (Nat.le_of_ble_eq_true rfl) rfl ?_
  intro C hC hR
  unfold f_X10_count at h
  refine x_aloadA_n (pc := 0) hC dX10_count_0 rfl rfl k_166 (by decide) ?_
  refine x_iconst (pc := 1) hC dX10_count_1 ?_
  obtain ⟨M1, eM1, h⟩ := jlet_some h
  refine x_pi (pc := 2) (ji := 0) hC fl_X10_3 rfl ft10_0 k_166 dX10_count_2 eM1 ?_
  refine x_iload_n (pc := 5) hC dX10_count_5 rfl rfl ?_
  refine x_bipush (pc := 6) hC dX10_count_6 rfl ?_
  refine x_bipush (pc := 8) hC dX10_count_8 rfl ?_
  refine x_aloadA_n (pc := 10) hC dX10_count_10 rfl rfl k_166 (by decide) ?_
  refine x_gf (pc := 11) (b := 169) hC fl_X10_81 ft10_9 k_166 (by decide) (off := 3) (by decide +kernel) (by decide) dX10_count_11 ?_
  refine x_iconst (pc := 14) hC dX10_count_14 ?_
  obtain ⟨hb2, h⟩ := jck_some h
  refine x_iald (pc := 15) hC k_169 (by rw [l_169]; exact hb2) dX10_count_15 ?_
  refine x_iadd (pc := 16) hC dX10_count_16 ?_
  obtain ⟨v4, e3, h⟩ := jbR_some h
  refine x_cS (pc := 17) hC ms_X10_69 (ok_X10_in hn e3) rfl (Nat.le_of_ble_eq_true rfl) (jRo0 C) (Nat.le_of_ble_eq_true rfl) dX10_count_17 rfl ?_
  refine x_if_eq (tgt := 36) (pc := 20) hC dX10_count_20 (by decide) (fun hc => ?_) (fun hc => ?_)
  · replace h := jit_pos hc h
    refine x_iload_n (pc := 36) hC dX10_count_36 rfl rfl ?_
    rcases jit_or h with ⟨hc, h⟩ | ⟨hc, h⟩
    · refine x_tableOut (tgt := 155) (pc := 37) hC dX10_count_37 hc (by decide) ?_
      refine x_iconst (pc := 155) hC dX10_count_155 ?_
      exact x_iret (pc := 156) hC hR dX10_count_156 (jr1 h) (jr2 h)
    · rcases jit_or h with ⟨hq, h⟩ | ⟨hr0, h⟩
      · refine x_tableIn (tgt := 104) (off := 67) (pc := 37) hC dX10_count_37 (by omega) (by omega) (by rw [hq]; rfl) (by decide) ?_
        refine x_aloadA_n (pc := 104) hC dX10_count_104 rfl rfl k_166 (by decide) ?_
        refine x_gf (pc := 105) (b := 169) hC fl_X10_81 ft10_9 k_166 (by decide) (off := 3) (by decide +kernel) (by decide) dX10_count_105 ?_
        refine x_iconst (pc := 108) hC dX10_count_108 ?_
        obtain ⟨hb5, h⟩ := jck_some h
        refine x_iald (pc := 109) hC k_169 (by rw [l_169]; exact hb5) dX10_count_109 ?_
        exact x_iret (pc := 110) hC hR dX10_count_110 (jr1 h) (jr2 h)
      · rcases jit_or h with ⟨hq, h⟩ | ⟨hr1, h⟩
        · refine x_tableIn (tgt := 111) (off := 74) (pc := 37) hC dX10_count_37 (by omega) (by omega) (by rw [hq]; rfl) (by decide) ?_
          refine x_aloadA_n (pc := 111) hC dX10_count_111 rfl rfl k_166 (by decide) ?_
          refine x_gf (pc := 112) (b := 169) hC fl_X10_81 ft10_9 k_166 (by decide) (off := 3) (by decide +kernel) (by decide) dX10_count_112 ?_
          refine x_iconst (pc := 115) hC dX10_count_115 ?_
          obtain ⟨hb6, h⟩ := jck_some h
          refine x_iald (pc := 116) hC k_169 (by rw [l_169]; exact hb6) dX10_count_116 ?_
          exact x_iret (pc := 117) hC hR dX10_count_117 (jr1 h) (jr2 h)
        · rcases jit_or h with ⟨hq, h⟩ | ⟨hr2, h⟩
          · refine x_tableIn (tgt := 118) (off := 81) (pc := 37) hC dX10_count_37 (by omega) (by omega) (by rw [hq]; rfl) (by decide) ?_
            refine x_aloadA_n (pc := 118) hC dX10_count_118 rfl rfl k_166 (by decide) ?_
            refine x_gf (pc := 119) (b := 169) hC fl_X10_81 ft10_9 k_166 (by decide) (off := 3) (by decide +kernel) (by decide) dX10_count_119 ?_
            refine x_iconst (pc := 122) hC dX10_count_122 ?_
            obtain ⟨hb7, h⟩ := jck_some h
            refine x_iald (pc := 123) hC k_169 (by rw [l_169]; exact hb7) dX10_count_123 ?_
            exact x_iret (pc := 124) hC hR dX10_count_124 (jr1 h) (jr2 h)
          · rcases jit_or h with ⟨hq, h⟩ | ⟨hr3, h⟩
            · refine x_tableIn (tgt := 125) (off := 88) (pc := 37) hC dX10_count_37 (by omega) (by omega) (by rw [hq]; rfl) (by decide) ?_
              refine x_aloadA_n (pc := 125) hC dX10_count_125 rfl rfl k_166 (by decide) ?_
              refine x_gf (pc := 126) (b := 170) hC fl_X10_84 ft10_10 k_166 (by decide) (off := 4) (by decide +kernel) (by decide) dX10_count_126 ?_
              refine x_sipush (pc := 129) hC dX10_count_129 rfl ?_
              refine x_iload_n (pc := 132) hC dX10_count_132 rfl rfl ?_
              refine x_iadd (pc := 133) hC dX10_count_133 ?_
              refine x_iconst (pc := 134) hC dX10_count_134 ?_
              refine x_isub (pc := 135) hC dX10_count_135 ?_
              obtain ⟨hb8, h⟩ := jck_some h
              refine x_iald (pc := 136) hC k_170 (by rw [l_170]; exact hb8) dX10_count_136 ?_
              exact x_iret (pc := 137) hC hR dX10_count_137 (jr1 h) (jr2 h)
            · rcases jit_or h with ⟨hq, h⟩ | ⟨hr4, h⟩
              · refine x_tableIn (tgt := 125) (off := 88) (pc := 37) hC dX10_count_37 (by omega) (by omega) (by rw [hq]; rfl) (by decide) ?_
                refine x_aloadA_n (pc := 125) hC dX10_count_125 rfl rfl k_166 (by decide) ?_
                refine x_gf (pc := 126) (b := 170) hC fl_X10_84 ft10_10 k_166 (by decide) (off := 4) (by decide +kernel) (by decide) dX10_count_126 ?_
                refine x_sipush (pc := 129) hC dX10_count_129 rfl ?_
                refine x_iload_n (pc := 132) hC dX10_count_132 rfl rfl ?_
                refine x_iadd (pc := 133) hC dX10_count_133 ?_
                refine x_iconst (pc := 134) hC dX10_count_134 ?_
                refine x_isub (pc := 135) hC dX10_count_135 ?_
                obtain ⟨hb9, h⟩ := jck_some h
                refine x_iald (pc := 136) hC k_170 (by rw [l_170]; exact hb9) dX10_count_136 ?_
                exact x_iret (pc := 137) hC hR dX10_count_137 (jr1 h) (jr2 h)
              · rcases jit_or h with ⟨hq, h⟩ | ⟨hr5, h⟩
                · refine x_tableIn (tgt := 125) (off := 88) (pc := 37) hC dX10_count_37 (by omega) (by omega) (by rw [hq]; rfl) (by decide) ?_
                  refine x_aloadA_n (pc := 125) hC dX10_count_125 rfl rfl k_166 (by decide) ?_
                  refine x_gf (pc := 126) (b := 170) hC fl_X10_84 ft10_10 k_166 (by decide) (off := 4) (by decide +kernel) (by decide) dX10_count_126 ?_
                  refine x_sipush (pc := 129) hC dX10_count_129 rfl ?_
                  refine x_iload_n (pc := 132) hC dX10_count_132 rfl rfl ?_
                  refine x_iadd (pc := 133) hC dX10_count_133 ?_
                  refine x_iconst (pc := 134) hC dX10_count_134 ?_
                  refine x_isub (pc := 135) hC dX10_count_135 ?_
                  obtain ⟨hb10, h⟩ := jck_some h
                  refine x_iald (pc := 136) hC k_170 (by rw [l_170]; exact hb10) dX10_count_136 ?_
                  exact x_iret (pc := 137) hC hR dX10_count_137 (jr1 h) (jr2 h)
                · rcases jit_or h with ⟨hq, h⟩ | ⟨hr6, h⟩
                  · refine x_tableIn (tgt := 125) (off := 88) (pc := 37) hC dX10_count_37 (by omega) (by omega) (by rw [hq]; rfl) (by decide) ?_
                    refine x_aloadA_n (pc := 125) hC dX10_count_125 rfl rfl k_166 (by decide) ?_
                    refine x_gf (pc := 126) (b := 170) hC fl_X10_84 ft10_10 k_166 (by decide) (off := 4) (by decide +kernel) (by decide) dX10_count_126 ?_
                    refine x_sipush (pc := 129) hC dX10_count_129 rfl ?_
                    refine x_iload_n (pc := 132) hC dX10_count_132 rfl rfl ?_
                    refine x_iadd (pc := 133) hC dX10_count_133 ?_
                    refine x_iconst (pc := 134) hC dX10_count_134 ?_
                    refine x_isub (pc := 135) hC dX10_count_135 ?_
                    obtain ⟨hb11, h⟩ := jck_some h
                    refine x_iald (pc := 136) hC k_170 (by rw [l_170]; exact hb11) dX10_count_136 ?_
                    exact x_iret (pc := 137) hC hR dX10_count_137 (jr1 h) (jr2 h)
                  · rcases jit_or h with ⟨hq, h⟩ | ⟨hr7, h⟩
                    · refine x_tableIn (tgt := 125) (off := 88) (pc := 37) hC dX10_count_37 (by omega) (by omega) (by rw [hq]; rfl) (by decide) ?_
                      refine x_aloadA_n (pc := 125) hC dX10_count_125 rfl rfl k_166 (by decide) ?_
                      refine x_gf (pc := 126) (b := 170) hC fl_X10_84 ft10_10 k_166 (by decide) (off := 4) (by decide +kernel) (by decide) dX10_count_126 ?_
                      refine x_sipush (pc := 129) hC dX10_count_129 rfl ?_
                      refine x_iload_n (pc := 132) hC dX10_count_132 rfl rfl ?_
                      refine x_iadd (pc := 133) hC dX10_count_133 ?_
                      refine x_iconst (pc := 134) hC dX10_count_134 ?_
                      refine x_isub (pc := 135) hC dX10_count_135 ?_
                      obtain ⟨hb12, h⟩ := jck_some h
                      refine x_iald (pc := 136) hC k_170 (by rw [l_170]; exact hb12) dX10_count_136 ?_
                      exact x_iret (pc := 137) hC hR dX10_count_137 (jr1 h) (jr2 h)
                    · rcases jit_or h with ⟨hq, h⟩ | ⟨hr8, h⟩
                      · refine x_tableIn (tgt := 125) (off := 88) (pc := 37) hC dX10_count_37 (by omega) (by omega) (by rw [hq]; rfl) (by decide) ?_
                        refine x_aloadA_n (pc := 125) hC dX10_count_125 rfl rfl k_166 (by decide) ?_
                        refine x_gf (pc := 126) (b := 170) hC fl_X10_84 ft10_10 k_166 (by decide) (off := 4) (by decide +kernel) (by decide) dX10_count_126 ?_
                        refine x_sipush (pc := 129) hC dX10_count_129 rfl ?_
                        refine x_iload_n (pc := 132) hC dX10_count_132 rfl rfl ?_
                        refine x_iadd (pc := 133) hC dX10_count_133 ?_
                        refine x_iconst (pc := 134) hC dX10_count_134 ?_
                        refine x_isub (pc := 135) hC dX10_count_135 ?_
                        obtain ⟨hb13, h⟩ := jck_some h
                        refine x_iald (pc := 136) hC k_170 (by rw [l_170]; exact hb13) dX10_count_136 ?_
                        exact x_iret (pc := 137) hC hR dX10_count_137 (jr1 h) (jr2 h)
                      · rcases jit_or h with ⟨hq, h⟩ | ⟨hr9, h⟩
                        · refine x_tableIn (tgt := 125) (off := 88) (pc := 37) hC dX10_count_37 (by omega) (by omega) (by rw [hq]; rfl) (by decide) ?_
                          refine x_aloadA_n (pc := 125) hC dX10_count_125 rfl rfl k_166 (by decide) ?_
                          refine x_gf (pc := 126) (b := 170) hC fl_X10_84 ft10_10 k_166 (by decide) (off := 4) (by decide +kernel) (by decide) dX10_count_126 ?_
                          refine x_sipush (pc := 129) hC dX10_count_129 rfl ?_
                          refine x_iload_n (pc := 132) hC dX10_count_132 rfl rfl ?_
                          refine x_iadd (pc := 133) hC dX10_count_133 ?_
                          refine x_iconst (pc := 134) hC dX10_count_134 ?_
                          refine x_isub (pc := 135) hC dX10_count_135 ?_
                          obtain ⟨hb14, h⟩ := jck_some h
                          refine x_iald (pc := 136) hC k_170 (by rw [l_170]; exact hb14) dX10_count_136 ?_
                          exact x_iret (pc := 137) hC hR dX10_count_137 (jr1 h) (jr2 h)
                        · rcases jit_or h with ⟨hq, h⟩ | ⟨hr10, h⟩
                          · refine x_tableIn (tgt := 138) (off := 101) (pc := 37) hC dX10_count_37 (by omega) (by omega) (by rw [hq]; rfl) (by decide) ?_
                            refine x_aloadA_n (pc := 138) hC dX10_count_138 rfl rfl k_166 (by decide) ?_
                            refine x_gf (pc := 139) (b := 169) hC fl_X10_81 ft10_9 k_166 (by decide) (off := 3) (by decide +kernel) (by decide) dX10_count_139 ?_
                            refine x_iconst (pc := 142) hC dX10_count_142 ?_
                            obtain ⟨hb15, h⟩ := jck_some h
                            refine x_iald (pc := 143) hC k_169 (by rw [l_169]; exact hb15) dX10_count_143 ?_
                            exact x_iret (pc := 144) hC hR dX10_count_144 (jr1 h) (jr2 h)
                          · rcases jit_or h with ⟨hq, h⟩ | ⟨hr11, h⟩
                            · refine x_tableIn (tgt := 145) (off := 108) (pc := 37) hC dX10_count_37 (by omega) (by omega) (by rw [hq]; rfl) (by decide) ?_
                              refine x_aloadA_n (pc := 145) hC dX10_count_145 rfl rfl k_166 (by decide) ?_
                              refine x_gi (pc := 146) (ji := 29) hC fl_X10_272 rfl fn10_29 k_166 dX10_count_146 ?_
                              exact x_iret (pc := 149) hC hR dX10_count_149 (jr1 h) (jr2 h)
                            · have hq : jw l1 = 12 := by omega
                              refine x_tableIn (tgt := 150) (off := 113) (pc := 37) hC dX10_count_37 (by omega) (by omega) (by rw [hq]; rfl) (by decide) ?_
                              refine x_aloadA_n (pc := 150) hC dX10_count_150 rfl rfl k_166 (by decide) ?_
                              refine x_gi (pc := 151) (ji := 31) hC fl_X10_472 rfl fn10_31 k_166 dX10_count_151 ?_
                              exact x_iret (pc := 154) hC hR dX10_count_154 (jr1 h) (jr2 h)
  · replace h := jit_neg hc h
    refine x_aloadA_n (pc := 23) hC dX10_count_23 rfl rfl k_166 (by decide) ?_
    refine x_gf (pc := 24) (b := 169) hC fl_X10_81 ft10_9 k_166 (by decide) (off := 3) (by decide +kernel) (by decide) dX10_count_24 ?_
    refine x_bipush (pc := 27) hC dX10_count_27 rfl ?_
    refine x_iload_n (pc := 29) hC dX10_count_29 rfl rfl ?_
    refine x_iadd (pc := 30) hC dX10_count_30 ?_
    refine x_bipush (pc := 31) hC dX10_count_31 rfl ?_
    refine x_isub (pc := 33) hC dX10_count_33 ?_
    obtain ⟨hb16, h⟩ := jck_some h
    refine x_iald (pc := 34) hC k_169 (by rw [l_169]; exact hb16) dX10_count_34 ?_
    exact x_iret (pc := 35) hC hR dX10_count_35 (jr1 h) (jr2 h)

