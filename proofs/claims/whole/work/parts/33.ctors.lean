/-! ===== the constructors; by program ===== -/
def c_X2_init_5 (M : jM) : jM := (jst (jst (jst (jst M 5 3 0) 5 0 10) 5 1 6) 5 2 7)
def c_X5_init_10 (M : jM) : jM := (jst (jst (jst (jst (jst (jst (jst M 10 0 0) 10 1 0) 10 2 11) 10 3 12) 10 4 13) 10 5 14) 10 6 15)
def c_X2_init_16 (M : jM) : jM := (jst (jst (jst (jst M 16 3 0) 16 0 6) 16 1 17) 16 2 18)
def c_X6_init_20 (M : jM) : jM := (jst (jst (jst (jst (jst (jst (jst (jst M 20 0 0) 20 1 0) 20 2 0) 20 3 21) 20 4 22) 20 5 23) 20 6 24) 20 7 25)
def c_X6_init_26 (M : jM) : jM := (jst (jst (jst (jst (jst (jst (jst (jst M 26 0 0) 26 1 0) 26 2 0) 26 3 27) 26 4 28) 26 5 29) 26 6 30) 26 7 31)
def c_X6_init_32 (M : jM) : jM := (jst (jst (jst (jst (jst (jst (jst (jst M 32 0 0) 32 1 0) 32 2 0) 32 3 33) 32 4 34) 32 5 35) 32 6 36) 32 7 37)
def c_X6_init_38 (M : jM) : jM := (jst (jst (jst (jst (jst (jst (jst (jst M 38 0 0) 38 1 0) 38 2 0) 38 3 39) 38 4 40) 38 5 41) 38 6 42) 38 7 43)
def c_X6_init_44 (M : jM) : jM := (jst (jst (jst (jst (jst (jst (jst (jst M 44 0 0) 44 1 0) 44 2 0) 44 3 45) 44 4 46) 44 5 47) 44 6 48) 44 7 49)
def c_X6_init_50 (M : jM) : jM := (jst (jst (jst (jst (jst (jst (jst (jst M 50 0 0) 50 1 0) 50 2 0) 50 3 51) 50 4 52) 50 5 53) 50 6 54) 50 7 55)
def c_X1_init_3 (M : jM) : jM := (jst (c_X6_init_50 (jst (c_X6_init_44 (jst (c_X6_init_38 (jst (c_X6_init_32 (jst (c_X6_init_26 (jst (c_X6_init_20 (jcpT (jst (jst (c_X2_init_16 (jst (c_X5_init_10 (jst (jst (jst (c_X2_init_5 (jst (jst M 3 0 5) 3 1 4)) 3 2 5) 3 3 8) 3 4 9)) 3 5 10)) 3 6 16) 3 7 19) 2 4)) 19 0 20)) 19 1 26)) 19 2 32)) 19 3 38)) 19 4 44)) 19 5 50)
def c_X2_init_58 (M : jM) : jM := (jst (jst (jst (jst M 58 3 0) 58 0 10) 58 1 59) 58 2 60)
def c_X5_init_63 (M : jM) : jM := (jst (jst (jst (jst (jst (jst (jst M 63 0 0) 63 1 0) 63 2 64) 63 3 65) 63 4 66) 63 5 67) 63 6 68)
def c_X2_init_69 (M : jM) : jM := (jst (jst (jst (jst M 69 3 0) 69 0 6) 69 1 70) 69 2 71)
def c_X6_init_73 (M : jM) : jM := (jst (jst (jst (jst (jst (jst (jst (jst M 73 0 0) 73 1 0) 73 2 0) 73 3 74) 73 4 75) 73 5 76) 73 6 77) 73 7 78)
def c_X6_init_79 (M : jM) : jM := (jst (jst (jst (jst (jst (jst (jst (jst M 79 0 0) 79 1 0) 79 2 0) 79 3 80) 79 4 81) 79 5 82) 79 6 83) 79 7 84)
def c_X6_init_85 (M : jM) : jM := (jst (jst (jst (jst (jst (jst (jst (jst M 85 0 0) 85 1 0) 85 2 0) 85 3 86) 85 4 87) 85 5 88) 85 6 89) 85 7 90)
def c_X6_init_91 (M : jM) : jM := (jst (jst (jst (jst (jst (jst (jst (jst M 91 0 0) 91 1 0) 91 2 0) 91 3 92) 91 4 93) 91 5 94) 91 6 95) 91 7 96)
def c_X6_init_97 (M : jM) : jM := (jst (jst (jst (jst (jst (jst (jst (jst M 97 0 0) 97 1 0) 97 2 0) 97 3 98) 97 4 99) 97 5 100) 97 6 101) 97 7 102)
def c_X6_init_103 (M : jM) : jM := (jst (jst (jst (jst (jst (jst (jst (jst M 103 0 0) 103 1 0) 103 2 0) 103 3 104) 103 4 105) 103 5 106) 103 6 107) 103 7 108)
def c_X1_init_56 (M : jM) : jM := (jst (c_X6_init_103 (jst (c_X6_init_97 (jst (c_X6_init_91 (jst (c_X6_init_85 (jst (c_X6_init_79 (jst (c_X6_init_73 (jcpT (jst (jst (c_X2_init_69 (jst (c_X5_init_63 (jst (jst (jst (c_X2_init_58 (jst (jst M 56 0 5) 56 1 57)) 56 2 58) 56 3 61) 56 4 62)) 56 5 63)) 56 6 69) 56 7 72) 2 57)) 72 0 73)) 72 1 79)) 72 2 85)) 72 3 91)) 72 4 97)) 72 5 103)
def c_X4_init_109 (M : jM) : jM := (jst (jst (jst (jst (jst (jst (jst (jst (jst M 109 2 0) 109 3 (-1)) 109 4 0) 109 5 0) 109 6 0) 109 7 (-1)) 109 8 0) 109 0 2) 109 1 56)
def c_X8_init_117 (M : jM) : jM := (jst (jst (jst (jst (jst (jst (jst (jst (jst (jst (jst (jst (jst (jst (jst M 117 2 0) 117 3 0) 117 4 0) 117 5 0) 117 6 0) 117 7 0) 117 8 0) 117 9 118) 117 10 119) 117 11 120) 117 12 121) 117 13 122) 117 14 123) 117 0 3) 117 1 20)
def c_X8_init_124 (M : jM) : jM := (jst (jst (jst (jst (jst (jst (jst (jst (jst (jst (jst (jst (jst (jst (jst M 124 2 0) 124 3 0) 124 4 0) 124 5 0) 124 6 0) 124 7 0) 124 8 0) 124 9 125) 124 10 126) 124 11 127) 124 12 128) 124 13 129) 124 14 130) 124 0 3) 124 1 26)
def c_X8_init_131 (M : jM) : jM := (jst (jst (jst (jst (jst (jst (jst (jst (jst (jst (jst (jst (jst (jst (jst M 131 2 0) 131 3 0) 131 4 0) 131 5 0) 131 6 0) 131 7 0) 131 8 0) 131 9 132) 131 10 133) 131 11 134) 131 12 135) 131 13 136) 131 14 137) 131 0 3) 131 1 32)
def c_X8_init_138 (M : jM) : jM := (jst (jst (jst (jst (jst (jst (jst (jst (jst (jst (jst (jst (jst (jst (jst M 138 2 0) 138 3 0) 138 4 0) 138 5 0) 138 6 0) 138 7 0) 138 8 0) 138 9 139) 138 10 140) 138 11 141) 138 12 142) 138 13 143) 138 14 144) 138 0 3) 138 1 38)
def c_X8_init_145 (M : jM) : jM := (jst (jst (jst (jst (jst (jst (jst (jst (jst (jst (jst (jst (jst (jst (jst M 145 2 0) 145 3 0) 145 4 0) 145 5 0) 145 6 0) 145 7 0) 145 8 0) 145 9 146) 145 10 147) 145 11 148) 145 12 149) 145 13 150) 145 14 151) 145 0 3) 145 1 44)
def c_X8_init_152 (M : jM) : jM := (jst (jst (jst (jst (jst (jst (jst (jst (jst (jst (jst (jst (jst (jst (jst M 152 2 0) 152 3 0) 152 4 0) 152 5 0) 152 6 0) 152 7 0) 152 8 0) 152 9 153) 152 10 154) 152 11 155) 152 12 156) 152 13 157) 152 14 158) 152 0 3) 152 1 50)
def c_X7_init_110 (M : jM) : jM := (jst (c_X8_init_152 (jst (c_X8_init_145 (jst (c_X8_init_138 (jst (c_X8_init_131 (jst (c_X8_init_124 (jst (c_X8_init_117 (jst (jst (jst (jst (jst (jst (jst M 110 1 111) 110 2 112) 110 3 113) 110 4 114) 110 5 115) 110 6 116) 110 0 3)) 111 0 117)) 111 1 124)) 111 2 131)) 111 3 138)) 111 4 145)) 111 5 152)
def c_X0_init_159 (M : jM) : jM := (jst (jst (jst (jst (jst (jst M 159 0 0) 159 1 0) 159 2 160) 159 3 161) 159 4 162) 159 5 163)
def c_X3_init_164 (M : jM) : jM := (jst (jst M 164 0 165) 164 1 0)
def c_X9_init_1 (M : jM) : jM := (jst (c_X3_init_164 (jst (c_X0_init_159 (jst (c_X7_init_110 (jst (c_X4_init_109 (jst (c_X1_init_56 (jst (c_X1_init_3 (jst (jst (jst M 1 0 2) 1 1 0) 1 2 (-1))) 1 3 3)) 1 4 56)) 1 5 109)) 1 6 110)) 1 7 159)) 1 8 164)
set_option maxHeartbeats 4000000 in
set_option maxRecDepth 20000 in
theorem ok_X2_init_5 {X : jX} {M : jM} : jCc X 5 yX2_init cX2_init 2 1 2 70 [jA 5, jI 10] M (c_X2_init_5 M) := by
  refine jCc_of (own := RX2) (ls := [jA 5, jI 10]) (by decide +kernel) rfl rfl (Nat.le_of_ble_eq_true rfl) rfl ?_
  intro C hC hI hR
  refine k_aloadA_n (pc := 0) hC dX2_init_0 rfl rfl kk_5 (by decide) ?_
  refine k_oinit (pc := 1) hC oi_X2 (by decide) (Nat.le_of_ble_eq_true rfl) (Nat.le_of_ble_eq_true rfl) dX2_init_1 ?_
  refine k_aloadA_n (pc := 4) hC dX2_init_4 rfl rfl kk_5 (by decide) ?_
  refine k_iconst (pc := 5) hC dX2_init_5 ?_
  refine k_pi (pc := 6) (ji := 3) hC fl_X2_9 rfl ft2_3 kk_5 (by decide) dX2_init_6 rfl ?_
  refine k_aloadA_n (pc := 9) hC dX2_init_9 rfl rfl kk_5 (by decide) ?_
  refine k_iload_n (pc := 10) hC dX2_init_10 rfl rfl ?_
  refine k_pfi (pc := 11) (ji := 0) hC hI fd_X2_15 fl_X2_15 rfl ft2_0 kk_5 (by decide) dX2_init_11 rfl ?_
  refine k_aloadA_n (pc := 14) hC dX2_init_14 rfl rfl kk_5 (by decide) ?_
  refine k_iload_n (pc := 15) hC dX2_init_15 rfl rfl ?_
  refine k_bipush (pc := 16) hC dX2_init_16 rfl ?_
  refine k_imul (pc := 18) hC dX2_init_18 ?_
  show jK _ _ _ _ _ _ _ _ (jI 60 :: _) _
  refine k_newI (pc := 19) hC aw_int (a := 6) (N := 60) (by decide) kk_6 ll_6 (by decide) (by decide) (by decide) (Nat.le_of_ble_eq_true rfl) (Nat.le_of_ble_eq_true rfl) dX2_init_19 (kc2 := 1) (ks2 := 60) rfl rfl ?_
  refine k_pf (pc := 21) (ji := 1) hC hI fd_X2_18 fl_X2_18 rfl ft2_1 (by decide) kk_5 (by decide) dX2_init_21 rfl ?_
  refine k_aloadA_n (pc := 24) hC dX2_init_24 rfl rfl kk_5 (by decide) ?_
  refine k_iload_n (pc := 25) hC dX2_init_25 rfl rfl ?_
  refine k_newI (pc := 26) hC aw_int (a := 7) (N := 10) (by decide) kk_7 ll_7 (by decide) (by decide) (by decide) (Nat.le_of_ble_eq_true rfl) (Nat.le_of_ble_eq_true rfl) dX2_init_26 (kc2 := 2) (ks2 := 70) rfl rfl ?_
  refine k_pf (pc := 28) (ji := 2) hC hI fd_X2_22 fl_X2_22 rfl ft2_2 (by decide) kk_5 (by decide) dX2_init_28 rfl ?_
  exact k_vret (pc := 31) hC hR dX2_init_31 rfl rfl rfl
set_option maxHeartbeats 4000000 in
set_option maxRecDepth 20000 in
theorem ok_X5_init_10 {X : jX} {M : jM} : jCc X 10 yX5_init cX5_init 1 1 5 634 [jA 10] M (c_X5_init_10 M) := by
  refine jCc_of (own := RX5) (ls := [jA 10]) (by decide +kernel) rfl rfl (Nat.le_of_ble_eq_true rfl) rfl ?_
  intro C hC hI hR
  refine k_aloadA_n (pc := 0) hC dX5_init_0 rfl rfl kk_10 (by decide) ?_
  refine k_oinit (pc := 1) hC oi_X5 (by decide) (Nat.le_of_ble_eq_true rfl) (Nat.le_of_ble_eq_true rfl) dX5_init_1 ?_
  refine k_aloadA_n (pc := 4) hC dX5_init_4 rfl rfl kk_10 (by decide) ?_
  refine k_iconst (pc := 5) hC dX5_init_5 ?_
  refine k_pi (pc := 6) (ji := 0) hC fl_X5_9 rfl ft5_0 kk_10 (by decide) dX5_init_6 rfl ?_
  refine k_aloadA_n (pc := 9) hC dX5_init_9 rfl rfl kk_10 (by decide) ?_
  refine k_iconst (pc := 10) hC dX5_init_10 ?_
  refine k_pi (pc := 11) (ji := 1) hC fl_X5_15 rfl ft5_1 kk_10 (by decide) dX5_init_11 rfl ?_
  refine k_aloadA_n (pc := 14) hC dX5_init_14 rfl rfl kk_10 (by decide) ?_
  refine k_sipush (pc := 15) hC dX5_init_15 rfl ?_
  refine k_newI (pc := 18) hC aw_int (a := 11) (N := 600) (by decide) kk_11 ll_11 (by decide) (by decide) (by decide) (Nat.le_of_ble_eq_true rfl) (Nat.le_of_ble_eq_true rfl) dX5_init_18 (kc2 := 1) (ks2 := 600) rfl rfl ?_
  refine k_pf (pc := 20) (ji := 2) hC hI fd_X5_18 fl_X5_18 rfl ft5_2 (by decide) kk_10 (by decide) dX5_init_20 rfl ?_
  refine k_aloadA_n (pc := 23) hC dX5_init_23 rfl rfl kk_10 (by decide) ?_
  refine k_bipush (pc := 24) hC dX5_init_24 rfl ?_
  refine k_newI (pc := 26) hC aw_int (a := 12) (N := 6) (by decide) kk_12 ll_12 (by decide) (by decide) (by decide) (Nat.le_of_ble_eq_true rfl) (Nat.le_of_ble_eq_true rfl) dX5_init_26 (kc2 := 2) (ks2 := 606) rfl rfl ?_
  refine k_pf (pc := 28) (ji := 3) hC hI fd_X5_22 fl_X5_22 rfl ft5_3 (by decide) kk_10 (by decide) dX5_init_28 rfl ?_
  refine k_aloadA_n (pc := 31) hC dX5_init_31 rfl rfl kk_10 (by decide) ?_
  refine k_bipush (pc := 32) hC dX5_init_32 rfl ?_
  refine k_newI (pc := 34) hC aw_int (a := 13) (N := 6) (by decide) kk_13 ll_13 (by decide) (by decide) (by decide) (Nat.le_of_ble_eq_true rfl) (Nat.le_of_ble_eq_true rfl) dX5_init_34 (kc2 := 3) (ks2 := 612) rfl rfl ?_
  refine k_pf (pc := 36) (ji := 4) hC hI fd_X5_25 fl_X5_25 rfl ft5_4 (by decide) kk_10 (by decide) dX5_init_36 rfl ?_
  refine k_aloadA_n (pc := 39) hC dX5_init_39 rfl rfl kk_10 (by decide) ?_
  refine k_bipush (pc := 40) hC dX5_init_40 rfl ?_
  refine k_newI (pc := 42) hC aw_int (a := 14) (N := 6) (by decide) kk_14 ll_14 (by decide) (by decide) (by decide) (Nat.le_of_ble_eq_true rfl) (Nat.le_of_ble_eq_true rfl) dX5_init_42 (kc2 := 4) (ks2 := 618) rfl rfl ?_
  refine k_pf (pc := 44) (ji := 5) hC hI fd_X5_28 fl_X5_28 rfl ft5_5 (by decide) kk_10 (by decide) dX5_init_44 rfl ?_
  refine k_aloadA_n (pc := 47) hC dX5_init_47 rfl rfl kk_10 (by decide) ?_
  refine k_bipush (pc := 48) hC dX5_init_48 rfl ?_
  refine k_newI (pc := 50) hC aw_int (a := 15) (N := 16) (by decide) kk_15 ll_15 (by decide) (by decide) (by decide) (Nat.le_of_ble_eq_true rfl) (Nat.le_of_ble_eq_true rfl) dX5_init_50 (kc2 := 5) (ks2 := 634) rfl rfl ?_
  refine k_pf (pc := 52) (ji := 6) hC hI fd_X5_31 fl_X5_31 rfl ft5_6 (by decide) kk_10 (by decide) dX5_init_52 rfl ?_
  exact k_vret (pc := 55) hC hR dX5_init_55 rfl rfl rfl
set_option maxHeartbeats 4000000 in
set_option maxRecDepth 20000 in
theorem ok_X2_init_16 {X : jX} {M : jM} : jCc X 16 yX2_init cX2_init 2 1 2 42 [jA 16, jI 6] M (c_X2_init_16 M) := by
  refine jCc_of (own := RX2) (ls := [jA 16, jI 6]) (by decide +kernel) rfl rfl (Nat.le_of_ble_eq_true rfl) rfl ?_
  intro C hC hI hR
  refine k_aloadA_n (pc := 0) hC dX2_init_0 rfl rfl kk_16 (by decide) ?_
  refine k_oinit (pc := 1) hC oi_X2 (by decide) (Nat.le_of_ble_eq_true rfl) (Nat.le_of_ble_eq_true rfl) dX2_init_1 ?_
  refine k_aloadA_n (pc := 4) hC dX2_init_4 rfl rfl kk_16 (by decide) ?_
  refine k_iconst (pc := 5) hC dX2_init_5 ?_
  refine k_pi (pc := 6) (ji := 3) hC fl_X2_9 rfl ft2_3 kk_16 (by decide) dX2_init_6 rfl ?_
  refine k_aloadA_n (pc := 9) hC dX2_init_9 rfl rfl kk_16 (by decide) ?_
  refine k_iload_n (pc := 10) hC dX2_init_10 rfl rfl ?_
  refine k_pfi (pc := 11) (ji := 0) hC hI fd_X2_15 fl_X2_15 rfl ft2_0 kk_16 (by decide) dX2_init_11 rfl ?_
  refine k_aloadA_n (pc := 14) hC dX2_init_14 rfl rfl kk_16 (by decide) ?_
  refine k_iload_n (pc := 15) hC dX2_init_15 rfl rfl ?_
  refine k_bipush (pc := 16) hC dX2_init_16 rfl ?_
  refine k_imul (pc := 18) hC dX2_init_18 ?_
  show jK _ _ _ _ _ _ _ _ (jI 36 :: _) _
  refine k_newI (pc := 19) hC aw_int (a := 17) (N := 36) (by decide) kk_17 ll_17 (by decide) (by decide) (by decide) (Nat.le_of_ble_eq_true rfl) (Nat.le_of_ble_eq_true rfl) dX2_init_19 (kc2 := 1) (ks2 := 36) rfl rfl ?_
  refine k_pf (pc := 21) (ji := 1) hC hI fd_X2_18 fl_X2_18 rfl ft2_1 (by decide) kk_16 (by decide) dX2_init_21 rfl ?_
  refine k_aloadA_n (pc := 24) hC dX2_init_24 rfl rfl kk_16 (by decide) ?_
  refine k_iload_n (pc := 25) hC dX2_init_25 rfl rfl ?_
  refine k_newI (pc := 26) hC aw_int (a := 18) (N := 6) (by decide) kk_18 ll_18 (by decide) (by decide) (by decide) (Nat.le_of_ble_eq_true rfl) (Nat.le_of_ble_eq_true rfl) dX2_init_26 (kc2 := 2) (ks2 := 42) rfl rfl ?_
  refine k_pf (pc := 28) (ji := 2) hC hI fd_X2_22 fl_X2_22 rfl ft2_2 (by decide) kk_16 (by decide) dX2_init_28 rfl ?_
  exact k_vret (pc := 31) hC hR dX2_init_31 rfl rfl rfl
set_option maxHeartbeats 4000000 in
set_option maxRecDepth 20000 in
theorem ok_X6_init_20 {X : jX} {M : jM} : jCc X 20 yX6_init cX6_init 1 1 5 207 [jA 20] M (c_X6_init_20 M) := by
  refine jCc_of (own := RX6) (ls := [jA 20]) (by decide +kernel) rfl rfl (Nat.le_of_ble_eq_true rfl) rfl ?_
  intro C hC hI hR
  refine k_aloadA_n (pc := 0) hC dX6_init_0 rfl rfl kk_20 (by decide) ?_
  refine k_oinit (pc := 1) hC oi_X6 (by decide) (Nat.le_of_ble_eq_true rfl) (Nat.le_of_ble_eq_true rfl) dX6_init_1 ?_
  refine k_aloadA_n (pc := 4) hC dX6_init_4 rfl rfl kk_20 (by decide) ?_
  refine k_iconst (pc := 5) hC dX6_init_5 ?_
  refine k_pi (pc := 6) (ji := 0) hC fl_X6_9 rfl ft6_0 kk_20 (by decide) dX6_init_6 rfl ?_
  refine k_aloadA_n (pc := 9) hC dX6_init_9 rfl rfl kk_20 (by decide) ?_
  refine k_iconst (pc := 10) hC dX6_init_10 ?_
  refine k_pi (pc := 11) (ji := 1) hC fl_X6_15 rfl ft6_1 kk_20 (by decide) dX6_init_11 rfl ?_
  refine k_aloadA_n (pc := 14) hC dX6_init_14 rfl rfl kk_20 (by decide) ?_
  refine k_iconst (pc := 15) hC dX6_init_15 ?_
  refine k_pi (pc := 16) (ji := 2) hC fl_X6_18 rfl ft6_2 kk_20 (by decide) dX6_init_16 rfl ?_
  refine k_aloadA_n (pc := 19) hC dX6_init_19 rfl rfl kk_20 (by decide) ?_
  refine k_bipush (pc := 20) hC dX6_init_20 rfl ?_
  refine k_newI (pc := 22) hC aw_int (a := 21) (N := 12) (by decide) kk_21 ll_21 (by decide) (by decide) (by decide) (Nat.le_of_ble_eq_true rfl) (Nat.le_of_ble_eq_true rfl) dX6_init_22 (kc2 := 1) (ks2 := 12) rfl rfl ?_
  refine k_pf (pc := 24) (ji := 3) hC hI fd_X6_21 fl_X6_21 rfl ft6_3 (by decide) kk_20 (by decide) dX6_init_24 rfl ?_
  refine k_aloadA_n (pc := 27) hC dX6_init_27 rfl rfl kk_20 (by decide) ?_
  refine k_bipush (pc := 28) hC dX6_init_28 rfl ?_
  refine k_newI (pc := 30) hC aw_int (a := 22) (N := 12) (by decide) kk_22 ll_22 (by decide) (by decide) (by decide) (Nat.le_of_ble_eq_true rfl) (Nat.le_of_ble_eq_true rfl) dX6_init_30 (kc2 := 2) (ks2 := 24) rfl rfl ?_
  refine k_pf (pc := 32) (ji := 4) hC hI fd_X6_25 fl_X6_25 rfl ft6_4 (by decide) kk_20 (by decide) dX6_init_32 rfl ?_
  refine k_aloadA_n (pc := 35) hC dX6_init_35 rfl rfl kk_20 (by decide) ?_
  refine k_bipush (pc := 36) hC dX6_init_36 rfl ?_
  refine k_newI (pc := 38) hC aw_int (a := 23) (N := 36) (by decide) kk_23 ll_23 (by decide) (by decide) (by decide) (Nat.le_of_ble_eq_true rfl) (Nat.le_of_ble_eq_true rfl) dX6_init_38 (kc2 := 3) (ks2 := 60) rfl rfl ?_
  refine k_pf (pc := 40) (ji := 5) hC hI fd_X6_28 fl_X6_28 rfl ft6_5 (by decide) kk_20 (by decide) dX6_init_40 rfl ?_
  refine k_aloadA_n (pc := 43) hC dX6_init_43 rfl rfl kk_20 (by decide) ?_
  refine k_bipush (pc := 44) hC dX6_init_44 rfl ?_
  refine k_newI (pc := 46) hC aw_int (a := 24) (N := 12) (by decide) kk_24 ll_24 (by decide) (by decide) (by decide) (Nat.le_of_ble_eq_true rfl) (Nat.le_of_ble_eq_true rfl) dX6_init_46 (kc2 := 4) (ks2 := 72) rfl rfl ?_
  refine k_pf (pc := 48) (ji := 6) hC hI fd_X6_31 fl_X6_31 rfl ft6_6 (by decide) kk_20 (by decide) dX6_init_48 rfl ?_
  refine k_aloadA_n (pc := 51) hC dX6_init_51 rfl rfl kk_20 (by decide) ?_
  refine k_sipush (pc := 52) hC dX6_init_52 rfl ?_
  refine k_newI (pc := 55) hC aw_int (a := 25) (N := 135) (by decide) kk_25 ll_25 (by decide) (by decide) (by decide) (Nat.le_of_ble_eq_true rfl) (Nat.le_of_ble_eq_true rfl) dX6_init_55 (kc2 := 5) (ks2 := 207) rfl rfl ?_
  refine k_pf (pc := 57) (ji := 7) hC hI fd_X6_34 fl_X6_34 rfl ft6_7 (by decide) kk_20 (by decide) dX6_init_57 rfl ?_
  exact k_vret (pc := 60) hC hR dX6_init_60 rfl rfl rfl
set_option maxHeartbeats 4000000 in
set_option maxRecDepth 20000 in
theorem ok_X6_init_26 {X : jX} {M : jM} : jCc X 26 yX6_init cX6_init 1 1 5 207 [jA 26] M (c_X6_init_26 M) := by
  refine jCc_of (own := RX6) (ls := [jA 26]) (by decide +kernel) rfl rfl (Nat.le_of_ble_eq_true rfl) rfl ?_
  intro C hC hI hR
  refine k_aloadA_n (pc := 0) hC dX6_init_0 rfl rfl kk_26 (by decide) ?_
  refine k_oinit (pc := 1) hC oi_X6 (by decide) (Nat.le_of_ble_eq_true rfl) (Nat.le_of_ble_eq_true rfl) dX6_init_1 ?_
  refine k_aloadA_n (pc := 4) hC dX6_init_4 rfl rfl kk_26 (by decide) ?_
  refine k_iconst (pc := 5) hC dX6_init_5 ?_
  refine k_pi (pc := 6) (ji := 0) hC fl_X6_9 rfl ft6_0 kk_26 (by decide) dX6_init_6 rfl ?_
  refine k_aloadA_n (pc := 9) hC dX6_init_9 rfl rfl kk_26 (by decide) ?_
  refine k_iconst (pc := 10) hC dX6_init_10 ?_
  refine k_pi (pc := 11) (ji := 1) hC fl_X6_15 rfl ft6_1 kk_26 (by decide) dX6_init_11 rfl ?_
  refine k_aloadA_n (pc := 14) hC dX6_init_14 rfl rfl kk_26 (by decide) ?_
  refine k_iconst (pc := 15) hC dX6_init_15 ?_
  refine k_pi (pc := 16) (ji := 2) hC fl_X6_18 rfl ft6_2 kk_26 (by decide) dX6_init_16 rfl ?_
  refine k_aloadA_n (pc := 19) hC dX6_init_19 rfl rfl kk_26 (by decide) ?_
  refine k_bipush (pc := 20) hC dX6_init_20 rfl ?_
  refine k_newI (pc := 22) hC aw_int (a := 27) (N := 12) (by decide) kk_27 ll_27 (by decide) (by decide) (by decide) (Nat.le_of_ble_eq_true rfl) (Nat.le_of_ble_eq_true rfl) dX6_init_22 (kc2 := 1) (ks2 := 12) rfl rfl ?_
  refine k_pf (pc := 24) (ji := 3) hC hI fd_X6_21 fl_X6_21 rfl ft6_3 (by decide) kk_26 (by decide) dX6_init_24 rfl ?_
  refine k_aloadA_n (pc := 27) hC dX6_init_27 rfl rfl kk_26 (by decide) ?_
  refine k_bipush (pc := 28) hC dX6_init_28 rfl ?_
  refine k_newI (pc := 30) hC aw_int (a := 28) (N := 12) (by decide) kk_28 ll_28 (by decide) (by decide) (by decide) (Nat.le_of_ble_eq_true rfl) (Nat.le_of_ble_eq_true rfl) dX6_init_30 (kc2 := 2) (ks2 := 24) rfl rfl ?_
  refine k_pf (pc := 32) (ji := 4) hC hI fd_X6_25 fl_X6_25 rfl ft6_4 (by decide) kk_26 (by decide) dX6_init_32 rfl ?_
  refine k_aloadA_n (pc := 35) hC dX6_init_35 rfl rfl kk_26 (by decide) ?_
  refine k_bipush (pc := 36) hC dX6_init_36 rfl ?_
  refine k_newI (pc := 38) hC aw_int (a := 29) (N := 36) (by decide) kk_29 ll_29 (by decide) (by decide) (by decide) (Nat.le_of_ble_eq_true rfl) (Nat.le_of_ble_eq_true rfl) dX6_init_38 (kc2 := 3) (ks2 := 60) rfl rfl ?_
  refine k_pf (pc := 40) (ji := 5) hC hI fd_X6_28 fl_X6_28 rfl ft6_5 (by decide) kk_26 (by decide) dX6_init_40 rfl ?_
  refine k_aloadA_n (pc := 43) hC dX6_init_43 rfl rfl kk_26 (by decide) ?_
  refine k_bipush (pc := 44) hC dX6_init_44 rfl ?_
  refine k_newI (pc := 46) hC aw_int (a := 30) (N := 12) (by decide) kk_30 ll_30 (by decide) (by decide) (by decide) (Nat.le_of_ble_eq_true rfl) (Nat.le_of_ble_eq_true rfl) dX6_init_46 (kc2 := 4) (ks2 := 72) rfl rfl ?_
  refine k_pf (pc := 48) (ji := 6) hC hI fd_X6_31 fl_X6_31 rfl ft6_6 (by decide) kk_26 (by decide) dX6_init_48 rfl ?_
  refine k_aloadA_n (pc := 51) hC dX6_init_51 rfl rfl kk_26 (by decide) ?_
  refine k_sipush (pc := 52) hC dX6_init_52 rfl ?_
  refine k_newI (pc := 55) hC aw_int (a := 31) (N := 135) (by decide) kk_31 ll_31 (by decide) (by decide) (by decide) (Nat.le_of_ble_eq_true rfl) (Nat.le_of_ble_eq_true rfl) dX6_init_55 (kc2 := 5) (ks2 := 207) rfl rfl ?_
  refine k_pf (pc := 57) (ji := 7) hC hI fd_X6_34 fl_X6_34 rfl ft6_7 (by decide) kk_26 (by decide) dX6_init_57 rfl ?_
  exact k_vret (pc := 60) hC hR dX6_init_60 rfl rfl rfl
set_option maxHeartbeats 4000000 in
set_option maxRecDepth 20000 in
theorem ok_X6_init_32 {X : jX} {M : jM} : jCc X 32 yX6_init cX6_init 1 1 5 207 [jA 32] M (c_X6_init_32 M) := by
  refine jCc_of (own := RX6) (ls := [jA 32]) (by decide +kernel) rfl rfl (Nat.le_of_ble_eq_true rfl) rfl ?_
  intro C hC hI hR
  refine k_aloadA_n (pc := 0) hC dX6_init_0 rfl rfl kk_32 (by decide) ?_
  refine k_oinit (pc := 1) hC oi_X6 (by decide) (Nat.le_of_ble_eq_true rfl) (Nat.le_of_ble_eq_true rfl) dX6_init_1 ?_
  refine k_aloadA_n (pc := 4) hC dX6_init_4 rfl rfl kk_32 (by decide) ?_
  refine k_iconst (pc := 5) hC dX6_init_5 ?_
  refine k_pi (pc := 6) (ji := 0) hC fl_X6_9 rfl ft6_0 kk_32 (by decide) dX6_init_6 rfl ?_
  refine k_aloadA_n (pc := 9) hC dX6_init_9 rfl rfl kk_32 (by decide) ?_
  refine k_iconst (pc := 10) hC dX6_init_10 ?_
  refine k_pi (pc := 11) (ji := 1) hC fl_X6_15 rfl ft6_1 kk_32 (by decide) dX6_init_11 rfl ?_
  refine k_aloadA_n (pc := 14) hC dX6_init_14 rfl rfl kk_32 (by decide) ?_
  refine k_iconst (pc := 15) hC dX6_init_15 ?_
  refine k_pi (pc := 16) (ji := 2) hC fl_X6_18 rfl ft6_2 kk_32 (by decide) dX6_init_16 rfl ?_
  refine k_aloadA_n (pc := 19) hC dX6_init_19 rfl rfl kk_32 (by decide) ?_
  refine k_bipush (pc := 20) hC dX6_init_20 rfl ?_
  refine k_newI (pc := 22) hC aw_int (a := 33) (N := 12) (by decide) kk_33 ll_33 (by decide) (by decide) (by decide) (Nat.le_of_ble_eq_true rfl) (Nat.le_of_ble_eq_true rfl) dX6_init_22 (kc2 := 1) (ks2 := 12) rfl rfl ?_
  refine k_pf (pc := 24) (ji := 3) hC hI fd_X6_21 fl_X6_21 rfl ft6_3 (by decide) kk_32 (by decide) dX6_init_24 rfl ?_
  refine k_aloadA_n (pc := 27) hC dX6_init_27 rfl rfl kk_32 (by decide) ?_
  refine k_bipush (pc := 28) hC dX6_init_28 rfl ?_
  refine k_newI (pc := 30) hC aw_int (a := 34) (N := 12) (by decide) kk_34 ll_34 (by decide) (by decide) (by decide) (Nat.le_of_ble_eq_true rfl) (Nat.le_of_ble_eq_true rfl) dX6_init_30 (kc2 := 2) (ks2 := 24) rfl rfl ?_
  refine k_pf (pc := 32) (ji := 4) hC hI fd_X6_25 fl_X6_25 rfl ft6_4 (by decide) kk_32 (by decide) dX6_init_32 rfl ?_
  refine k_aloadA_n (pc := 35) hC dX6_init_35 rfl rfl kk_32 (by decide) ?_
  refine k_bipush (pc := 36) hC dX6_init_36 rfl ?_
  refine k_newI (pc := 38) hC aw_int (a := 35) (N := 36) (by decide) kk_35 ll_35 (by decide) (by decide) (by decide) (Nat.le_of_ble_eq_true rfl) (Nat.le_of_ble_eq_true rfl) dX6_init_38 (kc2 := 3) (ks2 := 60) rfl rfl ?_
  refine k_pf (pc := 40) (ji := 5) hC hI fd_X6_28 fl_X6_28 rfl ft6_5 (by decide) kk_32 (by decide) dX6_init_40 rfl ?_
  refine k_aloadA_n (pc := 43) hC dX6_init_43 rfl rfl kk_32 (by decide) ?_
  refine k_bipush (pc := 44) hC dX6_init_44 rfl ?_
  refine k_newI (pc := 46) hC aw_int (a := 36) (N := 12) (by decide) kk_36 ll_36 (by decide) (by decide) (by decide) (Nat.le_of_ble_eq_true rfl) (Nat.le_of_ble_eq_true rfl) dX6_init_46 (kc2 := 4) (ks2 := 72) rfl rfl ?_
  refine k_pf (pc := 48) (ji := 6) hC hI fd_X6_31 fl_X6_31 rfl ft6_6 (by decide) kk_32 (by decide) dX6_init_48 rfl ?_
  refine k_aloadA_n (pc := 51) hC dX6_init_51 rfl rfl kk_32 (by decide) ?_
  refine k_sipush (pc := 52) hC dX6_init_52 rfl ?_
  refine k_newI (pc := 55) hC aw_int (a := 37) (N := 135) (by decide) kk_37 ll_37 (by decide) (by decide) (by decide) (Nat.le_of_ble_eq_true rfl) (Nat.le_of_ble_eq_true rfl) dX6_init_55 (kc2 := 5) (ks2 := 207) rfl rfl ?_
  refine k_pf (pc := 57) (ji := 7) hC hI fd_X6_34 fl_X6_34 rfl ft6_7 (by decide) kk_32 (by decide) dX6_init_57 rfl ?_
  exact k_vret (pc := 60) hC hR dX6_init_60 rfl rfl rfl
set_option maxHeartbeats 4000000 in
set_option maxRecDepth 20000 in
theorem ok_X6_init_38 {X : jX} {M : jM} : jCc X 38 yX6_init cX6_init 1 1 5 207 [jA 38] M (c_X6_init_38 M) := by
  refine jCc_of (own := RX6) (ls := [jA 38]) (by decide +kernel) rfl rfl (Nat.le_of_ble_eq_true rfl) rfl ?_
  intro C hC hI hR
  refine k_aloadA_n (pc := 0) hC dX6_init_0 rfl rfl kk_38 (by decide) ?_
  refine k_oinit (pc := 1) hC oi_X6 (by decide) (Nat.le_of_ble_eq_true rfl) (Nat.le_of_ble_eq_true rfl) dX6_init_1 ?_
  refine k_aloadA_n (pc := 4) hC dX6_init_4 rfl rfl kk_38 (by decide) ?_
  refine k_iconst (pc := 5) hC dX6_init_5 ?_
  refine k_pi (pc := 6) (ji := 0) hC fl_X6_9 rfl ft6_0 kk_38 (by decide) dX6_init_6 rfl ?_
  refine k_aloadA_n (pc := 9) hC dX6_init_9 rfl rfl kk_38 (by decide) ?_
  refine k_iconst (pc := 10) hC dX6_init_10 ?_
  refine k_pi (pc := 11) (ji := 1) hC fl_X6_15 rfl ft6_1 kk_38 (by decide) dX6_init_11 rfl ?_
  refine k_aloadA_n (pc := 14) hC dX6_init_14 rfl rfl kk_38 (by decide) ?_
  refine k_iconst (pc := 15) hC dX6_init_15 ?_
  refine k_pi (pc := 16) (ji := 2) hC fl_X6_18 rfl ft6_2 kk_38 (by decide) dX6_init_16 rfl ?_
  refine k_aloadA_n (pc := 19) hC dX6_init_19 rfl rfl kk_38 (by decide) ?_
  refine k_bipush (pc := 20) hC dX6_init_20 rfl ?_
  refine k_newI (pc := 22) hC aw_int (a := 39) (N := 12) (by decide) kk_39 ll_39 (by decide) (by decide) (by decide) (Nat.le_of_ble_eq_true rfl) (Nat.le_of_ble_eq_true rfl) dX6_init_22 (kc2 := 1) (ks2 := 12) rfl rfl ?_
  refine k_pf (pc := 24) (ji := 3) hC hI fd_X6_21 fl_X6_21 rfl ft6_3 (by decide) kk_38 (by decide) dX6_init_24 rfl ?_
  refine k_aloadA_n (pc := 27) hC dX6_init_27 rfl rfl kk_38 (by decide) ?_
  refine k_bipush (pc := 28) hC dX6_init_28 rfl ?_
  refine k_newI (pc := 30) hC aw_int (a := 40) (N := 12) (by decide) kk_40 ll_40 (by decide) (by decide) (by decide) (Nat.le_of_ble_eq_true rfl) (Nat.le_of_ble_eq_true rfl) dX6_init_30 (kc2 := 2) (ks2 := 24) rfl rfl ?_
  refine k_pf (pc := 32) (ji := 4) hC hI fd_X6_25 fl_X6_25 rfl ft6_4 (by decide) kk_38 (by decide) dX6_init_32 rfl ?_
  refine k_aloadA_n (pc := 35) hC dX6_init_35 rfl rfl kk_38 (by decide) ?_
  refine k_bipush (pc := 36) hC dX6_init_36 rfl ?_
  refine k_newI (pc := 38) hC aw_int (a := 41) (N := 36) (by decide) kk_41 ll_41 (by decide) (by decide) (by decide) (Nat.le_of_ble_eq_true rfl) (Nat.le_of_ble_eq_true rfl) dX6_init_38 (kc2 := 3) (ks2 := 60) rfl rfl ?_
  refine k_pf (pc := 40) (ji := 5) hC hI fd_X6_28 fl_X6_28 rfl ft6_5 (by decide) kk_38 (by decide) dX6_init_40 rfl ?_
  refine k_aloadA_n (pc := 43) hC dX6_init_43 rfl rfl kk_38 (by decide) ?_
  refine k_bipush (pc := 44) hC dX6_init_44 rfl ?_
  refine k_newI (pc := 46) hC aw_int (a := 42) (N := 12) (by decide) kk_42 ll_42 (by decide) (by decide) (by decide) (Nat.le_of_ble_eq_true rfl) (Nat.le_of_ble_eq_true rfl) dX6_init_46 (kc2 := 4) (ks2 := 72) rfl rfl ?_
  refine k_pf (pc := 48) (ji := 6) hC hI fd_X6_31 fl_X6_31 rfl ft6_6 (by decide) kk_38 (by decide) dX6_init_48 rfl ?_
  refine k_aloadA_n (pc := 51) hC dX6_init_51 rfl rfl kk_38 (by decide) ?_
  refine k_sipush (pc := 52) hC dX6_init_52 rfl ?_
  refine k_newI (pc := 55) hC aw_int (a := 43) (N := 135) (by decide) kk_43 ll_43 (by decide) (by decide) (by decide) (Nat.le_of_ble_eq_true rfl) (Nat.le_of_ble_eq_true rfl) dX6_init_55 (kc2 := 5) (ks2 := 207) rfl rfl ?_
  refine k_pf (pc := 57) (ji := 7) hC hI fd_X6_34 fl_X6_34 rfl ft6_7 (by decide) kk_38 (by decide) dX6_init_57 rfl ?_
  exact k_vret (pc := 60) hC hR dX6_init_60 rfl rfl rfl
set_option maxHeartbeats 4000000 in
set_option maxRecDepth 20000 in
theorem ok_X6_init_44 {X : jX} {M : jM} : jCc X 44 yX6_init cX6_init 1 1 5 207 [jA 44] M (c_X6_init_44 M) := by
  refine jCc_of (own := RX6) (ls := [jA 44]) (by decide +kernel) rfl rfl (Nat.le_of_ble_eq_true rfl) rfl ?_
  intro C hC hI hR
  refine k_aloadA_n (pc := 0) hC dX6_init_0 rfl rfl kk_44 (by decide) ?_
  refine k_oinit (pc := 1) hC oi_X6 (by decide) (Nat.le_of_ble_eq_true rfl) (Nat.le_of_ble_eq_true rfl) dX6_init_1 ?_
  refine k_aloadA_n (pc := 4) hC dX6_init_4 rfl rfl kk_44 (by decide) ?_
  refine k_iconst (pc := 5) hC dX6_init_5 ?_
  refine k_pi (pc := 6) (ji := 0) hC fl_X6_9 rfl ft6_0 kk_44 (by decide) dX6_init_6 rfl ?_
  refine k_aloadA_n (pc := 9) hC dX6_init_9 rfl rfl kk_44 (by decide) ?_
  refine k_iconst (pc := 10) hC dX6_init_10 ?_
  refine k_pi (pc := 11) (ji := 1) hC fl_X6_15 rfl ft6_1 kk_44 (by decide) dX6_init_11 rfl ?_
  refine k_aloadA_n (pc := 14) hC dX6_init_14 rfl rfl kk_44 (by decide) ?_
  refine k_iconst (pc := 15) hC dX6_init_15 ?_
  refine k_pi (pc := 16) (ji := 2) hC fl_X6_18 rfl ft6_2 kk_44 (by decide) dX6_init_16 rfl ?_
  refine k_aloadA_n (pc := 19) hC dX6_init_19 rfl rfl kk_44 (by decide) ?_
  refine k_bipush (pc := 20) hC dX6_init_20 rfl ?_
  refine k_newI (pc := 22) hC aw_int (a := 45) (N := 12) (by decide) kk_45 ll_45 (by decide) (by decide) (by decide) (Nat.le_of_ble_eq_true rfl) (Nat.le_of_ble_eq_true rfl) dX6_init_22 (kc2 := 1) (ks2 := 12) rfl rfl ?_
  refine k_pf (pc := 24) (ji := 3) hC hI fd_X6_21 fl_X6_21 rfl ft6_3 (by decide) kk_44 (by decide) dX6_init_24 rfl ?_
  refine k_aloadA_n (pc := 27) hC dX6_init_27 rfl rfl kk_44 (by decide) ?_
  refine k_bipush (pc := 28) hC dX6_init_28 rfl ?_
  refine k_newI (pc := 30) hC aw_int (a := 46) (N := 12) (by decide) kk_46 ll_46 (by decide) (by decide) (by decide) (Nat.le_of_ble_eq_true rfl) (Nat.le_of_ble_eq_true rfl) dX6_init_30 (kc2 := 2) (ks2 := 24) rfl rfl ?_
  refine k_pf (pc := 32) (ji := 4) hC hI fd_X6_25 fl_X6_25 rfl ft6_4 (by decide) kk_44 (by decide) dX6_init_32 rfl ?_
  refine k_aloadA_n (pc := 35) hC dX6_init_35 rfl rfl kk_44 (by decide) ?_
  refine k_bipush (pc := 36) hC dX6_init_36 rfl ?_
  refine k_newI (pc := 38) hC aw_int (a := 47) (N := 36) (by decide) kk_47 ll_47 (by decide) (by decide) (by decide) (Nat.le_of_ble_eq_true rfl) (Nat.le_of_ble_eq_true rfl) dX6_init_38 (kc2 := 3) (ks2 := 60) rfl rfl ?_
  refine k_pf (pc := 40) (ji := 5) hC hI fd_X6_28 fl_X6_28 rfl ft6_5 (by decide) kk_44 (by decide) dX6_init_40 rfl ?_
  refine k_aloadA_n (pc := 43) hC dX6_init_43 rfl rfl kk_44 (by decide) ?_
  refine k_bipush (pc := 44) hC dX6_init_44 rfl ?_
  refine k_newI (pc := 46) hC aw_int (a := 48) (N := 12) (by decide) kk_48 ll_48 (by decide) (by decide) (by decide) (Nat.le_of_ble_eq_true rfl) (Nat.le_of_ble_eq_true rfl) dX6_init_46 (kc2 := 4) (ks2 := 72) rfl rfl ?_
  refine k_pf (pc := 48) (ji := 6) hC hI fd_X6_31 fl_X6_31 rfl ft6_6 (by decide) kk_44 (by decide) dX6_init_48 rfl ?_
  refine k_aloadA_n (pc := 51) hC dX6_init_51 rfl rfl kk_44 (by decide) ?_
  refine k_sipush (pc := 52) hC dX6_init_52 rfl ?_
  refine k_newI (pc := 55) hC aw_int (a := 49) (N := 135) (by decide) kk_49 ll_49 (by decide) (by decide) (by decide) (Nat.le_of_ble_eq_true rfl) (Nat.le_of_ble_eq_true rfl) dX6_init_55 (kc2 := 5) (ks2 := 207) rfl rfl ?_
  refine k_pf (pc := 57) (ji := 7) hC hI fd_X6_34 fl_X6_34 rfl ft6_7 (by decide) kk_44 (by decide) dX6_init_57 rfl ?_
  exact k_vret (pc := 60) hC hR dX6_init_60 rfl rfl rfl
set_option maxHeartbeats 4000000 in
set_option maxRecDepth 20000 in
theorem ok_X6_init_50 {X : jX} {M : jM} : jCc X 50 yX6_init cX6_init 1 1 5 207 [jA 50] M (c_X6_init_50 M) := by
  refine jCc_of (own := RX6) (ls := [jA 50]) (by decide +kernel) rfl rfl (Nat.le_of_ble_eq_true rfl) rfl ?_
  intro C hC hI hR
  refine k_aloadA_n (pc := 0) hC dX6_init_0 rfl rfl kk_50 (by decide) ?_
  refine k_oinit (pc := 1) hC oi_X6 (by decide) (Nat.le_of_ble_eq_true rfl) (Nat.le_of_ble_eq_true rfl) dX6_init_1 ?_
  refine k_aloadA_n (pc := 4) hC dX6_init_4 rfl rfl kk_50 (by decide) ?_
  refine k_iconst (pc := 5) hC dX6_init_5 ?_
  refine k_pi (pc := 6) (ji := 0) hC fl_X6_9 rfl ft6_0 kk_50 (by decide) dX6_init_6 rfl ?_
  refine k_aloadA_n (pc := 9) hC dX6_init_9 rfl rfl kk_50 (by decide) ?_
  refine k_iconst (pc := 10) hC dX6_init_10 ?_
  refine k_pi (pc := 11) (ji := 1) hC fl_X6_15 rfl ft6_1 kk_50 (by decide) dX6_init_11 rfl ?_
  refine k_aloadA_n (pc := 14) hC dX6_init_14 rfl rfl kk_50 (by decide) ?_
  refine k_iconst (pc := 15) hC dX6_init_15 ?_
  refine k_pi (pc := 16) (ji := 2) hC fl_X6_18 rfl ft6_2 kk_50 (by decide) dX6_init_16 rfl ?_
  refine k_aloadA_n (pc := 19) hC dX6_init_19 rfl rfl kk_50 (by decide) ?_
  refine k_bipush (pc := 20) hC dX6_init_20 rfl ?_
  refine k_newI (pc := 22) hC aw_int (a := 51) (N := 12) (by decide) kk_51 ll_51 (by decide) (by decide) (by decide) (Nat.le_of_ble_eq_true rfl) (Nat.le_of_ble_eq_true rfl) dX6_init_22 (kc2 := 1) (ks2 := 12) rfl rfl ?_
  refine k_pf (pc := 24) (ji := 3) hC hI fd_X6_21 fl_X6_21 rfl ft6_3 (by decide) kk_50 (by decide) dX6_init_24 rfl ?_
  refine k_aloadA_n (pc := 27) hC dX6_init_27 rfl rfl kk_50 (by decide) ?_
  refine k_bipush (pc := 28) hC dX6_init_28 rfl ?_
  refine k_newI (pc := 30) hC aw_int (a := 52) (N := 12) (by decide) kk_52 ll_52 (by decide) (by decide) (by decide) (Nat.le_of_ble_eq_true rfl) (Nat.le_of_ble_eq_true rfl) dX6_init_30 (kc2 := 2) (ks2 := 24) rfl rfl ?_
  refine k_pf (pc := 32) (ji := 4) hC hI fd_X6_25 fl_X6_25 rfl ft6_4 (by decide) kk_50 (by decide) dX6_init_32 rfl ?_
  refine k_aloadA_n (pc := 35) hC dX6_init_35 rfl rfl kk_50 (by decide) ?_
  refine k_bipush (pc := 36) hC dX6_init_36 rfl ?_
  refine k_newI (pc := 38) hC aw_int (a := 53) (N := 36) (by decide) kk_53 ll_53 (by decide) (by decide) (by decide) (Nat.le_of_ble_eq_true rfl) (Nat.le_of_ble_eq_true rfl) dX6_init_38 (kc2 := 3) (ks2 := 60) rfl rfl ?_
  refine k_pf (pc := 40) (ji := 5) hC hI fd_X6_28 fl_X6_28 rfl ft6_5 (by decide) kk_50 (by decide) dX6_init_40 rfl ?_
  refine k_aloadA_n (pc := 43) hC dX6_init_43 rfl rfl kk_50 (by decide) ?_
  refine k_bipush (pc := 44) hC dX6_init_44 rfl ?_
  refine k_newI (pc := 46) hC aw_int (a := 54) (N := 12) (by decide) kk_54 ll_54 (by decide) (by decide) (by decide) (Nat.le_of_ble_eq_true rfl) (Nat.le_of_ble_eq_true rfl) dX6_init_46 (kc2 := 4) (ks2 := 72) rfl rfl ?_
  refine k_pf (pc := 48) (ji := 6) hC hI fd_X6_31 fl_X6_31 rfl ft6_6 (by decide) kk_50 (by decide) dX6_init_48 rfl ?_
  refine k_aloadA_n (pc := 51) hC dX6_init_51 rfl rfl kk_50 (by decide) ?_
  refine k_sipush (pc := 52) hC dX6_init_52 rfl ?_
  refine k_newI (pc := 55) hC aw_int (a := 55) (N := 135) (by decide) kk_55 ll_55 (by decide) (by decide) (by decide) (Nat.le_of_ble_eq_true rfl) (Nat.le_of_ble_eq_true rfl) dX6_init_55 (kc2 := 5) (ks2 := 207) rfl rfl ?_
  refine k_pf (pc := 57) (ji := 7) hC hI fd_X6_34 fl_X6_34 rfl ft6_7 (by decide) kk_50 (by decide) dX6_init_57 rfl ?_
  exact k_vret (pc := 60) hC hR dX6_init_60 rfl rfl rfl
set_option maxHeartbeats 4000000 in
set_option maxRecDepth 20000 in
theorem ok_X1_init_3 {X : jX} {M : jM} : jCc X 3 yX1_init cX1_init 2 2 52 2084 [jA 3] M (c_X1_init_3 M) := by
  refine jCc_of (own := RX1) (ls := [jA 3, jN]) (by decide +kernel) rfl rfl (Nat.le_of_ble_eq_true rfl) rfl ?_
  intro C hC hI hR
  refine k_aloadA_n (pc := 0) hC dX1_init_0 rfl rfl kk_3 (by decide) ?_
  refine k_oinit (pc := 1) hC oi_X1 (by decide) (Nat.le_of_ble_eq_true rfl) (Nat.le_of_ble_eq_true rfl) dX1_init_1 ?_
  refine k_aloadA_n (pc := 4) hC dX1_init_4 rfl rfl kk_3 (by decide) ?_
  refine k_iconst (pc := 5) hC dX1_init_5 ?_
  refine k_pi (pc := 6) (ji := 0) hC fl_X1_9 rfl ft1_0 kk_3 (by decide) dX1_init_6 rfl ?_
  refine k_aloadA_n (pc := 9) hC dX1_init_9 rfl rfl kk_3 (by decide) ?_
  refine k_bipush (pc := 10) hC dX1_init_10 rfl ?_
  refine k_newI (pc := 12) hC aw_int (a := 4) (N := 7) (by decide) kk_4 ll_4 (by decide) (by decide) (by decide) (Nat.le_of_ble_eq_true rfl) (Nat.le_of_ble_eq_true rfl) dX1_init_12 (kc2 := 1) (ks2 := 7) rfl rfl ?_
  refine k_pf (pc := 14) (ji := 1) hC hI fd_X1_15 fl_X1_15 rfl ft1_1 (by decide) kk_3 (by decide) dX1_init_14 rfl ?_
  refine k_aloadA_n (pc := 17) hC dX1_init_17 rfl rfl kk_3 (by decide) ?_
  refine k_new (pc := 18) hC (ci := 2) (N := 4) (ty := tyX2) rfl inX2 tyX2_ok nw_X1_19.1 nw_X1_19.2.1 nw_X1_19.2.2 dv_2 (a := 5) (by decide) kk_5 (by decide) ll_5 (Nat.le_of_ble_eq_true rfl) (Nat.le_of_ble_eq_true rfl) dX1_init_18 (kc2 := 2) (ks2 := 11) rfl rfl ?_
  refine k_dup (pc := 21) hC dX1_init_21 (show (2 : Nat) ≠ 3 by decide) ?_
  refine k_bipush (pc := 22) hC dX1_init_22 rfl ?_
  refine k_ctor (pc := 24) hC mi_X1_21 (ok_X2_init_5) (by decide) rfl (Nat.le_of_ble_eq_true rfl) (Nat.le_of_ble_eq_true rfl) (Nat.le_of_ble_eq_true rfl) (Nat.le_of_ble_eq_true rfl) dX1_init_24 rfl (kc2 := 4) (ks2 := 81) rfl rfl ?_
  refine k_pf (pc := 27) (ji := 2) hC hI fd_X1_24 fl_X1_24 rfl ft1_2 (by decide) kk_3 (by decide) dX1_init_27 rfl ?_
  refine k_aloadA_n (pc := 30) hC dX1_init_30 rfl rfl kk_3 (by decide) ?_
  refine k_bipush (pc := 31) hC dX1_init_31 rfl ?_
  refine k_newI (pc := 33) hC aw_int (a := 8) (N := 10) (by decide) kk_8 ll_8 (by decide) (by decide) (by decide) (Nat.le_of_ble_eq_true rfl) (Nat.le_of_ble_eq_true rfl) dX1_init_33 (kc2 := 5) (ks2 := 91) rfl rfl ?_
  refine k_pf (pc := 35) (ji := 3) hC hI fd_X1_28 fl_X1_28 rfl ft1_3 (by decide) kk_3 (by decide) dX1_init_35 rfl ?_
  refine k_aloadA_n (pc := 38) hC dX1_init_38 rfl rfl kk_3 (by decide) ?_
  refine k_bipush (pc := 39) hC dX1_init_39 rfl ?_
  refine k_newI (pc := 41) hC aw_int (a := 9) (N := 10) (by decide) kk_9 ll_9 (by decide) (by decide) (by decide) (Nat.le_of_ble_eq_true rfl) (Nat.le_of_ble_eq_true rfl) dX1_init_41 (kc2 := 6) (ks2 := 101) rfl rfl ?_
  refine k_pf (pc := 43) (ji := 4) hC hI fd_X1_31 fl_X1_31 rfl ft1_4 (by decide) kk_3 (by decide) dX1_init_43 rfl ?_
  refine k_aloadA_n (pc := 46) hC dX1_init_46 rfl rfl kk_3 (by decide) ?_
  refine k_new (pc := 47) hC (ci := 5) (N := 7) (ty := tyX5) rfl inX5 tyX5_ok nw_X1_34.1 nw_X1_34.2.1 nw_X1_34.2.2 dv_5 (a := 10) (by decide) kk_10 (by decide) ll_10 (Nat.le_of_ble_eq_true rfl) (Nat.le_of_ble_eq_true rfl) dX1_init_47 (kc2 := 7) (ks2 := 108) rfl rfl ?_
  refine k_dup (pc := 50) hC dX1_init_50 (show (2 : Nat) ≠ 3 by decide) ?_
  refine k_ctor (pc := 51) hC mi_X1_36 (ok_X5_init_10) (by decide) rfl (Nat.le_of_ble_eq_true rfl) (Nat.le_of_ble_eq_true rfl) (Nat.le_of_ble_eq_true rfl) (Nat.le_of_ble_eq_true rfl) dX1_init_51 rfl (kc2 := 12) (ks2 := 742) rfl rfl ?_
  refine k_pf (pc := 54) (ji := 5) hC hI fd_X1_37 fl_X1_37 rfl ft1_5 (by decide) kk_3 (by decide) dX1_init_54 rfl ?_
  refine k_aloadA_n (pc := 57) hC dX1_init_57 rfl rfl kk_3 (by decide) ?_
  refine k_new (pc := 58) hC (ci := 2) (N := 4) (ty := tyX2) rfl inX2 tyX2_ok nw_X1_19.1 nw_X1_19.2.1 nw_X1_19.2.2 dv_2 (a := 16) (by decide) kk_16 (by decide) ll_16 (Nat.le_of_ble_eq_true rfl) (Nat.le_of_ble_eq_true rfl) dX1_init_58 (kc2 := 13) (ks2 := 746) rfl rfl ?_
  refine k_dup (pc := 61) hC dX1_init_61 (show (2 : Nat) ≠ 3 by decide) ?_
  refine k_bipush (pc := 62) hC dX1_init_62 rfl ?_
  refine k_ctor (pc := 64) hC mi_X1_21 (ok_X2_init_16) (by decide) rfl (Nat.le_of_ble_eq_true rfl) (Nat.le_of_ble_eq_true rfl) (Nat.le_of_ble_eq_true rfl) (Nat.le_of_ble_eq_true rfl) dX1_init_64 rfl (kc2 := 15) (ks2 := 788) rfl rfl ?_
  refine k_pf (pc := 67) (ji := 6) hC hI fd_X1_41 fl_X1_41 rfl ft1_6 (by decide) kk_3 (by decide) dX1_init_67 rfl ?_
  refine k_aloadA_n (pc := 70) hC dX1_init_70 rfl rfl kk_3 (by decide) ?_
  refine k_bipush (pc := 71) hC dX1_init_71 rfl ?_
  refine k_anew (pc := 73) hC (kk := 14) (t0 := 3) (jTB_mem wm_235 rfl) (fun _ h => h.1) rfl (by decide) (a := 19) (N := 6) (by decide) kk_19 ll_19 (by decide) (by decide) (by decide) (Nat.le_of_ble_eq_true rfl) (Nat.le_of_ble_eq_true rfl) dX1_init_73 (kc2 := 16) (ks2 := 794) rfl rfl ?_
  refine k_pf (pc := 76) (ji := 7) hC hI fd_X1_46 fl_X1_46 rfl ft1_7 (by decide) kk_3 (by decide) dX1_init_76 rfl ?_
  refine k_gst (pc := 79) hC (k := 2) (by decide) sl_X1_50 dX1_init_79 ?_
  refine k_iconst (pc := 82) hC dX1_init_82 ?_
  refine k_aloadA_n (pc := 83) hC dX1_init_83 rfl rfl kk_3 (by decide) ?_
  refine k_gr (pc := 84) hC fl_X1_15 ft1_1 kk_3 (by decide) (b := 4) rfl dX1_init_84 ?_
  refine k_iconst (pc := 87) hC dX1_init_87 ?_
  refine k_bipush (pc := 88) hC dX1_init_88 rfl ?_
  refine k_acT (pc := 90) hC ac_X1_53 (Nat.le_of_ble_eq_true rfl) (Nat.le_of_ble_eq_true rfl) (kk := 2) (by decide) kk_4 (by decide +kernel) (by decide) dX1_init_90 rfl ?_
  refine k_iconst (pc := 93) hC dX1_init_93 ?_
  refine k_istore_n (ls2 := [jA 3, jI 0]) (pc := 94) hC dX1_init_94 rfl (by decide) rfl rfl rfl ?_
  refine k_iload_n (pc := 95) hC dX1_init_95 rfl rfl ?_
  refine k_bipush (pc := 96) hC dX1_init_96 rfl ?_
  refine k_icmp_ge (tgt := 120) (pc := 98) hC dX1_init_98 (by decide) (fun hc => absurd hc (by decide)) (fun _ => ?_)
  refine k_aloadA_n (pc := 101) hC dX1_init_101 rfl rfl kk_3 (by decide) ?_
  refine k_gr (pc := 102) hC fl_X1_46 ft1_7 kk_3 (by decide) (b := 19) rfl dX1_init_102 ?_
  refine k_iload_n (pc := 105) hC dX1_init_105 rfl rfl ?_
  refine k_new (pc := 106) hC (ci := 6) (N := 8) (ty := tyX6) rfl inX6 tyX6_ok nw_X1_44.1 nw_X1_44.2.1 nw_X1_44.2.2 dv_6 (a := 20) (by decide) kk_20 (by decide) ll_20 (Nat.le_of_ble_eq_true rfl) (Nat.le_of_ble_eq_true rfl) dX1_init_106 (kc2 := 17) (ks2 := 802) rfl rfl ?_
  refine k_dup (pc := 109) hC dX1_init_109 (show (2 : Nat) ≠ 3 by decide) ?_
  refine k_ctor (pc := 110) hC mi_X1_59 (ok_X6_init_20) (by decide) rfl (Nat.le_of_ble_eq_true rfl) (Nat.le_of_ble_eq_true rfl) (Nat.le_of_ble_eq_true rfl) (Nat.le_of_ble_eq_true rfl) dX1_init_110 rfl (kc2 := 22) (ks2 := 1009) rfl rfl ?_
  refine k_aast (pc := 113) hC (kk := 14) (t0 := 3) (ci := 6) rfl (by decide) rfl (by decide) kk_19 (by decide) kk_20 (by decide) (by decide +kernel) dX1_init_113 rfl ?_
  show jK _ _ _ _ _ _ _ _ _ (jst _ _ 0 _)
  refine k_iinc (y := 1) (ls2 := [jA 3, jI 1]) (pc := 114) hC dX1_init_114 rfl (by decide) rfl (by decide) rfl ?_
  refine k_goto (tgt := 95) (pc := 117) hC dX1_init_117 (by decide) ?_
  refine k_iload_n (pc := 95) hC dX1_init_95 rfl rfl ?_
  refine k_bipush (pc := 96) hC dX1_init_96 rfl ?_
  refine k_icmp_ge (tgt := 120) (pc := 98) hC dX1_init_98 (by decide) (fun hc => absurd hc (by decide)) (fun _ => ?_)
  refine k_aloadA_n (pc := 101) hC dX1_init_101 rfl rfl kk_3 (by decide) ?_
  refine k_gr (pc := 102) hC fl_X1_46 ft1_7 kk_3 (by decide) (b := 19) rfl dX1_init_102 ?_
  refine k_iload_n (pc := 105) hC dX1_init_105 rfl rfl ?_
  refine k_new (pc := 106) hC (ci := 6) (N := 8) (ty := tyX6) rfl inX6 tyX6_ok nw_X1_44.1 nw_X1_44.2.1 nw_X1_44.2.2 dv_6 (a := 26) (by decide) kk_26 (by decide) ll_26 (Nat.le_of_ble_eq_true rfl) (Nat.le_of_ble_eq_true rfl) dX1_init_106 (kc2 := 23) (ks2 := 1017) rfl rfl ?_
  refine k_dup (pc := 109) hC dX1_init_109 (show (2 : Nat) ≠ 3 by decide) ?_
  refine k_ctor (pc := 110) hC mi_X1_59 (ok_X6_init_26) (by decide) rfl (Nat.le_of_ble_eq_true rfl) (Nat.le_of_ble_eq_true rfl) (Nat.le_of_ble_eq_true rfl) (Nat.le_of_ble_eq_true rfl) dX1_init_110 rfl (kc2 := 28) (ks2 := 1224) rfl rfl ?_
  refine k_aast (pc := 113) hC (kk := 14) (t0 := 3) (ci := 6) rfl (by decide) rfl (by decide) kk_19 (by decide) kk_26 (by decide) (by decide +kernel) dX1_init_113 rfl ?_
  show jK _ _ _ _ _ _ _ _ _ (jst _ _ 1 _)
  refine k_iinc (y := 2) (ls2 := [jA 3, jI 2]) (pc := 114) hC dX1_init_114 rfl (by decide) rfl (by decide) rfl ?_
  refine k_goto (tgt := 95) (pc := 117) hC dX1_init_117 (by decide) ?_
  refine k_iload_n (pc := 95) hC dX1_init_95 rfl rfl ?_
  refine k_bipush (pc := 96) hC dX1_init_96 rfl ?_
  refine k_icmp_ge (tgt := 120) (pc := 98) hC dX1_init_98 (by decide) (fun hc => absurd hc (by decide)) (fun _ => ?_)
  refine k_aloadA_n (pc := 101) hC dX1_init_101 rfl rfl kk_3 (by decide) ?_
  refine k_gr (pc := 102) hC fl_X1_46 ft1_7 kk_3 (by decide) (b := 19) rfl dX1_init_102 ?_
  refine k_iload_n (pc := 105) hC dX1_init_105 rfl rfl ?_
  refine k_new (pc := 106) hC (ci := 6) (N := 8) (ty := tyX6) rfl inX6 tyX6_ok nw_X1_44.1 nw_X1_44.2.1 nw_X1_44.2.2 dv_6 (a := 32) (by decide) kk_32 (by decide) ll_32 (Nat.le_of_ble_eq_true rfl) (Nat.le_of_ble_eq_true rfl) dX1_init_106 (kc2 := 29) (ks2 := 1232) rfl rfl ?_
  refine k_dup (pc := 109) hC dX1_init_109 (show (2 : Nat) ≠ 3 by decide) ?_
  refine k_ctor (pc := 110) hC mi_X1_59 (ok_X6_init_32) (by decide) rfl (Nat.le_of_ble_eq_true rfl) (Nat.le_of_ble_eq_true rfl) (Nat.le_of_ble_eq_true rfl) (Nat.le_of_ble_eq_true rfl) dX1_init_110 rfl (kc2 := 34) (ks2 := 1439) rfl rfl ?_
  refine k_aast (pc := 113) hC (kk := 14) (t0 := 3) (ci := 6) rfl (by decide) rfl (by decide) kk_19 (by decide) kk_32 (by decide) (by decide +kernel) dX1_init_113 rfl ?_
  show jK _ _ _ _ _ _ _ _ _ (jst _ _ 2 _)
  refine k_iinc (y := 3) (ls2 := [jA 3, jI 3]) (pc := 114) hC dX1_init_114 rfl (by decide) rfl (by decide) rfl ?_
  refine k_goto (tgt := 95) (pc := 117) hC dX1_init_117 (by decide) ?_
  refine k_iload_n (pc := 95) hC dX1_init_95 rfl rfl ?_
  refine k_bipush (pc := 96) hC dX1_init_96 rfl ?_
  refine k_icmp_ge (tgt := 120) (pc := 98) hC dX1_init_98 (by decide) (fun hc => absurd hc (by decide)) (fun _ => ?_)
  refine k_aloadA_n (pc := 101) hC dX1_init_101 rfl rfl kk_3 (by decide) ?_
  refine k_gr (pc := 102) hC fl_X1_46 ft1_7 kk_3 (by decide) (b := 19) rfl dX1_init_102 ?_
  refine k_iload_n (pc := 105) hC dX1_init_105 rfl rfl ?_
  refine k_new (pc := 106) hC (ci := 6) (N := 8) (ty := tyX6) rfl inX6 tyX6_ok nw_X1_44.1 nw_X1_44.2.1 nw_X1_44.2.2 dv_6 (a := 38) (by decide) kk_38 (by decide) ll_38 (Nat.le_of_ble_eq_true rfl) (Nat.le_of_ble_eq_true rfl) dX1_init_106 (kc2 := 35) (ks2 := 1447) rfl rfl ?_
  refine k_dup (pc := 109) hC dX1_init_109 (show (2 : Nat) ≠ 3 by decide) ?_
  refine k_ctor (pc := 110) hC mi_X1_59 (ok_X6_init_38) (by decide) rfl (Nat.le_of_ble_eq_true rfl) (Nat.le_of_ble_eq_true rfl) (Nat.le_of_ble_eq_true rfl) (Nat.le_of_ble_eq_true rfl) dX1_init_110 rfl (kc2 := 40) (ks2 := 1654) rfl rfl ?_
  refine k_aast (pc := 113) hC (kk := 14) (t0 := 3) (ci := 6) rfl (by decide) rfl (by decide) kk_19 (by decide) kk_38 (by decide) (by decide +kernel) dX1_init_113 rfl ?_
  show jK _ _ _ _ _ _ _ _ _ (jst _ _ 3 _)
  refine k_iinc (y := 4) (ls2 := [jA 3, jI 4]) (pc := 114) hC dX1_init_114 rfl (by decide) rfl (by decide) rfl ?_
  refine k_goto (tgt := 95) (pc := 117) hC dX1_init_117 (by decide) ?_
  refine k_iload_n (pc := 95) hC dX1_init_95 rfl rfl ?_
  refine k_bipush (pc := 96) hC dX1_init_96 rfl ?_
  refine k_icmp_ge (tgt := 120) (pc := 98) hC dX1_init_98 (by decide) (fun hc => absurd hc (by decide)) (fun _ => ?_)
  refine k_aloadA_n (pc := 101) hC dX1_init_101 rfl rfl kk_3 (by decide) ?_
  refine k_gr (pc := 102) hC fl_X1_46 ft1_7 kk_3 (by decide) (b := 19) rfl dX1_init_102 ?_
  refine k_iload_n (pc := 105) hC dX1_init_105 rfl rfl ?_
  refine k_new (pc := 106) hC (ci := 6) (N := 8) (ty := tyX6) rfl inX6 tyX6_ok nw_X1_44.1 nw_X1_44.2.1 nw_X1_44.2.2 dv_6 (a := 44) (by decide) kk_44 (by decide) ll_44 (Nat.le_of_ble_eq_true rfl) (Nat.le_of_ble_eq_true rfl) dX1_init_106 (kc2 := 41) (ks2 := 1662) rfl rfl ?_
  refine k_dup (pc := 109) hC dX1_init_109 (show (2 : Nat) ≠ 3 by decide) ?_
  refine k_ctor (pc := 110) hC mi_X1_59 (ok_X6_init_44) (by decide) rfl (Nat.le_of_ble_eq_true rfl) (Nat.le_of_ble_eq_true rfl) (Nat.le_of_ble_eq_true rfl) (Nat.le_of_ble_eq_true rfl) dX1_init_110 rfl (kc2 := 46) (ks2 := 1869) rfl rfl ?_
  refine k_aast (pc := 113) hC (kk := 14) (t0 := 3) (ci := 6) rfl (by decide) rfl (by decide) kk_19 (by decide) kk_44 (by decide) (by decide +kernel) dX1_init_113 rfl ?_
  show jK _ _ _ _ _ _ _ _ _ (jst _ _ 4 _)
  refine k_iinc (y := 5) (ls2 := [jA 3, jI 5]) (pc := 114) hC dX1_init_114 rfl (by decide) rfl (by decide) rfl ?_
  refine k_goto (tgt := 95) (pc := 117) hC dX1_init_117 (by decide) ?_
  refine k_iload_n (pc := 95) hC dX1_init_95 rfl rfl ?_
  refine k_bipush (pc := 96) hC dX1_init_96 rfl ?_
  refine k_icmp_ge (tgt := 120) (pc := 98) hC dX1_init_98 (by decide) (fun hc => absurd hc (by decide)) (fun _ => ?_)
  refine k_aloadA_n (pc := 101) hC dX1_init_101 rfl rfl kk_3 (by decide) ?_
  refine k_gr (pc := 102) hC fl_X1_46 ft1_7 kk_3 (by decide) (b := 19) rfl dX1_init_102 ?_
  refine k_iload_n (pc := 105) hC dX1_init_105 rfl rfl ?_
  refine k_new (pc := 106) hC (ci := 6) (N := 8) (ty := tyX6) rfl inX6 tyX6_ok nw_X1_44.1 nw_X1_44.2.1 nw_X1_44.2.2 dv_6 (a := 50) (by decide) kk_50 (by decide) ll_50 (Nat.le_of_ble_eq_true rfl) (Nat.le_of_ble_eq_true rfl) dX1_init_106 (kc2 := 47) (ks2 := 1877) rfl rfl ?_
  refine k_dup (pc := 109) hC dX1_init_109 (show (2 : Nat) ≠ 3 by decide) ?_
  refine k_ctor (pc := 110) hC mi_X1_59 (ok_X6_init_50) (by decide) rfl (Nat.le_of_ble_eq_true rfl) (Nat.le_of_ble_eq_true rfl) (Nat.le_of_ble_eq_true rfl) (Nat.le_of_ble_eq_true rfl) dX1_init_110 rfl (kc2 := 52) (ks2 := 2084) rfl rfl ?_
  refine k_aast (pc := 113) hC (kk := 14) (t0 := 3) (ci := 6) rfl (by decide) rfl (by decide) kk_19 (by decide) kk_50 (by decide) (by decide +kernel) dX1_init_113 rfl ?_
  show jK _ _ _ _ _ _ _ _ _ (jst _ _ 5 _)
  refine k_iinc (y := 6) (ls2 := [jA 3, jI 6]) (pc := 114) hC dX1_init_114 rfl (by decide) rfl (by decide) rfl ?_
  refine k_goto (tgt := 95) (pc := 117) hC dX1_init_117 (by decide) ?_
  refine k_iload_n (pc := 95) hC dX1_init_95 rfl rfl ?_
  refine k_bipush (pc := 96) hC dX1_init_96 rfl ?_
  refine k_icmp_ge (tgt := 120) (pc := 98) hC dX1_init_98 (by decide) (fun _ => ?_) (fun hc => absurd (by decide) hc)
  exact k_vret (pc := 120) hC hR dX1_init_120 rfl rfl rfl
set_option maxHeartbeats 4000000 in
set_option maxRecDepth 20000 in
theorem ok_X2_init_58 {X : jX} {M : jM} : jCc X 58 yX2_init cX2_init 2 1 2 70 [jA 58, jI 10] M (c_X2_init_58 M) := by
  refine jCc_of (own := RX2) (ls := [jA 58, jI 10]) (by decide +kernel) rfl rfl (Nat.le_of_ble_eq_true rfl) rfl ?_
  intro C hC hI hR
  refine k_aloadA_n (pc := 0) hC dX2_init_0 rfl rfl kk_58 (by decide) ?_
  refine k_oinit (pc := 1) hC oi_X2 (by decide) (Nat.le_of_ble_eq_true rfl) (Nat.le_of_ble_eq_true rfl) dX2_init_1 ?_
  refine k_aloadA_n (pc := 4) hC dX2_init_4 rfl rfl kk_58 (by decide) ?_
  refine k_iconst (pc := 5) hC dX2_init_5 ?_
  refine k_pi (pc := 6) (ji := 3) hC fl_X2_9 rfl ft2_3 kk_58 (by decide) dX2_init_6 rfl ?_
  refine k_aloadA_n (pc := 9) hC dX2_init_9 rfl rfl kk_58 (by decide) ?_
  refine k_iload_n (pc := 10) hC dX2_init_10 rfl rfl ?_
  refine k_pfi (pc := 11) (ji := 0) hC hI fd_X2_15 fl_X2_15 rfl ft2_0 kk_58 (by decide) dX2_init_11 rfl ?_
  refine k_aloadA_n (pc := 14) hC dX2_init_14 rfl rfl kk_58 (by decide) ?_
  refine k_iload_n (pc := 15) hC dX2_init_15 rfl rfl ?_
  refine k_bipush (pc := 16) hC dX2_init_16 rfl ?_
  refine k_imul (pc := 18) hC dX2_init_18 ?_
  show jK _ _ _ _ _ _ _ _ (jI 60 :: _) _
  refine k_newI (pc := 19) hC aw_int (a := 59) (N := 60) (by decide) kk_59 ll_59 (by decide) (by decide) (by decide) (Nat.le_of_ble_eq_true rfl) (Nat.le_of_ble_eq_true rfl) dX2_init_19 (kc2 := 1) (ks2 := 60) rfl rfl ?_
  refine k_pf (pc := 21) (ji := 1) hC hI fd_X2_18 fl_X2_18 rfl ft2_1 (by decide) kk_58 (by decide) dX2_init_21 rfl ?_
  refine k_aloadA_n (pc := 24) hC dX2_init_24 rfl rfl kk_58 (by decide) ?_
  refine k_iload_n (pc := 25) hC dX2_init_25 rfl rfl ?_
  refine k_newI (pc := 26) hC aw_int (a := 60) (N := 10) (by decide) kk_60 ll_60 (by decide) (by decide) (by decide) (Nat.le_of_ble_eq_true rfl) (Nat.le_of_ble_eq_true rfl) dX2_init_26 (kc2 := 2) (ks2 := 70) rfl rfl ?_
  refine k_pf (pc := 28) (ji := 2) hC hI fd_X2_22 fl_X2_22 rfl ft2_2 (by decide) kk_58 (by decide) dX2_init_28 rfl ?_
  exact k_vret (pc := 31) hC hR dX2_init_31 rfl rfl rfl
set_option maxHeartbeats 4000000 in
set_option maxRecDepth 20000 in
theorem ok_X5_init_63 {X : jX} {M : jM} : jCc X 63 yX5_init cX5_init 1 1 5 634 [jA 63] M (c_X5_init_63 M) := by
  refine jCc_of (own := RX5) (ls := [jA 63]) (by decide +kernel) rfl rfl (Nat.le_of_ble_eq_true rfl) rfl ?_
  intro C hC hI hR
  refine k_aloadA_n (pc := 0) hC dX5_init_0 rfl rfl kk_63 (by decide) ?_
  refine k_oinit (pc := 1) hC oi_X5 (by decide) (Nat.le_of_ble_eq_true rfl) (Nat.le_of_ble_eq_true rfl) dX5_init_1 ?_
  refine k_aloadA_n (pc := 4) hC dX5_init_4 rfl rfl kk_63 (by decide) ?_
  refine k_iconst (pc := 5) hC dX5_init_5 ?_
  refine k_pi (pc := 6) (ji := 0) hC fl_X5_9 rfl ft5_0 kk_63 (by decide) dX5_init_6 rfl ?_
  refine k_aloadA_n (pc := 9) hC dX5_init_9 rfl rfl kk_63 (by decide) ?_
  refine k_iconst (pc := 10) hC dX5_init_10 ?_
  refine k_pi (pc := 11) (ji := 1) hC fl_X5_15 rfl ft5_1 kk_63 (by decide) dX5_init_11 rfl ?_
  refine k_aloadA_n (pc := 14) hC dX5_init_14 rfl rfl kk_63 (by decide) ?_
  refine k_sipush (pc := 15) hC dX5_init_15 rfl ?_
  refine k_newI (pc := 18) hC aw_int (a := 64) (N := 600) (by decide) kk_64 ll_64 (by decide) (by decide) (by decide) (Nat.le_of_ble_eq_true rfl) (Nat.le_of_ble_eq_true rfl) dX5_init_18 (kc2 := 1) (ks2 := 600) rfl rfl ?_
  refine k_pf (pc := 20) (ji := 2) hC hI fd_X5_18 fl_X5_18 rfl ft5_2 (by decide) kk_63 (by decide) dX5_init_20 rfl ?_
  refine k_aloadA_n (pc := 23) hC dX5_init_23 rfl rfl kk_63 (by decide) ?_
  refine k_bipush (pc := 24) hC dX5_init_24 rfl ?_
  refine k_newI (pc := 26) hC aw_int (a := 65) (N := 6) (by decide) kk_65 ll_65 (by decide) (by decide) (by decide) (Nat.le_of_ble_eq_true rfl) (Nat.le_of_ble_eq_true rfl) dX5_init_26 (kc2 := 2) (ks2 := 606) rfl rfl ?_
  refine k_pf (pc := 28) (ji := 3) hC hI fd_X5_22 fl_X5_22 rfl ft5_3 (by decide) kk_63 (by decide) dX5_init_28 rfl ?_
  refine k_aloadA_n (pc := 31) hC dX5_init_31 rfl rfl kk_63 (by decide) ?_
  refine k_bipush (pc := 32) hC dX5_init_32 rfl ?_
  refine k_newI (pc := 34) hC aw_int (a := 66) (N := 6) (by decide) kk_66 ll_66 (by decide) (by decide) (by decide) (Nat.le_of_ble_eq_true rfl) (Nat.le_of_ble_eq_true rfl) dX5_init_34 (kc2 := 3) (ks2 := 612) rfl rfl ?_
  refine k_pf (pc := 36) (ji := 4) hC hI fd_X5_25 fl_X5_25 rfl ft5_4 (by decide) kk_63 (by decide) dX5_init_36 rfl ?_
  refine k_aloadA_n (pc := 39) hC dX5_init_39 rfl rfl kk_63 (by decide) ?_
  refine k_bipush (pc := 40) hC dX5_init_40 rfl ?_
  refine k_newI (pc := 42) hC aw_int (a := 67) (N := 6) (by decide) kk_67 ll_67 (by decide) (by decide) (by decide) (Nat.le_of_ble_eq_true rfl) (Nat.le_of_ble_eq_true rfl) dX5_init_42 (kc2 := 4) (ks2 := 618) rfl rfl ?_
  refine k_pf (pc := 44) (ji := 5) hC hI fd_X5_28 fl_X5_28 rfl ft5_5 (by decide) kk_63 (by decide) dX5_init_44 rfl ?_
  refine k_aloadA_n (pc := 47) hC dX5_init_47 rfl rfl kk_63 (by decide) ?_
  refine k_bipush (pc := 48) hC dX5_init_48 rfl ?_
  refine k_newI (pc := 50) hC aw_int (a := 68) (N := 16) (by decide) kk_68 ll_68 (by decide) (by decide) (by decide) (Nat.le_of_ble_eq_true rfl) (Nat.le_of_ble_eq_true rfl) dX5_init_50 (kc2 := 5) (ks2 := 634) rfl rfl ?_
  refine k_pf (pc := 52) (ji := 6) hC hI fd_X5_31 fl_X5_31 rfl ft5_6 (by decide) kk_63 (by decide) dX5_init_52 rfl ?_
  exact k_vret (pc := 55) hC hR dX5_init_55 rfl rfl rfl
set_option maxHeartbeats 4000000 in
set_option maxRecDepth 20000 in
theorem ok_X2_init_69 {X : jX} {M : jM} : jCc X 69 yX2_init cX2_init 2 1 2 42 [jA 69, jI 6] M (c_X2_init_69 M) := by
  refine jCc_of (own := RX2) (ls := [jA 69, jI 6]) (by decide +kernel) rfl rfl (Nat.le_of_ble_eq_true rfl) rfl ?_
  intro C hC hI hR
  refine k_aloadA_n (pc := 0) hC dX2_init_0 rfl rfl kk_69 (by decide) ?_
  refine k_oinit (pc := 1) hC oi_X2 (by decide) (Nat.le_of_ble_eq_true rfl) (Nat.le_of_ble_eq_true rfl) dX2_init_1 ?_
  refine k_aloadA_n (pc := 4) hC dX2_init_4 rfl rfl kk_69 (by decide) ?_
  refine k_iconst (pc := 5) hC dX2_init_5 ?_
  refine k_pi (pc := 6) (ji := 3) hC fl_X2_9 rfl ft2_3 kk_69 (by decide) dX2_init_6 rfl ?_
  refine k_aloadA_n (pc := 9) hC dX2_init_9 rfl rfl kk_69 (by decide) ?_
  refine k_iload_n (pc := 10) hC dX2_init_10 rfl rfl ?_
  refine k_pfi (pc := 11) (ji := 0) hC hI fd_X2_15 fl_X2_15 rfl ft2_0 kk_69 (by decide) dX2_init_11 rfl ?_
  refine k_aloadA_n (pc := 14) hC dX2_init_14 rfl rfl kk_69 (by decide) ?_
  refine k_iload_n (pc := 15) hC dX2_init_15 rfl rfl ?_
  refine k_bipush (pc := 16) hC dX2_init_16 rfl ?_
  refine k_imul (pc := 18) hC dX2_init_18 ?_
  show jK _ _ _ _ _ _ _ _ (jI 36 :: _) _
  refine k_newI (pc := 19) hC aw_int (a := 70) (N := 36) (by decide) kk_70 ll_70 (by decide) (by decide) (by decide) (Nat.le_of_ble_eq_true rfl) (Nat.le_of_ble_eq_true rfl) dX2_init_19 (kc2 := 1) (ks2 := 36) rfl rfl ?_
  refine k_pf (pc := 21) (ji := 1) hC hI fd_X2_18 fl_X2_18 rfl ft2_1 (by decide) kk_69 (by decide) dX2_init_21 rfl ?_
  refine k_aloadA_n (pc := 24) hC dX2_init_24 rfl rfl kk_69 (by decide) ?_
  refine k_iload_n (pc := 25) hC dX2_init_25 rfl rfl ?_
  refine k_newI (pc := 26) hC aw_int (a := 71) (N := 6) (by decide) kk_71 ll_71 (by decide) (by decide) (by decide) (Nat.le_of_ble_eq_true rfl) (Nat.le_of_ble_eq_true rfl) dX2_init_26 (kc2 := 2) (ks2 := 42) rfl rfl ?_
  refine k_pf (pc := 28) (ji := 2) hC hI fd_X2_22 fl_X2_22 rfl ft2_2 (by decide) kk_69 (by decide) dX2_init_28 rfl ?_
  exact k_vret (pc := 31) hC hR dX2_init_31 rfl rfl rfl
set_option maxHeartbeats 4000000 in
set_option maxRecDepth 20000 in
theorem ok_X6_init_73 {X : jX} {M : jM} : jCc X 73 yX6_init cX6_init 1 1 5 207 [jA 73] M (c_X6_init_73 M) := by
  refine jCc_of (own := RX6) (ls := [jA 73]) (by decide +kernel) rfl rfl (Nat.le_of_ble_eq_true rfl) rfl ?_
  intro C hC hI hR
  refine k_aloadA_n (pc := 0) hC dX6_init_0 rfl rfl kk_73 (by decide) ?_
  refine k_oinit (pc := 1) hC oi_X6 (by decide) (Nat.le_of_ble_eq_true rfl) (Nat.le_of_ble_eq_true rfl) dX6_init_1 ?_
  refine k_aloadA_n (pc := 4) hC dX6_init_4 rfl rfl kk_73 (by decide) ?_
  refine k_iconst (pc := 5) hC dX6_init_5 ?_
  refine k_pi (pc := 6) (ji := 0) hC fl_X6_9 rfl ft6_0 kk_73 (by decide) dX6_init_6 rfl ?_
  refine k_aloadA_n (pc := 9) hC dX6_init_9 rfl rfl kk_73 (by decide) ?_
  refine k_iconst (pc := 10) hC dX6_init_10 ?_
  refine k_pi (pc := 11) (ji := 1) hC fl_X6_15 rfl ft6_1 kk_73 (by decide) dX6_init_11 rfl ?_
  refine k_aloadA_n (pc := 14) hC dX6_init_14 rfl rfl kk_73 (by decide) ?_
  refine k_iconst (pc := 15) hC dX6_init_15 ?_
  refine k_pi (pc := 16) (ji := 2) hC fl_X6_18 rfl ft6_2 kk_73 (by decide) dX6_init_16 rfl ?_
  refine k_aloadA_n (pc := 19) hC dX6_init_19 rfl rfl kk_73 (by decide) ?_
  refine k_bipush (pc := 20) hC dX6_init_20 rfl ?_
  refine k_newI (pc := 22) hC aw_int (a := 74) (N := 12) (by decide) kk_74 ll_74 (by decide) (by decide) (by decide) (Nat.le_of_ble_eq_true rfl) (Nat.le_of_ble_eq_true rfl) dX6_init_22 (kc2 := 1) (ks2 := 12) rfl rfl ?_
  refine k_pf (pc := 24) (ji := 3) hC hI fd_X6_21 fl_X6_21 rfl ft6_3 (by decide) kk_73 (by decide) dX6_init_24 rfl ?_
  refine k_aloadA_n (pc := 27) hC dX6_init_27 rfl rfl kk_73 (by decide) ?_
  refine k_bipush (pc := 28) hC dX6_init_28 rfl ?_
  refine k_newI (pc := 30) hC aw_int (a := 75) (N := 12) (by decide) kk_75 ll_75 (by decide) (by decide) (by decide) (Nat.le_of_ble_eq_true rfl) (Nat.le_of_ble_eq_true rfl) dX6_init_30 (kc2 := 2) (ks2 := 24) rfl rfl ?_
  refine k_pf (pc := 32) (ji := 4) hC hI fd_X6_25 fl_X6_25 rfl ft6_4 (by decide) kk_73 (by decide) dX6_init_32 rfl ?_
  refine k_aloadA_n (pc := 35) hC dX6_init_35 rfl rfl kk_73 (by decide) ?_
  refine k_bipush (pc := 36) hC dX6_init_36 rfl ?_
  refine k_newI (pc := 38) hC aw_int (a := 76) (N := 36) (by decide) kk_76 ll_76 (by decide) (by decide) (by decide) (Nat.le_of_ble_eq_true rfl) (Nat.le_of_ble_eq_true rfl) dX6_init_38 (kc2 := 3) (ks2 := 60) rfl rfl ?_
  refine k_pf (pc := 40) (ji := 5) hC hI fd_X6_28 fl_X6_28 rfl ft6_5 (by decide) kk_73 (by decide) dX6_init_40 rfl ?_
  refine k_aloadA_n (pc := 43) hC dX6_init_43 rfl rfl kk_73 (by decide) ?_
  refine k_bipush (pc := 44) hC dX6_init_44 rfl ?_
  refine k_newI (pc := 46) hC aw_int (a := 77) (N := 12) (by decide) kk_77 ll_77 (by decide) (by decide) (by decide) (Nat.le_of_ble_eq_true rfl) (Nat.le_of_ble_eq_true rfl) dX6_init_46 (kc2 := 4) (ks2 := 72) rfl rfl ?_
  refine k_pf (pc := 48) (ji := 6) hC hI fd_X6_31 fl_X6_31 rfl ft6_6 (by decide) kk_73 (by decide) dX6_init_48 rfl ?_
  refine k_aloadA_n (pc := 51) hC dX6_init_51 rfl rfl kk_73 (by decide) ?_
  refine k_sipush (pc := 52) hC dX6_init_52 rfl ?_
  refine k_newI (pc := 55) hC aw_int (a := 78) (N := 135) (by decide) kk_78 ll_78 (by decide) (by decide) (by decide) (Nat.le_of_ble_eq_true rfl) (Nat.le_of_ble_eq_true rfl) dX6_init_55 (kc2 := 5) (ks2 := 207) rfl rfl ?_
  refine k_pf (pc := 57) (ji := 7) hC hI fd_X6_34 fl_X6_34 rfl ft6_7 (by decide) kk_73 (by decide) dX6_init_57 rfl ?_
  exact k_vret (pc := 60) hC hR dX6_init_60 rfl rfl rfl
set_option maxHeartbeats 4000000 in
set_option maxRecDepth 20000 in
theorem ok_X6_init_79 {X : jX} {M : jM} : jCc X 79 yX6_init cX6_init 1 1 5 207 [jA 79] M (c_X6_init_79 M) := by
  refine jCc_of (own := RX6) (ls := [jA 79]) (by decide +kernel) rfl rfl (Nat.le_of_ble_eq_true rfl) rfl ?_
  intro C hC hI hR
  refine k_aloadA_n (pc := 0) hC dX6_init_0 rfl rfl kk_79 (by decide) ?_
  refine k_oinit (pc := 1) hC oi_X6 (by decide) (Nat.le_of_ble_eq_true rfl) (Nat.le_of_ble_eq_true rfl) dX6_init_1 ?_
  refine k_aloadA_n (pc := 4) hC dX6_init_4 rfl rfl kk_79 (by decide) ?_
  refine k_iconst (pc := 5) hC dX6_init_5 ?_
  refine k_pi (pc := 6) (ji := 0) hC fl_X6_9 rfl ft6_0 kk_79 (by decide) dX6_init_6 rfl ?_
  refine k_aloadA_n (pc := 9) hC dX6_init_9 rfl rfl kk_79 (by decide) ?_
  refine k_iconst (pc := 10) hC dX6_init_10 ?_
  refine k_pi (pc := 11) (ji := 1) hC fl_X6_15 rfl ft6_1 kk_79 (by decide) dX6_init_11 rfl ?_
  refine k_aloadA_n (pc := 14) hC dX6_init_14 rfl rfl kk_79 (by decide) ?_
  refine k_iconst (pc := 15) hC dX6_init_15 ?_
  refine k_pi (pc := 16) (ji := 2) hC fl_X6_18 rfl ft6_2 kk_79 (by decide) dX6_init_16 rfl ?_
  refine k_aloadA_n (pc := 19) hC dX6_init_19 rfl rfl kk_79 (by decide) ?_
  refine k_bipush (pc := 20) hC dX6_init_20 rfl ?_
  refine k_newI (pc := 22) hC aw_int (a := 80) (N := 12) (by decide) kk_80 ll_80 (by decide) (by decide) (by decide) (Nat.le_of_ble_eq_true rfl) (Nat.le_of_ble_eq_true rfl) dX6_init_22 (kc2 := 1) (ks2 := 12) rfl rfl ?_
  refine k_pf (pc := 24) (ji := 3) hC hI fd_X6_21 fl_X6_21 rfl ft6_3 (by decide) kk_79 (by decide) dX6_init_24 rfl ?_
  refine k_aloadA_n (pc := 27) hC dX6_init_27 rfl rfl kk_79 (by decide) ?_
  refine k_bipush (pc := 28) hC dX6_init_28 rfl ?_
  refine k_newI (pc := 30) hC aw_int (a := 81) (N := 12) (by decide) kk_81 ll_81 (by decide) (by decide) (by decide) (Nat.le_of_ble_eq_true rfl) (Nat.le_of_ble_eq_true rfl) dX6_init_30 (kc2 := 2) (ks2 := 24) rfl rfl ?_
  refine k_pf (pc := 32) (ji := 4) hC hI fd_X6_25 fl_X6_25 rfl ft6_4 (by decide) kk_79 (by decide) dX6_init_32 rfl ?_
  refine k_aloadA_n (pc := 35) hC dX6_init_35 rfl rfl kk_79 (by decide) ?_
  refine k_bipush (pc := 36) hC dX6_init_36 rfl ?_
  refine k_newI (pc := 38) hC aw_int (a := 82) (N := 36) (by decide) kk_82 ll_82 (by decide) (by decide) (by decide) (Nat.le_of_ble_eq_true rfl) (Nat.le_of_ble_eq_true rfl) dX6_init_38 (kc2 := 3) (ks2 := 60) rfl rfl ?_
  refine k_pf (pc := 40) (ji := 5) hC hI fd_X6_28 fl_X6_28 rfl ft6_5 (by decide) kk_79 (by decide) dX6_init_40 rfl ?_
  refine k_aloadA_n (pc := 43) hC dX6_init_43 rfl rfl kk_79 (by decide) ?_
  refine k_bipush (pc := 44) hC dX6_init_44 rfl ?_
  refine k_newI (pc := 46) hC aw_int (a := 83) (N := 12) (by decide) kk_83 ll_83 (by decide) (by decide) (by decide) (Nat.le_of_ble_eq_true rfl) (Nat.le_of_ble_eq_true rfl) dX6_init_46 (kc2 := 4) (ks2 := 72) rfl rfl ?_
  refine k_pf (pc := 48) (ji := 6) hC hI fd_X6_31 fl_X6_31 rfl ft6_6 (by decide) kk_79 (by decide) dX6_init_48 rfl ?_
  refine k_aloadA_n (pc := 51) hC dX6_init_51 rfl rfl kk_79 (by decide) ?_
  refine k_sipush (pc := 52) hC dX6_init_52 rfl ?_
  refine k_newI (pc := 55) hC aw_int (a := 84) (N := 135) (by decide) kk_84 ll_84 (by decide) (by decide) (by decide) (Nat.le_of_ble_eq_true rfl) (Nat.le_of_ble_eq_true rfl) dX6_init_55 (kc2 := 5) (ks2 := 207) rfl rfl ?_
  refine k_pf (pc := 57) (ji := 7) hC hI fd_X6_34 fl_X6_34 rfl ft6_7 (by decide) kk_79 (by decide) dX6_init_57 rfl ?_
  exact k_vret (pc := 60) hC hR dX6_init_60 rfl rfl rfl
set_option maxHeartbeats 4000000 in
set_option maxRecDepth 20000 in
theorem ok_X6_init_85 {X : jX} {M : jM} : jCc X 85 yX6_init cX6_init 1 1 5 207 [jA 85] M (c_X6_init_85 M) := by
  refine jCc_of (own := RX6) (ls := [jA 85]) (by decide +kernel) rfl rfl (Nat.le_of_ble_eq_true rfl) rfl ?_
  intro C hC hI hR
  refine k_aloadA_n (pc := 0) hC dX6_init_0 rfl rfl kk_85 (by decide) ?_
  refine k_oinit (pc := 1) hC oi_X6 (by decide) (Nat.le_of_ble_eq_true rfl) (Nat.le_of_ble_eq_true rfl) dX6_init_1 ?_
  refine k_aloadA_n (pc := 4) hC dX6_init_4 rfl rfl kk_85 (by decide) ?_
  refine k_iconst (pc := 5) hC dX6_init_5 ?_
  refine k_pi (pc := 6) (ji := 0) hC fl_X6_9 rfl ft6_0 kk_85 (by decide) dX6_init_6 rfl ?_
  refine k_aloadA_n (pc := 9) hC dX6_init_9 rfl rfl kk_85 (by decide) ?_
  refine k_iconst (pc := 10) hC dX6_init_10 ?_
  refine k_pi (pc := 11) (ji := 1) hC fl_X6_15 rfl ft6_1 kk_85 (by decide) dX6_init_11 rfl ?_
  refine k_aloadA_n (pc := 14) hC dX6_init_14 rfl rfl kk_85 (by decide) ?_
  refine k_iconst (pc := 15) hC dX6_init_15 ?_
  refine k_pi (pc := 16) (ji := 2) hC fl_X6_18 rfl ft6_2 kk_85 (by decide) dX6_init_16 rfl ?_
  refine k_aloadA_n (pc := 19) hC dX6_init_19 rfl rfl kk_85 (by decide) ?_
  refine k_bipush (pc := 20) hC dX6_init_20 rfl ?_
  refine k_newI (pc := 22) hC aw_int (a := 86) (N := 12) (by decide) kk_86 ll_86 (by decide) (by decide) (by decide) (Nat.le_of_ble_eq_true rfl) (Nat.le_of_ble_eq_true rfl) dX6_init_22 (kc2 := 1) (ks2 := 12) rfl rfl ?_
  refine k_pf (pc := 24) (ji := 3) hC hI fd_X6_21 fl_X6_21 rfl ft6_3 (by decide) kk_85 (by decide) dX6_init_24 rfl ?_
  refine k_aloadA_n (pc := 27) hC dX6_init_27 rfl rfl kk_85 (by decide) ?_
  refine k_bipush (pc := 28) hC dX6_init_28 rfl ?_
  refine k_newI (pc := 30) hC aw_int (a := 87) (N := 12) (by decide) kk_87 ll_87 (by decide) (by decide) (by decide) (Nat.le_of_ble_eq_true rfl) (Nat.le_of_ble_eq_true rfl) dX6_init_30 (kc2 := 2) (ks2 := 24) rfl rfl ?_
  refine k_pf (pc := 32) (ji := 4) hC hI fd_X6_25 fl_X6_25 rfl ft6_4 (by decide) kk_85 (by decide) dX6_init_32 rfl ?_
  refine k_aloadA_n (pc := 35) hC dX6_init_35 rfl rfl kk_85 (by decide) ?_
  refine k_bipush (pc := 36) hC dX6_init_36 rfl ?_
  refine k_newI (pc := 38) hC aw_int (a := 88) (N := 36) (by decide) kk_88 ll_88 (by decide) (by decide) (by decide) (Nat.le_of_ble_eq_true rfl) (Nat.le_of_ble_eq_true rfl) dX6_init_38 (kc2 := 3) (ks2 := 60) rfl rfl ?_
  refine k_pf (pc := 40) (ji := 5) hC hI fd_X6_28 fl_X6_28 rfl ft6_5 (by decide) kk_85 (by decide) dX6_init_40 rfl ?_
  refine k_aloadA_n (pc := 43) hC dX6_init_43 rfl rfl kk_85 (by decide) ?_
  refine k_bipush (pc := 44) hC dX6_init_44 rfl ?_
  refine k_newI (pc := 46) hC aw_int (a := 89) (N := 12) (by decide) kk_89 ll_89 (by decide) (by decide) (by decide) (Nat.le_of_ble_eq_true rfl) (Nat.le_of_ble_eq_true rfl) dX6_init_46 (kc2 := 4) (ks2 := 72) rfl rfl ?_
  refine k_pf (pc := 48) (ji := 6) hC hI fd_X6_31 fl_X6_31 rfl ft6_6 (by decide) kk_85 (by decide) dX6_init_48 rfl ?_
  refine k_aloadA_n (pc := 51) hC dX6_init_51 rfl rfl kk_85 (by decide) ?_
  refine k_sipush (pc := 52) hC dX6_init_52 rfl ?_
  refine k_newI (pc := 55) hC aw_int (a := 90) (N := 135) (by decide) kk_90 ll_90 (by decide) (by decide) (by decide) (Nat.le_of_ble_eq_true rfl) (Nat.le_of_ble_eq_true rfl) dX6_init_55 (kc2 := 5) (ks2 := 207) rfl rfl ?_
  refine k_pf (pc := 57) (ji := 7) hC hI fd_X6_34 fl_X6_34 rfl ft6_7 (by decide) kk_85 (by decide) dX6_init_57 rfl ?_
  exact k_vret (pc := 60) hC hR dX6_init_60 rfl rfl rfl
set_option maxHeartbeats 4000000 in
set_option maxRecDepth 20000 in
theorem ok_X6_init_91 {X : jX} {M : jM} : jCc X 91 yX6_init cX6_init 1 1 5 207 [jA 91] M (c_X6_init_91 M) := by
  refine jCc_of (own := RX6) (ls := [jA 91]) (by decide +kernel) rfl rfl (Nat.le_of_ble_eq_true rfl) rfl ?_
  intro C hC hI hR
  refine k_aloadA_n (pc := 0) hC dX6_init_0 rfl rfl kk_91 (by decide) ?_
  refine k_oinit (pc := 1) hC oi_X6 (by decide) (Nat.le_of_ble_eq_true rfl) (Nat.le_of_ble_eq_true rfl) dX6_init_1 ?_
  refine k_aloadA_n (pc := 4) hC dX6_init_4 rfl rfl kk_91 (by decide) ?_
  refine k_iconst (pc := 5) hC dX6_init_5 ?_
  refine k_pi (pc := 6) (ji := 0) hC fl_X6_9 rfl ft6_0 kk_91 (by decide) dX6_init_6 rfl ?_
  refine k_aloadA_n (pc := 9) hC dX6_init_9 rfl rfl kk_91 (by decide) ?_
  refine k_iconst (pc := 10) hC dX6_init_10 ?_
  refine k_pi (pc := 11) (ji := 1) hC fl_X6_15 rfl ft6_1 kk_91 (by decide) dX6_init_11 rfl ?_
  refine k_aloadA_n (pc := 14) hC dX6_init_14 rfl rfl kk_91 (by decide) ?_
  refine k_iconst (pc := 15) hC dX6_init_15 ?_
  refine k_pi (pc := 16) (ji := 2) hC fl_X6_18 rfl ft6_2 kk_91 (by decide) dX6_init_16 rfl ?_
  refine k_aloadA_n (pc := 19) hC dX6_init_19 rfl rfl kk_91 (by decide) ?_
  refine k_bipush (pc := 20) hC dX6_init_20 rfl ?_
  refine k_newI (pc := 22) hC aw_int (a := 92) (N := 12) (by decide) kk_92 ll_92 (by decide) (by decide) (by decide) (Nat.le_of_ble_eq_true rfl) (Nat.le_of_ble_eq_true rfl) dX6_init_22 (kc2 := 1) (ks2 := 12) rfl rfl ?_
  refine k_pf (pc := 24) (ji := 3) hC hI fd_X6_21 fl_X6_21 rfl ft6_3 (by decide) kk_91 (by decide) dX6_init_24 rfl ?_
  refine k_aloadA_n (pc := 27) hC dX6_init_27 rfl rfl kk_91 (by decide) ?_
  refine k_bipush (pc := 28) hC dX6_init_28 rfl ?_
  refine k_newI (pc := 30) hC aw_int (a := 93) (N := 12) (by decide) kk_93 ll_93 (by decide) (by decide) (by decide) (Nat.le_of_ble_eq_true rfl) (Nat.le_of_ble_eq_true rfl) dX6_init_30 (kc2 := 2) (ks2 := 24) rfl rfl ?_
  refine k_pf (pc := 32) (ji := 4) hC hI fd_X6_25 fl_X6_25 rfl ft6_4 (by decide) kk_91 (by decide) dX6_init_32 rfl ?_
  refine k_aloadA_n (pc := 35) hC dX6_init_35 rfl rfl kk_91 (by decide) ?_
  refine k_bipush (pc := 36) hC dX6_init_36 rfl ?_
  refine k_newI (pc := 38) hC aw_int (a := 94) (N := 36) (by decide) kk_94 ll_94 (by decide) (by decide) (by decide) (Nat.le_of_ble_eq_true rfl) (Nat.le_of_ble_eq_true rfl) dX6_init_38 (kc2 := 3) (ks2 := 60) rfl rfl ?_
  refine k_pf (pc := 40) (ji := 5) hC hI fd_X6_28 fl_X6_28 rfl ft6_5 (by decide) kk_91 (by decide) dX6_init_40 rfl ?_
  refine k_aloadA_n (pc := 43) hC dX6_init_43 rfl rfl kk_91 (by decide) ?_
  refine k_bipush (pc := 44) hC dX6_init_44 rfl ?_
  refine k_newI (pc := 46) hC aw_int (a := 95) (N := 12) (by decide) kk_95 ll_95 (by decide) (by decide) (by decide) (Nat.le_of_ble_eq_true rfl) (Nat.le_of_ble_eq_true rfl) dX6_init_46 (kc2 := 4) (ks2 := 72) rfl rfl ?_
  refine k_pf (pc := 48) (ji := 6) hC hI fd_X6_31 fl_X6_31 rfl ft6_6 (by decide) kk_91 (by decide) dX6_init_48 rfl ?_
  refine k_aloadA_n (pc := 51) hC dX6_init_51 rfl rfl kk_91 (by decide) ?_
  refine k_sipush (pc := 52) hC dX6_init_52 rfl ?_
  refine k_newI (pc := 55) hC aw_int (a := 96) (N := 135) (by decide) kk_96 ll_96 (by decide) (by decide) (by decide) (Nat.le_of_ble_eq_true rfl) (Nat.le_of_ble_eq_true rfl) dX6_init_55 (kc2 := 5) (ks2 := 207) rfl rfl ?_
  refine k_pf (pc := 57) (ji := 7) hC hI fd_X6_34 fl_X6_34 rfl ft6_7 (by decide) kk_91 (by decide) dX6_init_57 rfl ?_
  exact k_vret (pc := 60) hC hR dX6_init_60 rfl rfl rfl
set_option maxHeartbeats 4000000 in
set_option maxRecDepth 20000 in
theorem ok_X6_init_97 {X : jX} {M : jM} : jCc X 97 yX6_init cX6_init 1 1 5 207 [jA 97] M (c_X6_init_97 M) := by
  refine jCc_of (own := RX6) (ls := [jA 97]) (by decide +kernel) rfl rfl (Nat.le_of_ble_eq_true rfl) rfl ?_
  intro C hC hI hR
  refine k_aloadA_n (pc := 0) hC dX6_init_0 rfl rfl kk_97 (by decide) ?_
  refine k_oinit (pc := 1) hC oi_X6 (by decide) (Nat.le_of_ble_eq_true rfl) (Nat.le_of_ble_eq_true rfl) dX6_init_1 ?_
  refine k_aloadA_n (pc := 4) hC dX6_init_4 rfl rfl kk_97 (by decide) ?_
  refine k_iconst (pc := 5) hC dX6_init_5 ?_
  refine k_pi (pc := 6) (ji := 0) hC fl_X6_9 rfl ft6_0 kk_97 (by decide) dX6_init_6 rfl ?_
  refine k_aloadA_n (pc := 9) hC dX6_init_9 rfl rfl kk_97 (by decide) ?_
  refine k_iconst (pc := 10) hC dX6_init_10 ?_
  refine k_pi (pc := 11) (ji := 1) hC fl_X6_15 rfl ft6_1 kk_97 (by decide) dX6_init_11 rfl ?_
  refine k_aloadA_n (pc := 14) hC dX6_init_14 rfl rfl kk_97 (by decide) ?_
  refine k_iconst (pc := 15) hC dX6_init_15 ?_
  refine k_pi (pc := 16) (ji := 2) hC fl_X6_18 rfl ft6_2 kk_97 (by decide) dX6_init_16 rfl ?_
  refine k_aloadA_n (pc := 19) hC dX6_init_19 rfl rfl kk_97 (by decide) ?_
  refine k_bipush (pc := 20) hC dX6_init_20 rfl ?_
  refine k_newI (pc := 22) hC aw_int (a := 98) (N := 12) (by decide) kk_98 ll_98 (by decide) (by decide) (by decide) (Nat.le_of_ble_eq_true rfl) (Nat.le_of_ble_eq_true rfl) dX6_init_22 (kc2 := 1) (ks2 := 12) rfl rfl ?_
  refine k_pf (pc := 24) (ji := 3) hC hI fd_X6_21 fl_X6_21 rfl ft6_3 (by decide) kk_97 (by decide) dX6_init_24 rfl ?_
  refine k_aloadA_n (pc := 27) hC dX6_init_27 rfl rfl kk_97 (by decide) ?_
  refine k_bipush (pc := 28) hC dX6_init_28 rfl ?_
  refine k_newI (pc := 30) hC aw_int (a := 99) (N := 12) (by decide) kk_99 ll_99 (by decide) (by decide) (by decide) (Nat.le_of_ble_eq_true rfl) (Nat.le_of_ble_eq_true rfl) dX6_init_30 (kc2 := 2) (ks2 := 24) rfl rfl ?_
  refine k_pf (pc := 32) (ji := 4) hC hI fd_X6_25 fl_X6_25 rfl ft6_4 (by decide) kk_97 (by decide) dX6_init_32 rfl ?_
  refine k_aloadA_n (pc := 35) hC dX6_init_35 rfl rfl kk_97 (by decide) ?_
  refine k_bipush (pc := 36) hC dX6_init_36 rfl ?_
  refine k_newI (pc := 38) hC aw_int (a := 100) (N := 36) (by decide) kk_100 ll_100 (by decide) (by decide) (by decide) (Nat.le_of_ble_eq_true rfl) (Nat.le_of_ble_eq_true rfl) dX6_init_38 (kc2 := 3) (ks2 := 60) rfl rfl ?_
  refine k_pf (pc := 40) (ji := 5) hC hI fd_X6_28 fl_X6_28 rfl ft6_5 (by decide) kk_97 (by decide) dX6_init_40 rfl ?_
  refine k_aloadA_n (pc := 43) hC dX6_init_43 rfl rfl kk_97 (by decide) ?_
  refine k_bipush (pc := 44) hC dX6_init_44 rfl ?_
  refine k_newI (pc := 46) hC aw_int (a := 101) (N := 12) (by decide) kk_101 ll_101 (by decide) (by decide) (by decide) (Nat.le_of_ble_eq_true rfl) (Nat.le_of_ble_eq_true rfl) dX6_init_46 (kc2 := 4) (ks2 := 72) rfl rfl ?_
  refine k_pf (pc := 48) (ji := 6) hC hI fd_X6_31 fl_X6_31 rfl ft6_6 (by decide) kk_97 (by decide) dX6_init_48 rfl ?_
  refine k_aloadA_n (pc := 51) hC dX6_init_51 rfl rfl kk_97 (by decide) ?_
  refine k_sipush (pc := 52) hC dX6_init_52 rfl ?_
  refine k_newI (pc := 55) hC aw_int (a := 102) (N := 135) (by decide) kk_102 ll_102 (by decide) (by decide) (by decide) (Nat.le_of_ble_eq_true rfl) (Nat.le_of_ble_eq_true rfl) dX6_init_55 (kc2 := 5) (ks2 := 207) rfl rfl ?_
  refine k_pf (pc := 57) (ji := 7) hC hI fd_X6_34 fl_X6_34 rfl ft6_7 (by decide) kk_97 (by decide) dX6_init_57 rfl ?_
  exact k_vret (pc := 60) hC hR dX6_init_60 rfl rfl rfl
set_option maxHeartbeats 4000000 in
set_option maxRecDepth 20000 in
theorem ok_X6_init_103 {X : jX} {M : jM} : jCc X 103 yX6_init cX6_init 1 1 5 207 [jA 103] M (c_X6_init_103 M) := by
  refine jCc_of (own := RX6) (ls := [jA 103]) (by decide +kernel) rfl rfl (Nat.le_of_ble_eq_true rfl) rfl ?_
  intro C hC hI hR
  refine k_aloadA_n (pc := 0) hC dX6_init_0 rfl rfl kk_103 (by decide) ?_
  refine k_oinit (pc := 1) hC oi_X6 (by decide) (Nat.le_of_ble_eq_true rfl) (Nat.le_of_ble_eq_true rfl) dX6_init_1 ?_
  refine k_aloadA_n (pc := 4) hC dX6_init_4 rfl rfl kk_103 (by decide) ?_
  refine k_iconst (pc := 5) hC dX6_init_5 ?_
  refine k_pi (pc := 6) (ji := 0) hC fl_X6_9 rfl ft6_0 kk_103 (by decide) dX6_init_6 rfl ?_
  refine k_aloadA_n (pc := 9) hC dX6_init_9 rfl rfl kk_103 (by decide) ?_
  refine k_iconst (pc := 10) hC dX6_init_10 ?_
  refine k_pi (pc := 11) (ji := 1) hC fl_X6_15 rfl ft6_1 kk_103 (by decide) dX6_init_11 rfl ?_
  refine k_aloadA_n (pc := 14) hC dX6_init_14 rfl rfl kk_103 (by decide) ?_
  refine k_iconst (pc := 15) hC dX6_init_15 ?_
  refine k_pi (pc := 16) (ji := 2) hC fl_X6_18 rfl ft6_2 kk_103 (by decide) dX6_init_16 rfl ?_
  refine k_aloadA_n (pc := 19) hC dX6_init_19 rfl rfl kk_103 (by decide) ?_
  refine k_bipush (pc := 20) hC dX6_init_20 rfl ?_
  refine k_newI (pc := 22) hC aw_int (a := 104) (N := 12) (by decide) kk_104 ll_104 (by decide) (by decide) (by decide) (Nat.le_of_ble_eq_true rfl) (Nat.le_of_ble_eq_true rfl) dX6_init_22 (kc2 := 1) (ks2 := 12) rfl rfl ?_
  refine k_pf (pc := 24) (ji := 3) hC hI fd_X6_21 fl_X6_21 rfl ft6_3 (by decide) kk_103 (by decide) dX6_init_24 rfl ?_
  refine k_aloadA_n (pc := 27) hC dX6_init_27 rfl rfl kk_103 (by decide) ?_
  refine k_bipush (pc := 28) hC dX6_init_28 rfl ?_
  refine k_newI (pc := 30) hC aw_int (a := 105) (N := 12) (by decide) kk_105 ll_105 (by decide) (by decide) (by decide) (Nat.le_of_ble_eq_true rfl) (Nat.le_of_ble_eq_true rfl) dX6_init_30 (kc2 := 2) (ks2 := 24) rfl rfl ?_
  refine k_pf (pc := 32) (ji := 4) hC hI fd_X6_25 fl_X6_25 rfl ft6_4 (by decide) kk_103 (by decide) dX6_init_32 rfl ?_
  refine k_aloadA_n (pc := 35) hC dX6_init_35 rfl rfl kk_103 (by decide) ?_
  refine k_bipush (pc := 36) hC dX6_init_36 rfl ?_
  refine k_newI (pc := 38) hC aw_int (a := 106) (N := 36) (by decide) kk_106 ll_106 (by decide) (by decide) (by decide) (Nat.le_of_ble_eq_true rfl) (Nat.le_of_ble_eq_true rfl) dX6_init_38 (kc2 := 3) (ks2 := 60) rfl rfl ?_
  refine k_pf (pc := 40) (ji := 5) hC hI fd_X6_28 fl_X6_28 rfl ft6_5 (by decide) kk_103 (by decide) dX6_init_40 rfl ?_
  refine k_aloadA_n (pc := 43) hC dX6_init_43 rfl rfl kk_103 (by decide) ?_
  refine k_bipush (pc := 44) hC dX6_init_44 rfl ?_
  refine k_newI (pc := 46) hC aw_int (a := 107) (N := 12) (by decide) kk_107 ll_107 (by decide) (by decide) (by decide) (Nat.le_of_ble_eq_true rfl) (Nat.le_of_ble_eq_true rfl) dX6_init_46 (kc2 := 4) (ks2 := 72) rfl rfl ?_
  refine k_pf (pc := 48) (ji := 6) hC hI fd_X6_31 fl_X6_31 rfl ft6_6 (by decide) kk_103 (by decide) dX6_init_48 rfl ?_
  refine k_aloadA_n (pc := 51) hC dX6_init_51 rfl rfl kk_103 (by decide) ?_
  refine k_sipush (pc := 52) hC dX6_init_52 rfl ?_
  refine k_newI (pc := 55) hC aw_int (a := 108) (N := 135) (by decide) kk_108 ll_108 (by decide) (by decide) (by decide) (Nat.le_of_ble_eq_true rfl) (Nat.le_of_ble_eq_true rfl) dX6_init_55 (kc2 := 5) (ks2 := 207) rfl rfl ?_
  refine k_pf (pc := 57) (ji := 7) hC hI fd_X6_34 fl_X6_34 rfl ft6_7 (by decide) kk_103 (by decide) dX6_init_57 rfl ?_
  exact k_vret (pc := 60) hC hR dX6_init_60 rfl rfl rfl
set_option maxHeartbeats 4000000 in
set_option maxRecDepth 20000 in
theorem ok_X1_init_56 {X : jX} {M : jM} : jCc X 56 yX1_init cX1_init 2 2 52 2084 [jA 56] M (c_X1_init_56 M) := by
  refine jCc_of (own := RX1) (ls := [jA 56, jN]) (by decide +kernel) rfl rfl (Nat.le_of_ble_eq_true rfl) rfl ?_
  intro C hC hI hR
  refine k_aloadA_n (pc := 0) hC dX1_init_0 rfl rfl kk_56 (by decide) ?_
  refine k_oinit (pc := 1) hC oi_X1 (by decide) (Nat.le_of_ble_eq_true rfl) (Nat.le_of_ble_eq_true rfl) dX1_init_1 ?_
  refine k_aloadA_n (pc := 4) hC dX1_init_4 rfl rfl kk_56 (by decide) ?_
  refine k_iconst (pc := 5) hC dX1_init_5 ?_
  refine k_pi (pc := 6) (ji := 0) hC fl_X1_9 rfl ft1_0 kk_56 (by decide) dX1_init_6 rfl ?_
  refine k_aloadA_n (pc := 9) hC dX1_init_9 rfl rfl kk_56 (by decide) ?_
  refine k_bipush (pc := 10) hC dX1_init_10 rfl ?_
  refine k_newI (pc := 12) hC aw_int (a := 57) (N := 7) (by decide) kk_57 ll_57 (by decide) (by decide) (by decide) (Nat.le_of_ble_eq_true rfl) (Nat.le_of_ble_eq_true rfl) dX1_init_12 (kc2 := 1) (ks2 := 7) rfl rfl ?_
  refine k_pf (pc := 14) (ji := 1) hC hI fd_X1_15 fl_X1_15 rfl ft1_1 (by decide) kk_56 (by decide) dX1_init_14 rfl ?_
  refine k_aloadA_n (pc := 17) hC dX1_init_17 rfl rfl kk_56 (by decide) ?_
  refine k_new (pc := 18) hC (ci := 2) (N := 4) (ty := tyX2) rfl inX2 tyX2_ok nw_X1_19.1 nw_X1_19.2.1 nw_X1_19.2.2 dv_2 (a := 58) (by decide) kk_58 (by decide) ll_58 (Nat.le_of_ble_eq_true rfl) (Nat.le_of_ble_eq_true rfl) dX1_init_18 (kc2 := 2) (ks2 := 11) rfl rfl ?_
  refine k_dup (pc := 21) hC dX1_init_21 (show (2 : Nat) ≠ 3 by decide) ?_
  refine k_bipush (pc := 22) hC dX1_init_22 rfl ?_
  refine k_ctor (pc := 24) hC mi_X1_21 (ok_X2_init_58) (by decide) rfl (Nat.le_of_ble_eq_true rfl) (Nat.le_of_ble_eq_true rfl) (Nat.le_of_ble_eq_true rfl) (Nat.le_of_ble_eq_true rfl) dX1_init_24 rfl (kc2 := 4) (ks2 := 81) rfl rfl ?_
  refine k_pf (pc := 27) (ji := 2) hC hI fd_X1_24 fl_X1_24 rfl ft1_2 (by decide) kk_56 (by decide) dX1_init_27 rfl ?_
  refine k_aloadA_n (pc := 30) hC dX1_init_30 rfl rfl kk_56 (by decide) ?_
  refine k_bipush (pc := 31) hC dX1_init_31 rfl ?_
  refine k_newI (pc := 33) hC aw_int (a := 61) (N := 10) (by decide) kk_61 ll_61 (by decide) (by decide) (by decide) (Nat.le_of_ble_eq_true rfl) (Nat.le_of_ble_eq_true rfl) dX1_init_33 (kc2 := 5) (ks2 := 91) rfl rfl ?_
  refine k_pf (pc := 35) (ji := 3) hC hI fd_X1_28 fl_X1_28 rfl ft1_3 (by decide) kk_56 (by decide) dX1_init_35 rfl ?_
  refine k_aloadA_n (pc := 38) hC dX1_init_38 rfl rfl kk_56 (by decide) ?_
  refine k_bipush (pc := 39) hC dX1_init_39 rfl ?_
  refine k_newI (pc := 41) hC aw_int (a := 62) (N := 10) (by decide) kk_62 ll_62 (by decide) (by decide) (by decide) (Nat.le_of_ble_eq_true rfl) (Nat.le_of_ble_eq_true rfl) dX1_init_41 (kc2 := 6) (ks2 := 101) rfl rfl ?_
  refine k_pf (pc := 43) (ji := 4) hC hI fd_X1_31 fl_X1_31 rfl ft1_4 (by decide) kk_56 (by decide) dX1_init_43 rfl ?_
  refine k_aloadA_n (pc := 46) hC dX1_init_46 rfl rfl kk_56 (by decide) ?_
  refine k_new (pc := 47) hC (ci := 5) (N := 7) (ty := tyX5) rfl inX5 tyX5_ok nw_X1_34.1 nw_X1_34.2.1 nw_X1_34.2.2 dv_5 (a := 63) (by decide) kk_63 (by decide) ll_63 (Nat.le_of_ble_eq_true rfl) (Nat.le_of_ble_eq_true rfl) dX1_init_47 (kc2 := 7) (ks2 := 108) rfl rfl ?_
  refine k_dup (pc := 50) hC dX1_init_50 (show (2 : Nat) ≠ 3 by decide) ?_
  refine k_ctor (pc := 51) hC mi_X1_36 (ok_X5_init_63) (by decide) rfl (Nat.le_of_ble_eq_true rfl) (Nat.le_of_ble_eq_true rfl) (Nat.le_of_ble_eq_true rfl) (Nat.le_of_ble_eq_true rfl) dX1_init_51 rfl (kc2 := 12) (ks2 := 742) rfl rfl ?_
  refine k_pf (pc := 54) (ji := 5) hC hI fd_X1_37 fl_X1_37 rfl ft1_5 (by decide) kk_56 (by decide) dX1_init_54 rfl ?_
  refine k_aloadA_n (pc := 57) hC dX1_init_57 rfl rfl kk_56 (by decide) ?_
  refine k_new (pc := 58) hC (ci := 2) (N := 4) (ty := tyX2) rfl inX2 tyX2_ok nw_X1_19.1 nw_X1_19.2.1 nw_X1_19.2.2 dv_2 (a := 69) (by decide) kk_69 (by decide) ll_69 (Nat.le_of_ble_eq_true rfl) (Nat.le_of_ble_eq_true rfl) dX1_init_58 (kc2 := 13) (ks2 := 746) rfl rfl ?_
  refine k_dup (pc := 61) hC dX1_init_61 (show (2 : Nat) ≠ 3 by decide) ?_
  refine k_bipush (pc := 62) hC dX1_init_62 rfl ?_
  refine k_ctor (pc := 64) hC mi_X1_21 (ok_X2_init_69) (by decide) rfl (Nat.le_of_ble_eq_true rfl) (Nat.le_of_ble_eq_true rfl) (Nat.le_of_ble_eq_true rfl) (Nat.le_of_ble_eq_true rfl) dX1_init_64 rfl (kc2 := 15) (ks2 := 788) rfl rfl ?_
  refine k_pf (pc := 67) (ji := 6) hC hI fd_X1_41 fl_X1_41 rfl ft1_6 (by decide) kk_56 (by decide) dX1_init_67 rfl ?_
  refine k_aloadA_n (pc := 70) hC dX1_init_70 rfl rfl kk_56 (by decide) ?_
  refine k_bipush (pc := 71) hC dX1_init_71 rfl ?_
  refine k_anew (pc := 73) hC (kk := 14) (t0 := 3) (jTB_mem wm_235 rfl) (fun _ h => h.1) rfl (by decide) (a := 72) (N := 6) (by decide) kk_72 ll_72 (by decide) (by decide) (by decide) (Nat.le_of_ble_eq_true rfl) (Nat.le_of_ble_eq_true rfl) dX1_init_73 (kc2 := 16) (ks2 := 794) rfl rfl ?_
  refine k_pf (pc := 76) (ji := 7) hC hI fd_X1_46 fl_X1_46 rfl ft1_7 (by decide) kk_56 (by decide) dX1_init_76 rfl ?_
  refine k_gst (pc := 79) hC (k := 2) (by decide) sl_X1_50 dX1_init_79 ?_
  refine k_iconst (pc := 82) hC dX1_init_82 ?_
  refine k_aloadA_n (pc := 83) hC dX1_init_83 rfl rfl kk_56 (by decide) ?_
  refine k_gr (pc := 84) hC fl_X1_15 ft1_1 kk_56 (by decide) (b := 57) rfl dX1_init_84 ?_
  refine k_iconst (pc := 87) hC dX1_init_87 ?_
  refine k_bipush (pc := 88) hC dX1_init_88 rfl ?_
  refine k_acT (pc := 90) hC ac_X1_53 (Nat.le_of_ble_eq_true rfl) (Nat.le_of_ble_eq_true rfl) (kk := 2) (by decide) kk_57 (by decide +kernel) (by decide) dX1_init_90 rfl ?_
  refine k_iconst (pc := 93) hC dX1_init_93 ?_
  refine k_istore_n (ls2 := [jA 56, jI 0]) (pc := 94) hC dX1_init_94 rfl (by decide) rfl rfl rfl ?_
  refine k_iload_n (pc := 95) hC dX1_init_95 rfl rfl ?_
  refine k_bipush (pc := 96) hC dX1_init_96 rfl ?_
  refine k_icmp_ge (tgt := 120) (pc := 98) hC dX1_init_98 (by decide) (fun hc => absurd hc (by decide)) (fun _ => ?_)
  refine k_aloadA_n (pc := 101) hC dX1_init_101 rfl rfl kk_56 (by decide) ?_
  refine k_gr (pc := 102) hC fl_X1_46 ft1_7 kk_56 (by decide) (b := 72) rfl dX1_init_102 ?_
  refine k_iload_n (pc := 105) hC dX1_init_105 rfl rfl ?_
  refine k_new (pc := 106) hC (ci := 6) (N := 8) (ty := tyX6) rfl inX6 tyX6_ok nw_X1_44.1 nw_X1_44.2.1 nw_X1_44.2.2 dv_6 (a := 73) (by decide) kk_73 (by decide) ll_73 (Nat.le_of_ble_eq_true rfl) (Nat.le_of_ble_eq_true rfl) dX1_init_106 (kc2 := 17) (ks2 := 802) rfl rfl ?_
  refine k_dup (pc := 109) hC dX1_init_109 (show (2 : Nat) ≠ 3 by decide) ?_
  refine k_ctor (pc := 110) hC mi_X1_59 (ok_X6_init_73) (by decide) rfl (Nat.le_of_ble_eq_true rfl) (Nat.le_of_ble_eq_true rfl) (Nat.le_of_ble_eq_true rfl) (Nat.le_of_ble_eq_true rfl) dX1_init_110 rfl (kc2 := 22) (ks2 := 1009) rfl rfl ?_
  refine k_aast (pc := 113) hC (kk := 14) (t0 := 3) (ci := 6) rfl (by decide) rfl (by decide) kk_72 (by decide) kk_73 (by decide) (by decide +kernel) dX1_init_113 rfl ?_
  show jK _ _ _ _ _ _ _ _ _ (jst _ _ 0 _)
  refine k_iinc (y := 1) (ls2 := [jA 56, jI 1]) (pc := 114) hC dX1_init_114 rfl (by decide) rfl (by decide) rfl ?_
  refine k_goto (tgt := 95) (pc := 117) hC dX1_init_117 (by decide) ?_
  refine k_iload_n (pc := 95) hC dX1_init_95 rfl rfl ?_
  refine k_bipush (pc := 96) hC dX1_init_96 rfl ?_
  refine k_icmp_ge (tgt := 120) (pc := 98) hC dX1_init_98 (by decide) (fun hc => absurd hc (by decide)) (fun _ => ?_)
  refine k_aloadA_n (pc := 101) hC dX1_init_101 rfl rfl kk_56 (by decide) ?_
  refine k_gr (pc := 102) hC fl_X1_46 ft1_7 kk_56 (by decide) (b := 72) rfl dX1_init_102 ?_
  refine k_iload_n (pc := 105) hC dX1_init_105 rfl rfl ?_
  refine k_new (pc := 106) hC (ci := 6) (N := 8) (ty := tyX6) rfl inX6 tyX6_ok nw_X1_44.1 nw_X1_44.2.1 nw_X1_44.2.2 dv_6 (a := 79) (by decide) kk_79 (by decide) ll_79 (Nat.le_of_ble_eq_true rfl) (Nat.le_of_ble_eq_true rfl) dX1_init_106 (kc2 := 23) (ks2 := 1017) rfl rfl ?_
  refine k_dup (pc := 109) hC dX1_init_109 (show (2 : Nat) ≠ 3 by decide) ?_
  refine k_ctor (pc := 110) hC mi_X1_59 (ok_X6_init_79) (by decide) rfl (Nat.le_of_ble_eq_true rfl) (Nat.le_of_ble_eq_true rfl) (Nat.le_of_ble_eq_true rfl) (Nat.le_of_ble_eq_true rfl) dX1_init_110 rfl (kc2 := 28) (ks2 := 1224) rfl rfl ?_
  refine k_aast (pc := 113) hC (kk := 14) (t0 := 3) (ci := 6) rfl (by decide) rfl (by decide) kk_72 (by decide) kk_79 (by decide) (by decide +kernel) dX1_init_113 rfl ?_
  show jK _ _ _ _ _ _ _ _ _ (jst _ _ 1 _)
  refine k_iinc (y := 2) (ls2 := [jA 56, jI 2]) (pc := 114) hC dX1_init_114 rfl (by decide) rfl (by decide) rfl ?_
  refine k_goto (tgt := 95) (pc := 117) hC dX1_init_117 (by decide) ?_
  refine k_iload_n (pc := 95) hC dX1_init_95 rfl rfl ?_
  refine k_bipush (pc := 96) hC dX1_init_96 rfl ?_
  refine k_icmp_ge (tgt := 120) (pc := 98) hC dX1_init_98 (by decide) (fun hc => absurd hc (by decide)) (fun _ => ?_)
  refine k_aloadA_n (pc := 101) hC dX1_init_101 rfl rfl kk_56 (by decide) ?_
  refine k_gr (pc := 102) hC fl_X1_46 ft1_7 kk_56 (by decide) (b := 72) rfl dX1_init_102 ?_
  refine k_iload_n (pc := 105) hC dX1_init_105 rfl rfl ?_
  refine k_new (pc := 106) hC (ci := 6) (N := 8) (ty := tyX6) rfl inX6 tyX6_ok nw_X1_44.1 nw_X1_44.2.1 nw_X1_44.2.2 dv_6 (a := 85) (by decide) kk_85 (by decide) ll_85 (Nat.le_of_ble_eq_true rfl) (Nat.le_of_ble_eq_true rfl) dX1_init_106 (kc2 := 29) (ks2 := 1232) rfl rfl ?_
  refine k_dup (pc := 109) hC dX1_init_109 (show (2 : Nat) ≠ 3 by decide) ?_
  refine k_ctor (pc := 110) hC mi_X1_59 (ok_X6_init_85) (by decide) rfl (Nat.le_of_ble_eq_true rfl) (Nat.le_of_ble_eq_true rfl) (Nat.le_of_ble_eq_true rfl) (Nat.le_of_ble_eq_true rfl) dX1_init_110 rfl (kc2 := 34) (ks2 := 1439) rfl rfl ?_
  refine k_aast (pc := 113) hC (kk := 14) (t0 := 3) (ci := 6) rfl (by decide) rfl (by decide) kk_72 (by decide) kk_85 (by decide) (by decide +kernel) dX1_init_113 rfl ?_
  show jK _ _ _ _ _ _ _ _ _ (jst _ _ 2 _)
  refine k_iinc (y := 3) (ls2 := [jA 56, jI 3]) (pc := 114) hC dX1_init_114 rfl (by decide) rfl (by decide) rfl ?_
  refine k_goto (tgt := 95) (pc := 117) hC dX1_init_117 (by decide) ?_
  refine k_iload_n (pc := 95) hC dX1_init_95 rfl rfl ?_
  refine k_bipush (pc := 96) hC dX1_init_96 rfl ?_
  refine k_icmp_ge (tgt := 120) (pc := 98) hC dX1_init_98 (by decide) (fun hc => absurd hc (by decide)) (fun _ => ?_)
  refine k_aloadA_n (pc := 101) hC dX1_init_101 rfl rfl kk_56 (by decide) ?_
  refine k_gr (pc := 102) hC fl_X1_46 ft1_7 kk_56 (by decide) (b := 72) rfl dX1_init_102 ?_
  refine k_iload_n (pc := 105) hC dX1_init_105 rfl rfl ?_
  refine k_new (pc := 106) hC (ci := 6) (N := 8) (ty := tyX6) rfl inX6 tyX6_ok nw_X1_44.1 nw_X1_44.2.1 nw_X1_44.2.2 dv_6 (a := 91) (by decide) kk_91 (by decide) ll_91 (Nat.le_of_ble_eq_true rfl) (Nat.le_of_ble_eq_true rfl) dX1_init_106 (kc2 := 35) (ks2 := 1447) rfl rfl ?_
  refine k_dup (pc := 109) hC dX1_init_109 (show (2 : Nat) ≠ 3 by decide) ?_
  refine k_ctor (pc := 110) hC mi_X1_59 (ok_X6_init_91) (by decide) rfl (Nat.le_of_ble_eq_true rfl) (Nat.le_of_ble_eq_true rfl) (Nat.le_of_ble_eq_true rfl) (Nat.le_of_ble_eq_true rfl) dX1_init_110 rfl (kc2 := 40) (ks2 := 1654) rfl rfl ?_
  refine k_aast (pc := 113) hC (kk := 14) (t0 := 3) (ci := 6) rfl (by decide) rfl (by decide) kk_72 (by decide) kk_91 (by decide) (by decide +kernel) dX1_init_113 rfl ?_
  show jK _ _ _ _ _ _ _ _ _ (jst _ _ 3 _)
  refine k_iinc (y := 4) (ls2 := [jA 56, jI 4]) (pc := 114) hC dX1_init_114 rfl (by decide) rfl (by decide) rfl ?_
  refine k_goto (tgt := 95) (pc := 117) hC dX1_init_117 (by decide) ?_
  refine k_iload_n (pc := 95) hC dX1_init_95 rfl rfl ?_
  refine k_bipush (pc := 96) hC dX1_init_96 rfl ?_
  refine k_icmp_ge (tgt := 120) (pc := 98) hC dX1_init_98 (by decide) (fun hc => absurd hc (by decide)) (fun _ => ?_)
  refine k_aloadA_n (pc := 101) hC dX1_init_101 rfl rfl kk_56 (by decide) ?_
  refine k_gr (pc := 102) hC fl_X1_46 ft1_7 kk_56 (by decide) (b := 72) rfl dX1_init_102 ?_
  refine k_iload_n (pc := 105) hC dX1_init_105 rfl rfl ?_
  refine k_new (pc := 106) hC (ci := 6) (N := 8) (ty := tyX6) rfl inX6 tyX6_ok nw_X1_44.1 nw_X1_44.2.1 nw_X1_44.2.2 dv_6 (a := 97) (by decide) kk_97 (by decide) ll_97 (Nat.le_of_ble_eq_true rfl) (Nat.le_of_ble_eq_true rfl) dX1_init_106 (kc2 := 41) (ks2 := 1662) rfl rfl ?_
  refine k_dup (pc := 109) hC dX1_init_109 (show (2 : Nat) ≠ 3 by decide) ?_
  refine k_ctor (pc := 110) hC mi_X1_59 (ok_X6_init_97) (by decide) rfl (Nat.le_of_ble_eq_true rfl) (Nat.le_of_ble_eq_true rfl) (Nat.le_of_ble_eq_true rfl) (Nat.le_of_ble_eq_true rfl) dX1_init_110 rfl (kc2 := 46) (ks2 := 1869) rfl rfl ?_
  refine k_aast (pc := 113) hC (kk := 14) (t0 := 3) (ci := 6) rfl (by decide) rfl (by decide) kk_72 (by decide) kk_97 (by decide) (by decide +kernel) dX1_init_113 rfl ?_
  show jK _ _ _ _ _ _ _ _ _ (jst _ _ 4 _)
  refine k_iinc (y := 5) (ls2 := [jA 56, jI 5]) (pc := 114) hC dX1_init_114 rfl (by decide) rfl (by decide) rfl ?_
  refine k_goto (tgt := 95) (pc := 117) hC dX1_init_117 (by decide) ?_
  refine k_iload_n (pc := 95) hC dX1_init_95 rfl rfl ?_
  refine k_bipush (pc := 96) hC dX1_init_96 rfl ?_
  refine k_icmp_ge (tgt := 120) (pc := 98) hC dX1_init_98 (by decide) (fun hc => absurd hc (by decide)) (fun _ => ?_)
  refine k_aloadA_n (pc := 101) hC dX1_init_101 rfl rfl kk_56 (by decide) ?_
  refine k_gr (pc := 102) hC fl_X1_46 ft1_7 kk_56 (by decide) (b := 72) rfl dX1_init_102 ?_
  refine k_iload_n (pc := 105) hC dX1_init_105 rfl rfl ?_
  refine k_new (pc := 106) hC (ci := 6) (N := 8) (ty := tyX6) rfl inX6 tyX6_ok nw_X1_44.1 nw_X1_44.2.1 nw_X1_44.2.2 dv_6 (a := 103) (by decide) kk_103 (by decide) ll_103 (Nat.le_of_ble_eq_true rfl) (Nat.le_of_ble_eq_true rfl) dX1_init_106 (kc2 := 47) (ks2 := 1877) rfl rfl ?_
  refine k_dup (pc := 109) hC dX1_init_109 (show (2 : Nat) ≠ 3 by decide) ?_
  refine k_ctor (pc := 110) hC mi_X1_59 (ok_X6_init_103) (by decide) rfl (Nat.le_of_ble_eq_true rfl) (Nat.le_of_ble_eq_true rfl) (Nat.le_of_ble_eq_true rfl) (Nat.le_of_ble_eq_true rfl) dX1_init_110 rfl (kc2 := 52) (ks2 := 2084) rfl rfl ?_
  refine k_aast (pc := 113) hC (kk := 14) (t0 := 3) (ci := 6) rfl (by decide) rfl (by decide) kk_72 (by decide) kk_103 (by decide) (by decide +kernel) dX1_init_113 rfl ?_
  show jK _ _ _ _ _ _ _ _ _ (jst _ _ 5 _)
  refine k_iinc (y := 6) (ls2 := [jA 56, jI 6]) (pc := 114) hC dX1_init_114 rfl (by decide) rfl (by decide) rfl ?_
  refine k_goto (tgt := 95) (pc := 117) hC dX1_init_117 (by decide) ?_
  refine k_iload_n (pc := 95) hC dX1_init_95 rfl rfl ?_
  refine k_bipush (pc := 96) hC dX1_init_96 rfl ?_
  refine k_icmp_ge (tgt := 120) (pc := 98) hC dX1_init_98 (by decide) (fun _ => ?_) (fun hc => absurd (by decide) hc)
  exact k_vret (pc := 120) hC hR dX1_init_120 rfl rfl rfl
set_option maxHeartbeats 4000000 in
set_option maxRecDepth 20000 in
theorem ok_X4_init_109 {X : jX} {M : jM} : jCc X 109 yX4_init cX4_init 3 1 0 0 [jA 109, jA 2, jA 56] M (c_X4_init_109 M) := by
  refine jCc_of (own := RX4) (ls := [jA 109, jA 2, jA 56]) (by decide +kernel) rfl rfl (Nat.le_of_ble_eq_true rfl) rfl ?_
  intro C hC hI hR
  refine k_aloadA_n (pc := 0) hC dX4_init_0 rfl rfl kk_109 (by decide) ?_
  refine k_oinit (pc := 1) hC oi_X4 (by decide) (Nat.le_of_ble_eq_true rfl) (Nat.le_of_ble_eq_true rfl) dX4_init_1 ?_
  refine k_aloadA_n (pc := 4) hC dX4_init_4 rfl rfl kk_109 (by decide) ?_
  refine k_iconst (pc := 5) hC dX4_init_5 ?_
  refine k_pi (pc := 6) (ji := 2) hC fl_X4_9 rfl ft4_2 kk_109 (by decide) dX4_init_6 rfl ?_
  refine k_aloadA_n (pc := 9) hC dX4_init_9 rfl rfl kk_109 (by decide) ?_
  refine k_iconst (pc := 10) hC dX4_init_10 ?_
  refine k_pi (pc := 11) (ji := 3) hC fl_X4_15 rfl ft4_3 kk_109 (by decide) dX4_init_11 rfl ?_
  refine k_aloadA_n (pc := 14) hC dX4_init_14 rfl rfl kk_109 (by decide) ?_
  refine k_iconst (pc := 15) hC dX4_init_15 ?_
  refine k_pi (pc := 16) (ji := 4) hC fl_X4_18 rfl ft4_4 kk_109 (by decide) dX4_init_16 rfl ?_
  refine k_aloadA_n (pc := 19) hC dX4_init_19 rfl rfl kk_109 (by decide) ?_
  refine k_iconst (pc := 20) hC dX4_init_20 ?_
  refine k_pi (pc := 21) (ji := 5) hC fl_X4_21 rfl ft4_5 kk_109 (by decide) dX4_init_21 rfl ?_
  refine k_aloadA_n (pc := 24) hC dX4_init_24 rfl rfl kk_109 (by decide) ?_
  refine k_iconst (pc := 25) hC dX4_init_25 ?_
  refine k_pi (pc := 26) (ji := 6) hC fl_X4_24 rfl ft4_6 kk_109 (by decide) dX4_init_26 rfl ?_
  refine k_aloadA_n (pc := 29) hC dX4_init_29 rfl rfl kk_109 (by decide) ?_
  refine k_iconst (pc := 30) hC dX4_init_30 ?_
  refine k_pi (pc := 31) (ji := 7) hC fl_X4_27 rfl ft4_7 kk_109 (by decide) dX4_init_31 rfl ?_
  refine k_aloadA_n (pc := 34) hC dX4_init_34 rfl rfl kk_109 (by decide) ?_
  refine k_iconst (pc := 35) hC dX4_init_35 ?_
  refine k_pz (pc := 36) (ji := 8) hC fl_X4_30 rfl ft4_8 kk_109 (by decide) dX4_init_36 rfl ?_
  refine k_aloadA_n (pc := 39) hC dX4_init_39 rfl rfl kk_109 (by decide) ?_
  refine k_aloadA_n (pc := 40) hC dX4_init_40 rfl rfl kk_2 (by decide) ?_
  refine k_pf (pc := 41) (ji := 0) hC hI fd_X4_34 fl_X4_34 rfl ft4_0 (by decide) kk_109 (by decide) dX4_init_41 rfl ?_
  refine k_aloadA_n (pc := 44) hC dX4_init_44 rfl rfl kk_109 (by decide) ?_
  refine k_aloadA_n (pc := 45) hC dX4_init_45 rfl rfl kk_56 (by decide) ?_
  refine k_pr (pc := 46) (ji := 1) hC fl_X4_38 rfl ft4_1 (by decide) kk_109 (by decide) dX4_init_46 rfl ?_
  exact k_vret (pc := 49) hC hR dX4_init_49 rfl rfl rfl
set_option maxHeartbeats 4000000 in
set_option maxRecDepth 20000 in
theorem ok_X8_init_117 {X : jX} {M : jM} (h_3_7 : M 3 7 = 19) (h_19_0 : M 19 0 = 20) : jCc X 117 yX8_init cX8_init 3 1 6 191 [jA 117, jA 3, jI 0] M (c_X8_init_117 M) := by
  refine jCc_of (own := RX8) (ls := [jA 117, jA 3, jI 0]) (by decide +kernel) rfl rfl (Nat.le_of_ble_eq_true rfl) rfl ?_
  intro C hC hI hR
  refine k_aloadA_n (pc := 0) hC dX8_init_0 rfl rfl kk_117 (by decide) ?_
  refine k_oinit (pc := 1) hC oi_X8 (by decide) (Nat.le_of_ble_eq_true rfl) (Nat.le_of_ble_eq_true rfl) dX8_init_1 ?_
  refine k_aloadA_n (pc := 4) hC dX8_init_4 rfl rfl kk_117 (by decide) ?_
  refine k_iconst (pc := 5) hC dX8_init_5 ?_
  refine k_pi (pc := 6) (ji := 2) hC fl_X8_9 rfl ft8_2 kk_117 (by decide) dX8_init_6 rfl ?_
  refine k_aloadA_n (pc := 9) hC dX8_init_9 rfl rfl kk_117 (by decide) ?_
  refine k_iconst (pc := 10) hC dX8_init_10 ?_
  refine k_pi (pc := 11) (ji := 3) hC fl_X8_15 rfl ft8_3 kk_117 (by decide) dX8_init_11 rfl ?_
  refine k_aloadA_n (pc := 14) hC dX8_init_14 rfl rfl kk_117 (by decide) ?_
  refine k_iconst (pc := 15) hC dX8_init_15 ?_
  refine k_pi (pc := 16) (ji := 4) hC fl_X8_18 rfl ft8_4 kk_117 (by decide) dX8_init_16 rfl ?_
  refine k_aloadA_n (pc := 19) hC dX8_init_19 rfl rfl kk_117 (by decide) ?_
  refine k_iconst (pc := 20) hC dX8_init_20 ?_
  refine k_pi (pc := 21) (ji := 5) hC fl_X8_21 rfl ft8_5 kk_117 (by decide) dX8_init_21 rfl ?_
  refine k_aloadA_n (pc := 24) hC dX8_init_24 rfl rfl kk_117 (by decide) ?_
  refine k_iconst (pc := 25) hC dX8_init_25 ?_
  refine k_pi (pc := 26) (ji := 6) hC fl_X8_24 rfl ft8_6 kk_117 (by decide) dX8_init_26 rfl ?_
  refine k_aloadA_n (pc := 29) hC dX8_init_29 rfl rfl kk_117 (by decide) ?_
  refine k_iconst (pc := 30) hC dX8_init_30 ?_
  refine k_pi (pc := 31) (ji := 7) hC fl_X8_27 rfl ft8_7 kk_117 (by decide) dX8_init_31 rfl ?_
  refine k_aloadA_n (pc := 34) hC dX8_init_34 rfl rfl kk_117 (by decide) ?_
  refine k_iconst (pc := 35) hC dX8_init_35 ?_
  refine k_pi (pc := 36) (ji := 8) hC fl_X8_30 rfl ft8_8 kk_117 (by decide) dX8_init_36 rfl ?_
  refine k_aloadA_n (pc := 39) hC dX8_init_39 rfl rfl kk_117 (by decide) ?_
  refine k_bipush (pc := 40) hC dX8_init_40 rfl ?_
  refine k_newI (pc := 42) hC aw_int (a := 118) (N := 12) (by decide) kk_118 ll_118 (by decide) (by decide) (by decide) (Nat.le_of_ble_eq_true rfl) (Nat.le_of_ble_eq_true rfl) dX8_init_42 (kc2 := 1) (ks2 := 12) rfl rfl ?_
  refine k_pf (pc := 44) (ji := 9) hC hI fd_X8_33 fl_X8_33 rfl ft8_9 (by decide) kk_117 (by decide) dX8_init_44 rfl ?_
  refine k_aloadA_n (pc := 47) hC dX8_init_47 rfl rfl kk_117 (by decide) ?_
  refine k_bipush (pc := 48) hC dX8_init_48 rfl ?_
  refine k_newI (pc := 50) hC aw_int (a := 119) (N := 12) (by decide) kk_119 ll_119 (by decide) (by decide) (by decide) (Nat.le_of_ble_eq_true rfl) (Nat.le_of_ble_eq_true rfl) dX8_init_50 (kc2 := 2) (ks2 := 24) rfl rfl ?_
  refine k_pf (pc := 52) (ji := 10) hC hI fd_X8_37 fl_X8_37 rfl ft8_10 (by decide) kk_117 (by decide) dX8_init_52 rfl ?_
  refine k_aloadA_n (pc := 55) hC dX8_init_55 rfl rfl kk_117 (by decide) ?_
  refine k_bipush (pc := 56) hC dX8_init_56 rfl ?_
  refine k_newI (pc := 58) hC aw_int (a := 120) (N := 12) (by decide) kk_120 ll_120 (by decide) (by decide) (by decide) (Nat.le_of_ble_eq_true rfl) (Nat.le_of_ble_eq_true rfl) dX8_init_58 (kc2 := 3) (ks2 := 36) rfl rfl ?_
  refine k_pf (pc := 60) (ji := 11) hC hI fd_X8_40 fl_X8_40 rfl ft8_11 (by decide) kk_117 (by decide) dX8_init_60 rfl ?_
  refine k_aloadA_n (pc := 63) hC dX8_init_63 rfl rfl kk_117 (by decide) ?_
  refine k_bipush (pc := 64) hC dX8_init_64 rfl ?_
  refine k_newI (pc := 66) hC aw_int (a := 121) (N := 10) (by decide) kk_121 ll_121 (by decide) (by decide) (by decide) (Nat.le_of_ble_eq_true rfl) (Nat.le_of_ble_eq_true rfl) dX8_init_66 (kc2 := 4) (ks2 := 46) rfl rfl ?_
  refine k_pf (pc := 68) (ji := 12) hC hI fd_X8_45 fl_X8_45 rfl ft8_12 (by decide) kk_117 (by decide) dX8_init_68 rfl ?_
  refine k_aloadA_n (pc := 71) hC dX8_init_71 rfl rfl kk_117 (by decide) ?_
  refine k_bipush (pc := 72) hC dX8_init_72 rfl ?_
  refine k_newI (pc := 74) hC aw_int (a := 122) (N := 10) (by decide) kk_122 ll_122 (by decide) (by decide) (by decide) (Nat.le_of_ble_eq_true rfl) (Nat.le_of_ble_eq_true rfl) dX8_init_74 (kc2 := 5) (ks2 := 56) rfl rfl ?_
  refine k_pf (pc := 76) (ji := 13) hC hI fd_X8_48 fl_X8_48 rfl ft8_13 (by decide) kk_117 (by decide) dX8_init_76 rfl ?_
  refine k_aloadA_n (pc := 79) hC dX8_init_79 rfl rfl kk_117 (by decide) ?_
  refine k_sipush (pc := 80) hC dX8_init_80 rfl ?_
  refine k_newI (pc := 83) hC aw_int (a := 123) (N := 135) (by decide) kk_123 ll_123 (by decide) (by decide) (by decide) (Nat.le_of_ble_eq_true rfl) (Nat.le_of_ble_eq_true rfl) dX8_init_83 (kc2 := 6) (ks2 := 191) rfl rfl ?_
  refine k_pf (pc := 85) (ji := 14) hC hI fd_X8_51 fl_X8_51 rfl ft8_14 (by decide) kk_117 (by decide) dX8_init_85 rfl ?_
  refine k_aloadA_n (pc := 88) hC dX8_init_88 rfl rfl kk_117 (by decide) ?_
  refine k_aloadA_n (pc := 89) hC dX8_init_89 rfl rfl kk_3 (by decide) ?_
  refine k_pr (pc := 90) (ji := 0) hC fl_X8_54 rfl ft8_0 (by decide) kk_117 (by decide) dX8_init_90 rfl ?_
  refine k_aloadA_n (pc := 93) hC dX8_init_93 rfl rfl kk_117 (by decide) ?_
  refine k_aloadA_n (pc := 94) hC dX8_init_94 rfl rfl kk_3 (by decide) ?_
  refine k_gr (pc := 95) hC fl_X8_58 ft1_7 kk_3 (by decide) (b := 19) (by first | exact h_3_7 | rfl) dX8_init_95 ?_
  refine k_iload_n (pc := 98) hC dX8_init_98 rfl rfl ?_
  refine k_aald (pc := 99) hC (kk := 14) (t0 := 3) (Cn := "IceJudge$Skating") rfl (by decide) kk_19 (by decide) (b := 20) (by decide +kernel) (by first | exact h_19_0 | rfl) dX8_init_99 ?_
  refine k_pr (pc := 100) (ji := 1) hC fl_X8_64 rfl ft8_1 (by decide) kk_117 (by decide) dX8_init_100 rfl ?_
  exact k_vret (pc := 103) hC hR dX8_init_103 rfl rfl rfl
set_option maxHeartbeats 4000000 in
set_option maxRecDepth 20000 in
theorem ok_X8_init_124 {X : jX} {M : jM} (h_3_7 : M 3 7 = 19) (h_19_1 : M 19 1 = 26) : jCc X 124 yX8_init cX8_init 3 1 6 191 [jA 124, jA 3, jI 1] M (c_X8_init_124 M) := by
  refine jCc_of (own := RX8) (ls := [jA 124, jA 3, jI 1]) (by decide +kernel) rfl rfl (Nat.le_of_ble_eq_true rfl) rfl ?_
  intro C hC hI hR
  refine k_aloadA_n (pc := 0) hC dX8_init_0 rfl rfl kk_124 (by decide) ?_
  refine k_oinit (pc := 1) hC oi_X8 (by decide) (Nat.le_of_ble_eq_true rfl) (Nat.le_of_ble_eq_true rfl) dX8_init_1 ?_
  refine k_aloadA_n (pc := 4) hC dX8_init_4 rfl rfl kk_124 (by decide) ?_
  refine k_iconst (pc := 5) hC dX8_init_5 ?_
  refine k_pi (pc := 6) (ji := 2) hC fl_X8_9 rfl ft8_2 kk_124 (by decide) dX8_init_6 rfl ?_
  refine k_aloadA_n (pc := 9) hC dX8_init_9 rfl rfl kk_124 (by decide) ?_
  refine k_iconst (pc := 10) hC dX8_init_10 ?_
  refine k_pi (pc := 11) (ji := 3) hC fl_X8_15 rfl ft8_3 kk_124 (by decide) dX8_init_11 rfl ?_
  refine k_aloadA_n (pc := 14) hC dX8_init_14 rfl rfl kk_124 (by decide) ?_
  refine k_iconst (pc := 15) hC dX8_init_15 ?_
  refine k_pi (pc := 16) (ji := 4) hC fl_X8_18 rfl ft8_4 kk_124 (by decide) dX8_init_16 rfl ?_
  refine k_aloadA_n (pc := 19) hC dX8_init_19 rfl rfl kk_124 (by decide) ?_
  refine k_iconst (pc := 20) hC dX8_init_20 ?_
  refine k_pi (pc := 21) (ji := 5) hC fl_X8_21 rfl ft8_5 kk_124 (by decide) dX8_init_21 rfl ?_
  refine k_aloadA_n (pc := 24) hC dX8_init_24 rfl rfl kk_124 (by decide) ?_
  refine k_iconst (pc := 25) hC dX8_init_25 ?_
  refine k_pi (pc := 26) (ji := 6) hC fl_X8_24 rfl ft8_6 kk_124 (by decide) dX8_init_26 rfl ?_
  refine k_aloadA_n (pc := 29) hC dX8_init_29 rfl rfl kk_124 (by decide) ?_
  refine k_iconst (pc := 30) hC dX8_init_30 ?_
  refine k_pi (pc := 31) (ji := 7) hC fl_X8_27 rfl ft8_7 kk_124 (by decide) dX8_init_31 rfl ?_
  refine k_aloadA_n (pc := 34) hC dX8_init_34 rfl rfl kk_124 (by decide) ?_
  refine k_iconst (pc := 35) hC dX8_init_35 ?_
  refine k_pi (pc := 36) (ji := 8) hC fl_X8_30 rfl ft8_8 kk_124 (by decide) dX8_init_36 rfl ?_
  refine k_aloadA_n (pc := 39) hC dX8_init_39 rfl rfl kk_124 (by decide) ?_
  refine k_bipush (pc := 40) hC dX8_init_40 rfl ?_
  refine k_newI (pc := 42) hC aw_int (a := 125) (N := 12) (by decide) kk_125 ll_125 (by decide) (by decide) (by decide) (Nat.le_of_ble_eq_true rfl) (Nat.le_of_ble_eq_true rfl) dX8_init_42 (kc2 := 1) (ks2 := 12) rfl rfl ?_
  refine k_pf (pc := 44) (ji := 9) hC hI fd_X8_33 fl_X8_33 rfl ft8_9 (by decide) kk_124 (by decide) dX8_init_44 rfl ?_
  refine k_aloadA_n (pc := 47) hC dX8_init_47 rfl rfl kk_124 (by decide) ?_
  refine k_bipush (pc := 48) hC dX8_init_48 rfl ?_
  refine k_newI (pc := 50) hC aw_int (a := 126) (N := 12) (by decide) kk_126 ll_126 (by decide) (by decide) (by decide) (Nat.le_of_ble_eq_true rfl) (Nat.le_of_ble_eq_true rfl) dX8_init_50 (kc2 := 2) (ks2 := 24) rfl rfl ?_
  refine k_pf (pc := 52) (ji := 10) hC hI fd_X8_37 fl_X8_37 rfl ft8_10 (by decide) kk_124 (by decide) dX8_init_52 rfl ?_
  refine k_aloadA_n (pc := 55) hC dX8_init_55 rfl rfl kk_124 (by decide) ?_
  refine k_bipush (pc := 56) hC dX8_init_56 rfl ?_
  refine k_newI (pc := 58) hC aw_int (a := 127) (N := 12) (by decide) kk_127 ll_127 (by decide) (by decide) (by decide) (Nat.le_of_ble_eq_true rfl) (Nat.le_of_ble_eq_true rfl) dX8_init_58 (kc2 := 3) (ks2 := 36) rfl rfl ?_
  refine k_pf (pc := 60) (ji := 11) hC hI fd_X8_40 fl_X8_40 rfl ft8_11 (by decide) kk_124 (by decide) dX8_init_60 rfl ?_
  refine k_aloadA_n (pc := 63) hC dX8_init_63 rfl rfl kk_124 (by decide) ?_
  refine k_bipush (pc := 64) hC dX8_init_64 rfl ?_
  refine k_newI (pc := 66) hC aw_int (a := 128) (N := 10) (by decide) kk_128 ll_128 (by decide) (by decide) (by decide) (Nat.le_of_ble_eq_true rfl) (Nat.le_of_ble_eq_true rfl) dX8_init_66 (kc2 := 4) (ks2 := 46) rfl rfl ?_
  refine k_pf (pc := 68) (ji := 12) hC hI fd_X8_45 fl_X8_45 rfl ft8_12 (by decide) kk_124 (by decide) dX8_init_68 rfl ?_
  refine k_aloadA_n (pc := 71) hC dX8_init_71 rfl rfl kk_124 (by decide) ?_
  refine k_bipush (pc := 72) hC dX8_init_72 rfl ?_
  refine k_newI (pc := 74) hC aw_int (a := 129) (N := 10) (by decide) kk_129 ll_129 (by decide) (by decide) (by decide) (Nat.le_of_ble_eq_true rfl) (Nat.le_of_ble_eq_true rfl) dX8_init_74 (kc2 := 5) (ks2 := 56) rfl rfl ?_
  refine k_pf (pc := 76) (ji := 13) hC hI fd_X8_48 fl_X8_48 rfl ft8_13 (by decide) kk_124 (by decide) dX8_init_76 rfl ?_
  refine k_aloadA_n (pc := 79) hC dX8_init_79 rfl rfl kk_124 (by decide) ?_
  refine k_sipush (pc := 80) hC dX8_init_80 rfl ?_
  refine k_newI (pc := 83) hC aw_int (a := 130) (N := 135) (by decide) kk_130 ll_130 (by decide) (by decide) (by decide) (Nat.le_of_ble_eq_true rfl) (Nat.le_of_ble_eq_true rfl) dX8_init_83 (kc2 := 6) (ks2 := 191) rfl rfl ?_
  refine k_pf (pc := 85) (ji := 14) hC hI fd_X8_51 fl_X8_51 rfl ft8_14 (by decide) kk_124 (by decide) dX8_init_85 rfl ?_
  refine k_aloadA_n (pc := 88) hC dX8_init_88 rfl rfl kk_124 (by decide) ?_
  refine k_aloadA_n (pc := 89) hC dX8_init_89 rfl rfl kk_3 (by decide) ?_
  refine k_pr (pc := 90) (ji := 0) hC fl_X8_54 rfl ft8_0 (by decide) kk_124 (by decide) dX8_init_90 rfl ?_
  refine k_aloadA_n (pc := 93) hC dX8_init_93 rfl rfl kk_124 (by decide) ?_
  refine k_aloadA_n (pc := 94) hC dX8_init_94 rfl rfl kk_3 (by decide) ?_
  refine k_gr (pc := 95) hC fl_X8_58 ft1_7 kk_3 (by decide) (b := 19) (by first | exact h_3_7 | rfl) dX8_init_95 ?_
  refine k_iload_n (pc := 98) hC dX8_init_98 rfl rfl ?_
  refine k_aald (pc := 99) hC (kk := 14) (t0 := 3) (Cn := "IceJudge$Skating") rfl (by decide) kk_19 (by decide) (b := 26) (by decide +kernel) (by first | exact h_19_1 | rfl) dX8_init_99 ?_
  refine k_pr (pc := 100) (ji := 1) hC fl_X8_64 rfl ft8_1 (by decide) kk_124 (by decide) dX8_init_100 rfl ?_
  exact k_vret (pc := 103) hC hR dX8_init_103 rfl rfl rfl
set_option maxHeartbeats 4000000 in
set_option maxRecDepth 20000 in
theorem ok_X8_init_131 {X : jX} {M : jM} (h_3_7 : M 3 7 = 19) (h_19_2 : M 19 2 = 32) : jCc X 131 yX8_init cX8_init 3 1 6 191 [jA 131, jA 3, jI 2] M (c_X8_init_131 M) := by
  refine jCc_of (own := RX8) (ls := [jA 131, jA 3, jI 2]) (by decide +kernel) rfl rfl (Nat.le_of_ble_eq_true rfl) rfl ?_
  intro C hC hI hR
  refine k_aloadA_n (pc := 0) hC dX8_init_0 rfl rfl kk_131 (by decide) ?_
  refine k_oinit (pc := 1) hC oi_X8 (by decide) (Nat.le_of_ble_eq_true rfl) (Nat.le_of_ble_eq_true rfl) dX8_init_1 ?_
  refine k_aloadA_n (pc := 4) hC dX8_init_4 rfl rfl kk_131 (by decide) ?_
  refine k_iconst (pc := 5) hC dX8_init_5 ?_
  refine k_pi (pc := 6) (ji := 2) hC fl_X8_9 rfl ft8_2 kk_131 (by decide) dX8_init_6 rfl ?_
  refine k_aloadA_n (pc := 9) hC dX8_init_9 rfl rfl kk_131 (by decide) ?_
  refine k_iconst (pc := 10) hC dX8_init_10 ?_
  refine k_pi (pc := 11) (ji := 3) hC fl_X8_15 rfl ft8_3 kk_131 (by decide) dX8_init_11 rfl ?_
  refine k_aloadA_n (pc := 14) hC dX8_init_14 rfl rfl kk_131 (by decide) ?_
  refine k_iconst (pc := 15) hC dX8_init_15 ?_
  refine k_pi (pc := 16) (ji := 4) hC fl_X8_18 rfl ft8_4 kk_131 (by decide) dX8_init_16 rfl ?_
  refine k_aloadA_n (pc := 19) hC dX8_init_19 rfl rfl kk_131 (by decide) ?_
  refine k_iconst (pc := 20) hC dX8_init_20 ?_
  refine k_pi (pc := 21) (ji := 5) hC fl_X8_21 rfl ft8_5 kk_131 (by decide) dX8_init_21 rfl ?_
  refine k_aloadA_n (pc := 24) hC dX8_init_24 rfl rfl kk_131 (by decide) ?_
  refine k_iconst (pc := 25) hC dX8_init_25 ?_
  refine k_pi (pc := 26) (ji := 6) hC fl_X8_24 rfl ft8_6 kk_131 (by decide) dX8_init_26 rfl ?_
  refine k_aloadA_n (pc := 29) hC dX8_init_29 rfl rfl kk_131 (by decide) ?_
  refine k_iconst (pc := 30) hC dX8_init_30 ?_
  refine k_pi (pc := 31) (ji := 7) hC fl_X8_27 rfl ft8_7 kk_131 (by decide) dX8_init_31 rfl ?_
  refine k_aloadA_n (pc := 34) hC dX8_init_34 rfl rfl kk_131 (by decide) ?_
  refine k_iconst (pc := 35) hC dX8_init_35 ?_
  refine k_pi (pc := 36) (ji := 8) hC fl_X8_30 rfl ft8_8 kk_131 (by decide) dX8_init_36 rfl ?_
  refine k_aloadA_n (pc := 39) hC dX8_init_39 rfl rfl kk_131 (by decide) ?_
  refine k_bipush (pc := 40) hC dX8_init_40 rfl ?_
  refine k_newI (pc := 42) hC aw_int (a := 132) (N := 12) (by decide) kk_132 ll_132 (by decide) (by decide) (by decide) (Nat.le_of_ble_eq_true rfl) (Nat.le_of_ble_eq_true rfl) dX8_init_42 (kc2 := 1) (ks2 := 12) rfl rfl ?_
  refine k_pf (pc := 44) (ji := 9) hC hI fd_X8_33 fl_X8_33 rfl ft8_9 (by decide) kk_131 (by decide) dX8_init_44 rfl ?_
  refine k_aloadA_n (pc := 47) hC dX8_init_47 rfl rfl kk_131 (by decide) ?_
  refine k_bipush (pc := 48) hC dX8_init_48 rfl ?_
  refine k_newI (pc := 50) hC aw_int (a := 133) (N := 12) (by decide) kk_133 ll_133 (by decide) (by decide) (by decide) (Nat.le_of_ble_eq_true rfl) (Nat.le_of_ble_eq_true rfl) dX8_init_50 (kc2 := 2) (ks2 := 24) rfl rfl ?_
  refine k_pf (pc := 52) (ji := 10) hC hI fd_X8_37 fl_X8_37 rfl ft8_10 (by decide) kk_131 (by decide) dX8_init_52 rfl ?_
  refine k_aloadA_n (pc := 55) hC dX8_init_55 rfl rfl kk_131 (by decide) ?_
  refine k_bipush (pc := 56) hC dX8_init_56 rfl ?_
  refine k_newI (pc := 58) hC aw_int (a := 134) (N := 12) (by decide) kk_134 ll_134 (by decide) (by decide) (by decide) (Nat.le_of_ble_eq_true rfl) (Nat.le_of_ble_eq_true rfl) dX8_init_58 (kc2 := 3) (ks2 := 36) rfl rfl ?_
  refine k_pf (pc := 60) (ji := 11) hC hI fd_X8_40 fl_X8_40 rfl ft8_11 (by decide) kk_131 (by decide) dX8_init_60 rfl ?_
  refine k_aloadA_n (pc := 63) hC dX8_init_63 rfl rfl kk_131 (by decide) ?_
  refine k_bipush (pc := 64) hC dX8_init_64 rfl ?_
  refine k_newI (pc := 66) hC aw_int (a := 135) (N := 10) (by decide) kk_135 ll_135 (by decide) (by decide) (by decide) (Nat.le_of_ble_eq_true rfl) (Nat.le_of_ble_eq_true rfl) dX8_init_66 (kc2 := 4) (ks2 := 46) rfl rfl ?_
  refine k_pf (pc := 68) (ji := 12) hC hI fd_X8_45 fl_X8_45 rfl ft8_12 (by decide) kk_131 (by decide) dX8_init_68 rfl ?_
  refine k_aloadA_n (pc := 71) hC dX8_init_71 rfl rfl kk_131 (by decide) ?_
  refine k_bipush (pc := 72) hC dX8_init_72 rfl ?_
  refine k_newI (pc := 74) hC aw_int (a := 136) (N := 10) (by decide) kk_136 ll_136 (by decide) (by decide) (by decide) (Nat.le_of_ble_eq_true rfl) (Nat.le_of_ble_eq_true rfl) dX8_init_74 (kc2 := 5) (ks2 := 56) rfl rfl ?_
  refine k_pf (pc := 76) (ji := 13) hC hI fd_X8_48 fl_X8_48 rfl ft8_13 (by decide) kk_131 (by decide) dX8_init_76 rfl ?_
  refine k_aloadA_n (pc := 79) hC dX8_init_79 rfl rfl kk_131 (by decide) ?_
  refine k_sipush (pc := 80) hC dX8_init_80 rfl ?_
  refine k_newI (pc := 83) hC aw_int (a := 137) (N := 135) (by decide) kk_137 ll_137 (by decide) (by decide) (by decide) (Nat.le_of_ble_eq_true rfl) (Nat.le_of_ble_eq_true rfl) dX8_init_83 (kc2 := 6) (ks2 := 191) rfl rfl ?_
  refine k_pf (pc := 85) (ji := 14) hC hI fd_X8_51 fl_X8_51 rfl ft8_14 (by decide) kk_131 (by decide) dX8_init_85 rfl ?_
  refine k_aloadA_n (pc := 88) hC dX8_init_88 rfl rfl kk_131 (by decide) ?_
  refine k_aloadA_n (pc := 89) hC dX8_init_89 rfl rfl kk_3 (by decide) ?_
  refine k_pr (pc := 90) (ji := 0) hC fl_X8_54 rfl ft8_0 (by decide) kk_131 (by decide) dX8_init_90 rfl ?_
  refine k_aloadA_n (pc := 93) hC dX8_init_93 rfl rfl kk_131 (by decide) ?_
  refine k_aloadA_n (pc := 94) hC dX8_init_94 rfl rfl kk_3 (by decide) ?_
  refine k_gr (pc := 95) hC fl_X8_58 ft1_7 kk_3 (by decide) (b := 19) (by first | exact h_3_7 | rfl) dX8_init_95 ?_
  refine k_iload_n (pc := 98) hC dX8_init_98 rfl rfl ?_
  refine k_aald (pc := 99) hC (kk := 14) (t0 := 3) (Cn := "IceJudge$Skating") rfl (by decide) kk_19 (by decide) (b := 32) (by decide +kernel) (by first | exact h_19_2 | rfl) dX8_init_99 ?_
  refine k_pr (pc := 100) (ji := 1) hC fl_X8_64 rfl ft8_1 (by decide) kk_131 (by decide) dX8_init_100 rfl ?_
  exact k_vret (pc := 103) hC hR dX8_init_103 rfl rfl rfl
set_option maxHeartbeats 4000000 in
set_option maxRecDepth 20000 in
theorem ok_X8_init_138 {X : jX} {M : jM} (h_3_7 : M 3 7 = 19) (h_19_3 : M 19 3 = 38) : jCc X 138 yX8_init cX8_init 3 1 6 191 [jA 138, jA 3, jI 3] M (c_X8_init_138 M) := by
  refine jCc_of (own := RX8) (ls := [jA 138, jA 3, jI 3]) (by decide +kernel) rfl rfl (Nat.le_of_ble_eq_true rfl) rfl ?_
  intro C hC hI hR
  refine k_aloadA_n (pc := 0) hC dX8_init_0 rfl rfl kk_138 (by decide) ?_
  refine k_oinit (pc := 1) hC oi_X8 (by decide) (Nat.le_of_ble_eq_true rfl) (Nat.le_of_ble_eq_true rfl) dX8_init_1 ?_
  refine k_aloadA_n (pc := 4) hC dX8_init_4 rfl rfl kk_138 (by decide) ?_
  refine k_iconst (pc := 5) hC dX8_init_5 ?_
  refine k_pi (pc := 6) (ji := 2) hC fl_X8_9 rfl ft8_2 kk_138 (by decide) dX8_init_6 rfl ?_
  refine k_aloadA_n (pc := 9) hC dX8_init_9 rfl rfl kk_138 (by decide) ?_
  refine k_iconst (pc := 10) hC dX8_init_10 ?_
  refine k_pi (pc := 11) (ji := 3) hC fl_X8_15 rfl ft8_3 kk_138 (by decide) dX8_init_11 rfl ?_
  refine k_aloadA_n (pc := 14) hC dX8_init_14 rfl rfl kk_138 (by decide) ?_
  refine k_iconst (pc := 15) hC dX8_init_15 ?_
  refine k_pi (pc := 16) (ji := 4) hC fl_X8_18 rfl ft8_4 kk_138 (by decide) dX8_init_16 rfl ?_
  refine k_aloadA_n (pc := 19) hC dX8_init_19 rfl rfl kk_138 (by decide) ?_
  refine k_iconst (pc := 20) hC dX8_init_20 ?_
  refine k_pi (pc := 21) (ji := 5) hC fl_X8_21 rfl ft8_5 kk_138 (by decide) dX8_init_21 rfl ?_
  refine k_aloadA_n (pc := 24) hC dX8_init_24 rfl rfl kk_138 (by decide) ?_
  refine k_iconst (pc := 25) hC dX8_init_25 ?_
  refine k_pi (pc := 26) (ji := 6) hC fl_X8_24 rfl ft8_6 kk_138 (by decide) dX8_init_26 rfl ?_
  refine k_aloadA_n (pc := 29) hC dX8_init_29 rfl rfl kk_138 (by decide) ?_
  refine k_iconst (pc := 30) hC dX8_init_30 ?_
  refine k_pi (pc := 31) (ji := 7) hC fl_X8_27 rfl ft8_7 kk_138 (by decide) dX8_init_31 rfl ?_
  refine k_aloadA_n (pc := 34) hC dX8_init_34 rfl rfl kk_138 (by decide) ?_
  refine k_iconst (pc := 35) hC dX8_init_35 ?_
  refine k_pi (pc := 36) (ji := 8) hC fl_X8_30 rfl ft8_8 kk_138 (by decide) dX8_init_36 rfl ?_
  refine k_aloadA_n (pc := 39) hC dX8_init_39 rfl rfl kk_138 (by decide) ?_
  refine k_bipush (pc := 40) hC dX8_init_40 rfl ?_
  refine k_newI (pc := 42) hC aw_int (a := 139) (N := 12) (by decide) kk_139 ll_139 (by decide) (by decide) (by decide) (Nat.le_of_ble_eq_true rfl) (Nat.le_of_ble_eq_true rfl) dX8_init_42 (kc2 := 1) (ks2 := 12) rfl rfl ?_
  refine k_pf (pc := 44) (ji := 9) hC hI fd_X8_33 fl_X8_33 rfl ft8_9 (by decide) kk_138 (by decide) dX8_init_44 rfl ?_
  refine k_aloadA_n (pc := 47) hC dX8_init_47 rfl rfl kk_138 (by decide) ?_
  refine k_bipush (pc := 48) hC dX8_init_48 rfl ?_
  refine k_newI (pc := 50) hC aw_int (a := 140) (N := 12) (by decide) kk_140 ll_140 (by decide) (by decide) (by decide) (Nat.le_of_ble_eq_true rfl) (Nat.le_of_ble_eq_true rfl) dX8_init_50 (kc2 := 2) (ks2 := 24) rfl rfl ?_
  refine k_pf (pc := 52) (ji := 10) hC hI fd_X8_37 fl_X8_37 rfl ft8_10 (by decide) kk_138 (by decide) dX8_init_52 rfl ?_
  refine k_aloadA_n (pc := 55) hC dX8_init_55 rfl rfl kk_138 (by decide) ?_
  refine k_bipush (pc := 56) hC dX8_init_56 rfl ?_
  refine k_newI (pc := 58) hC aw_int (a := 141) (N := 12) (by decide) kk_141 ll_141 (by decide) (by decide) (by decide) (Nat.le_of_ble_eq_true rfl) (Nat.le_of_ble_eq_true rfl) dX8_init_58 (kc2 := 3) (ks2 := 36) rfl rfl ?_
  refine k_pf (pc := 60) (ji := 11) hC hI fd_X8_40 fl_X8_40 rfl ft8_11 (by decide) kk_138 (by decide) dX8_init_60 rfl ?_
  refine k_aloadA_n (pc := 63) hC dX8_init_63 rfl rfl kk_138 (by decide) ?_
  refine k_bipush (pc := 64) hC dX8_init_64 rfl ?_
  refine k_newI (pc := 66) hC aw_int (a := 142) (N := 10) (by decide) kk_142 ll_142 (by decide) (by decide) (by decide) (Nat.le_of_ble_eq_true rfl) (Nat.le_of_ble_eq_true rfl) dX8_init_66 (kc2 := 4) (ks2 := 46) rfl rfl ?_
  refine k_pf (pc := 68) (ji := 12) hC hI fd_X8_45 fl_X8_45 rfl ft8_12 (by decide) kk_138 (by decide) dX8_init_68 rfl ?_
  refine k_aloadA_n (pc := 71) hC dX8_init_71 rfl rfl kk_138 (by decide) ?_
  refine k_bipush (pc := 72) hC dX8_init_72 rfl ?_
  refine k_newI (pc := 74) hC aw_int (a := 143) (N := 10) (by decide) kk_143 ll_143 (by decide) (by decide) (by decide) (Nat.le_of_ble_eq_true rfl) (Nat.le_of_ble_eq_true rfl) dX8_init_74 (kc2 := 5) (ks2 := 56) rfl rfl ?_
  refine k_pf (pc := 76) (ji := 13) hC hI fd_X8_48 fl_X8_48 rfl ft8_13 (by decide) kk_138 (by decide) dX8_init_76 rfl ?_
  refine k_aloadA_n (pc := 79) hC dX8_init_79 rfl rfl kk_138 (by decide) ?_
  refine k_sipush (pc := 80) hC dX8_init_80 rfl ?_
  refine k_newI (pc := 83) hC aw_int (a := 144) (N := 135) (by decide) kk_144 ll_144 (by decide) (by decide) (by decide) (Nat.le_of_ble_eq_true rfl) (Nat.le_of_ble_eq_true rfl) dX8_init_83 (kc2 := 6) (ks2 := 191) rfl rfl ?_
  refine k_pf (pc := 85) (ji := 14) hC hI fd_X8_51 fl_X8_51 rfl ft8_14 (by decide) kk_138 (by decide) dX8_init_85 rfl ?_
  refine k_aloadA_n (pc := 88) hC dX8_init_88 rfl rfl kk_138 (by decide) ?_
  refine k_aloadA_n (pc := 89) hC dX8_init_89 rfl rfl kk_3 (by decide) ?_
  refine k_pr (pc := 90) (ji := 0) hC fl_X8_54 rfl ft8_0 (by decide) kk_138 (by decide) dX8_init_90 rfl ?_
  refine k_aloadA_n (pc := 93) hC dX8_init_93 rfl rfl kk_138 (by decide) ?_
  refine k_aloadA_n (pc := 94) hC dX8_init_94 rfl rfl kk_3 (by decide) ?_
  refine k_gr (pc := 95) hC fl_X8_58 ft1_7 kk_3 (by decide) (b := 19) (by first | exact h_3_7 | rfl) dX8_init_95 ?_
  refine k_iload_n (pc := 98) hC dX8_init_98 rfl rfl ?_
  refine k_aald (pc := 99) hC (kk := 14) (t0 := 3) (Cn := "IceJudge$Skating") rfl (by decide) kk_19 (by decide) (b := 38) (by decide +kernel) (by first | exact h_19_3 | rfl) dX8_init_99 ?_
  refine k_pr (pc := 100) (ji := 1) hC fl_X8_64 rfl ft8_1 (by decide) kk_138 (by decide) dX8_init_100 rfl ?_
  exact k_vret (pc := 103) hC hR dX8_init_103 rfl rfl rfl
set_option maxHeartbeats 4000000 in
set_option maxRecDepth 20000 in
theorem ok_X8_init_145 {X : jX} {M : jM} (h_3_7 : M 3 7 = 19) (h_19_4 : M 19 4 = 44) : jCc X 145 yX8_init cX8_init 3 1 6 191 [jA 145, jA 3, jI 4] M (c_X8_init_145 M) := by
  refine jCc_of (own := RX8) (ls := [jA 145, jA 3, jI 4]) (by decide +kernel) rfl rfl (Nat.le_of_ble_eq_true rfl) rfl ?_
  intro C hC hI hR
  refine k_aloadA_n (pc := 0) hC dX8_init_0 rfl rfl kk_145 (by decide) ?_
  refine k_oinit (pc := 1) hC oi_X8 (by decide) (Nat.le_of_ble_eq_true rfl) (Nat.le_of_ble_eq_true rfl) dX8_init_1 ?_
  refine k_aloadA_n (pc := 4) hC dX8_init_4 rfl rfl kk_145 (by decide) ?_
  refine k_iconst (pc := 5) hC dX8_init_5 ?_
  refine k_pi (pc := 6) (ji := 2) hC fl_X8_9 rfl ft8_2 kk_145 (by decide) dX8_init_6 rfl ?_
  refine k_aloadA_n (pc := 9) hC dX8_init_9 rfl rfl kk_145 (by decide) ?_
  refine k_iconst (pc := 10) hC dX8_init_10 ?_
  refine k_pi (pc := 11) (ji := 3) hC fl_X8_15 rfl ft8_3 kk_145 (by decide) dX8_init_11 rfl ?_
  refine k_aloadA_n (pc := 14) hC dX8_init_14 rfl rfl kk_145 (by decide) ?_
  refine k_iconst (pc := 15) hC dX8_init_15 ?_
  refine k_pi (pc := 16) (ji := 4) hC fl_X8_18 rfl ft8_4 kk_145 (by decide) dX8_init_16 rfl ?_
  refine k_aloadA_n (pc := 19) hC dX8_init_19 rfl rfl kk_145 (by decide) ?_
  refine k_iconst (pc := 20) hC dX8_init_20 ?_
  refine k_pi (pc := 21) (ji := 5) hC fl_X8_21 rfl ft8_5 kk_145 (by decide) dX8_init_21 rfl ?_
  refine k_aloadA_n (pc := 24) hC dX8_init_24 rfl rfl kk_145 (by decide) ?_
  refine k_iconst (pc := 25) hC dX8_init_25 ?_
  refine k_pi (pc := 26) (ji := 6) hC fl_X8_24 rfl ft8_6 kk_145 (by decide) dX8_init_26 rfl ?_
  refine k_aloadA_n (pc := 29) hC dX8_init_29 rfl rfl kk_145 (by decide) ?_
  refine k_iconst (pc := 30) hC dX8_init_30 ?_
  refine k_pi (pc := 31) (ji := 7) hC fl_X8_27 rfl ft8_7 kk_145 (by decide) dX8_init_31 rfl ?_
  refine k_aloadA_n (pc := 34) hC dX8_init_34 rfl rfl kk_145 (by decide) ?_
  refine k_iconst (pc := 35) hC dX8_init_35 ?_
  refine k_pi (pc := 36) (ji := 8) hC fl_X8_30 rfl ft8_8 kk_145 (by decide) dX8_init_36 rfl ?_
  refine k_aloadA_n (pc := 39) hC dX8_init_39 rfl rfl kk_145 (by decide) ?_
  refine k_bipush (pc := 40) hC dX8_init_40 rfl ?_
  refine k_newI (pc := 42) hC aw_int (a := 146) (N := 12) (by decide) kk_146 ll_146 (by decide) (by decide) (by decide) (Nat.le_of_ble_eq_true rfl) (Nat.le_of_ble_eq_true rfl) dX8_init_42 (kc2 := 1) (ks2 := 12) rfl rfl ?_
  refine k_pf (pc := 44) (ji := 9) hC hI fd_X8_33 fl_X8_33 rfl ft8_9 (by decide) kk_145 (by decide) dX8_init_44 rfl ?_
  refine k_aloadA_n (pc := 47) hC dX8_init_47 rfl rfl kk_145 (by decide) ?_
  refine k_bipush (pc := 48) hC dX8_init_48 rfl ?_
  refine k_newI (pc := 50) hC aw_int (a := 147) (N := 12) (by decide) kk_147 ll_147 (by decide) (by decide) (by decide) (Nat.le_of_ble_eq_true rfl) (Nat.le_of_ble_eq_true rfl) dX8_init_50 (kc2 := 2) (ks2 := 24) rfl rfl ?_
  refine k_pf (pc := 52) (ji := 10) hC hI fd_X8_37 fl_X8_37 rfl ft8_10 (by decide) kk_145 (by decide) dX8_init_52 rfl ?_
  refine k_aloadA_n (pc := 55) hC dX8_init_55 rfl rfl kk_145 (by decide) ?_
  refine k_bipush (pc := 56) hC dX8_init_56 rfl ?_
  refine k_newI (pc := 58) hC aw_int (a := 148) (N := 12) (by decide) kk_148 ll_148 (by decide) (by decide) (by decide) (Nat.le_of_ble_eq_true rfl) (Nat.le_of_ble_eq_true rfl) dX8_init_58 (kc2 := 3) (ks2 := 36) rfl rfl ?_
  refine k_pf (pc := 60) (ji := 11) hC hI fd_X8_40 fl_X8_40 rfl ft8_11 (by decide) kk_145 (by decide) dX8_init_60 rfl ?_
  refine k_aloadA_n (pc := 63) hC dX8_init_63 rfl rfl kk_145 (by decide) ?_
  refine k_bipush (pc := 64) hC dX8_init_64 rfl ?_
  refine k_newI (pc := 66) hC aw_int (a := 149) (N := 10) (by decide) kk_149 ll_149 (by decide) (by decide) (by decide) (Nat.le_of_ble_eq_true rfl) (Nat.le_of_ble_eq_true rfl) dX8_init_66 (kc2 := 4) (ks2 := 46) rfl rfl ?_
  refine k_pf (pc := 68) (ji := 12) hC hI fd_X8_45 fl_X8_45 rfl ft8_12 (by decide) kk_145 (by decide) dX8_init_68 rfl ?_
  refine k_aloadA_n (pc := 71) hC dX8_init_71 rfl rfl kk_145 (by decide) ?_
  refine k_bipush (pc := 72) hC dX8_init_72 rfl ?_
  refine k_newI (pc := 74) hC aw_int (a := 150) (N := 10) (by decide) kk_150 ll_150 (by decide) (by decide) (by decide) (Nat.le_of_ble_eq_true rfl) (Nat.le_of_ble_eq_true rfl) dX8_init_74 (kc2 := 5) (ks2 := 56) rfl rfl ?_
  refine k_pf (pc := 76) (ji := 13) hC hI fd_X8_48 fl_X8_48 rfl ft8_13 (by decide) kk_145 (by decide) dX8_init_76 rfl ?_
  refine k_aloadA_n (pc := 79) hC dX8_init_79 rfl rfl kk_145 (by decide) ?_
  refine k_sipush (pc := 80) hC dX8_init_80 rfl ?_
  refine k_newI (pc := 83) hC aw_int (a := 151) (N := 135) (by decide) kk_151 ll_151 (by decide) (by decide) (by decide) (Nat.le_of_ble_eq_true rfl) (Nat.le_of_ble_eq_true rfl) dX8_init_83 (kc2 := 6) (ks2 := 191) rfl rfl ?_
  refine k_pf (pc := 85) (ji := 14) hC hI fd_X8_51 fl_X8_51 rfl ft8_14 (by decide) kk_145 (by decide) dX8_init_85 rfl ?_
  refine k_aloadA_n (pc := 88) hC dX8_init_88 rfl rfl kk_145 (by decide) ?_
  refine k_aloadA_n (pc := 89) hC dX8_init_89 rfl rfl kk_3 (by decide) ?_
  refine k_pr (pc := 90) (ji := 0) hC fl_X8_54 rfl ft8_0 (by decide) kk_145 (by decide) dX8_init_90 rfl ?_
  refine k_aloadA_n (pc := 93) hC dX8_init_93 rfl rfl kk_145 (by decide) ?_
  refine k_aloadA_n (pc := 94) hC dX8_init_94 rfl rfl kk_3 (by decide) ?_
  refine k_gr (pc := 95) hC fl_X8_58 ft1_7 kk_3 (by decide) (b := 19) (by first | exact h_3_7 | rfl) dX8_init_95 ?_
  refine k_iload_n (pc := 98) hC dX8_init_98 rfl rfl ?_
  refine k_aald (pc := 99) hC (kk := 14) (t0 := 3) (Cn := "IceJudge$Skating") rfl (by decide) kk_19 (by decide) (b := 44) (by decide +kernel) (by first | exact h_19_4 | rfl) dX8_init_99 ?_
  refine k_pr (pc := 100) (ji := 1) hC fl_X8_64 rfl ft8_1 (by decide) kk_145 (by decide) dX8_init_100 rfl ?_
  exact k_vret (pc := 103) hC hR dX8_init_103 rfl rfl rfl
set_option maxHeartbeats 4000000 in
set_option maxRecDepth 20000 in
theorem ok_X8_init_152 {X : jX} {M : jM} (h_3_7 : M 3 7 = 19) (h_19_5 : M 19 5 = 50) : jCc X 152 yX8_init cX8_init 3 1 6 191 [jA 152, jA 3, jI 5] M (c_X8_init_152 M) := by
  refine jCc_of (own := RX8) (ls := [jA 152, jA 3, jI 5]) (by decide +kernel) rfl rfl (Nat.le_of_ble_eq_true rfl) rfl ?_
  intro C hC hI hR
  refine k_aloadA_n (pc := 0) hC dX8_init_0 rfl rfl kk_152 (by decide) ?_
  refine k_oinit (pc := 1) hC oi_X8 (by decide) (Nat.le_of_ble_eq_true rfl) (Nat.le_of_ble_eq_true rfl) dX8_init_1 ?_
  refine k_aloadA_n (pc := 4) hC dX8_init_4 rfl rfl kk_152 (by decide) ?_
  refine k_iconst (pc := 5) hC dX8_init_5 ?_
  refine k_pi (pc := 6) (ji := 2) hC fl_X8_9 rfl ft8_2 kk_152 (by decide) dX8_init_6 rfl ?_
  refine k_aloadA_n (pc := 9) hC dX8_init_9 rfl rfl kk_152 (by decide) ?_
  refine k_iconst (pc := 10) hC dX8_init_10 ?_
  refine k_pi (pc := 11) (ji := 3) hC fl_X8_15 rfl ft8_3 kk_152 (by decide) dX8_init_11 rfl ?_
  refine k_aloadA_n (pc := 14) hC dX8_init_14 rfl rfl kk_152 (by decide) ?_
  refine k_iconst (pc := 15) hC dX8_init_15 ?_
  refine k_pi (pc := 16) (ji := 4) hC fl_X8_18 rfl ft8_4 kk_152 (by decide) dX8_init_16 rfl ?_
  refine k_aloadA_n (pc := 19) hC dX8_init_19 rfl rfl kk_152 (by decide) ?_
  refine k_iconst (pc := 20) hC dX8_init_20 ?_
  refine k_pi (pc := 21) (ji := 5) hC fl_X8_21 rfl ft8_5 kk_152 (by decide) dX8_init_21 rfl ?_
  refine k_aloadA_n (pc := 24) hC dX8_init_24 rfl rfl kk_152 (by decide) ?_
  refine k_iconst (pc := 25) hC dX8_init_25 ?_
  refine k_pi (pc := 26) (ji := 6) hC fl_X8_24 rfl ft8_6 kk_152 (by decide) dX8_init_26 rfl ?_
  refine k_aloadA_n (pc := 29) hC dX8_init_29 rfl rfl kk_152 (by decide) ?_
  refine k_iconst (pc := 30) hC dX8_init_30 ?_
  refine k_pi (pc := 31) (ji := 7) hC fl_X8_27 rfl ft8_7 kk_152 (by decide) dX8_init_31 rfl ?_
  refine k_aloadA_n (pc := 34) hC dX8_init_34 rfl rfl kk_152 (by decide) ?_
  refine k_iconst (pc := 35) hC dX8_init_35 ?_
  refine k_pi (pc := 36) (ji := 8) hC fl_X8_30 rfl ft8_8 kk_152 (by decide) dX8_init_36 rfl ?_
  refine k_aloadA_n (pc := 39) hC dX8_init_39 rfl rfl kk_152 (by decide) ?_
  refine k_bipush (pc := 40) hC dX8_init_40 rfl ?_
  refine k_newI (pc := 42) hC aw_int (a := 153) (N := 12) (by decide) kk_153 ll_153 (by decide) (by decide) (by decide) (Nat.le_of_ble_eq_true rfl) (Nat.le_of_ble_eq_true rfl) dX8_init_42 (kc2 := 1) (ks2 := 12) rfl rfl ?_
  refine k_pf (pc := 44) (ji := 9) hC hI fd_X8_33 fl_X8_33 rfl ft8_9 (by decide) kk_152 (by decide) dX8_init_44 rfl ?_
  refine k_aloadA_n (pc := 47) hC dX8_init_47 rfl rfl kk_152 (by decide) ?_
  refine k_bipush (pc := 48) hC dX8_init_48 rfl ?_
  refine k_newI (pc := 50) hC aw_int (a := 154) (N := 12) (by decide) kk_154 ll_154 (by decide) (by decide) (by decide) (Nat.le_of_ble_eq_true rfl) (Nat.le_of_ble_eq_true rfl) dX8_init_50 (kc2 := 2) (ks2 := 24) rfl rfl ?_
  refine k_pf (pc := 52) (ji := 10) hC hI fd_X8_37 fl_X8_37 rfl ft8_10 (by decide) kk_152 (by decide) dX8_init_52 rfl ?_
  refine k_aloadA_n (pc := 55) hC dX8_init_55 rfl rfl kk_152 (by decide) ?_
  refine k_bipush (pc := 56) hC dX8_init_56 rfl ?_
  refine k_newI (pc := 58) hC aw_int (a := 155) (N := 12) (by decide) kk_155 ll_155 (by decide) (by decide) (by decide) (Nat.le_of_ble_eq_true rfl) (Nat.le_of_ble_eq_true rfl) dX8_init_58 (kc2 := 3) (ks2 := 36) rfl rfl ?_
  refine k_pf (pc := 60) (ji := 11) hC hI fd_X8_40 fl_X8_40 rfl ft8_11 (by decide) kk_152 (by decide) dX8_init_60 rfl ?_
  refine k_aloadA_n (pc := 63) hC dX8_init_63 rfl rfl kk_152 (by decide) ?_
  refine k_bipush (pc := 64) hC dX8_init_64 rfl ?_
  refine k_newI (pc := 66) hC aw_int (a := 156) (N := 10) (by decide) kk_156 ll_156 (by decide) (by decide) (by decide) (Nat.le_of_ble_eq_true rfl) (Nat.le_of_ble_eq_true rfl) dX8_init_66 (kc2 := 4) (ks2 := 46) rfl rfl ?_
  refine k_pf (pc := 68) (ji := 12) hC hI fd_X8_45 fl_X8_45 rfl ft8_12 (by decide) kk_152 (by decide) dX8_init_68 rfl ?_
  refine k_aloadA_n (pc := 71) hC dX8_init_71 rfl rfl kk_152 (by decide) ?_
  refine k_bipush (pc := 72) hC dX8_init_72 rfl ?_
  refine k_newI (pc := 74) hC aw_int (a := 157) (N := 10) (by decide) kk_157 ll_157 (by decide) (by decide) (by decide) (Nat.le_of_ble_eq_true rfl) (Nat.le_of_ble_eq_true rfl) dX8_init_74 (kc2 := 5) (ks2 := 56) rfl rfl ?_
  refine k_pf (pc := 76) (ji := 13) hC hI fd_X8_48 fl_X8_48 rfl ft8_13 (by decide) kk_152 (by decide) dX8_init_76 rfl ?_
  refine k_aloadA_n (pc := 79) hC dX8_init_79 rfl rfl kk_152 (by decide) ?_
  refine k_sipush (pc := 80) hC dX8_init_80 rfl ?_
  refine k_newI (pc := 83) hC aw_int (a := 158) (N := 135) (by decide) kk_158 ll_158 (by decide) (by decide) (by decide) (Nat.le_of_ble_eq_true rfl) (Nat.le_of_ble_eq_true rfl) dX8_init_83 (kc2 := 6) (ks2 := 191) rfl rfl ?_
  refine k_pf (pc := 85) (ji := 14) hC hI fd_X8_51 fl_X8_51 rfl ft8_14 (by decide) kk_152 (by decide) dX8_init_85 rfl ?_
  refine k_aloadA_n (pc := 88) hC dX8_init_88 rfl rfl kk_152 (by decide) ?_
  refine k_aloadA_n (pc := 89) hC dX8_init_89 rfl rfl kk_3 (by decide) ?_
  refine k_pr (pc := 90) (ji := 0) hC fl_X8_54 rfl ft8_0 (by decide) kk_152 (by decide) dX8_init_90 rfl ?_
  refine k_aloadA_n (pc := 93) hC dX8_init_93 rfl rfl kk_152 (by decide) ?_
  refine k_aloadA_n (pc := 94) hC dX8_init_94 rfl rfl kk_3 (by decide) ?_
  refine k_gr (pc := 95) hC fl_X8_58 ft1_7 kk_3 (by decide) (b := 19) (by first | exact h_3_7 | rfl) dX8_init_95 ?_
  refine k_iload_n (pc := 98) hC dX8_init_98 rfl rfl ?_
  refine k_aald (pc := 99) hC (kk := 14) (t0 := 3) (Cn := "IceJudge$Skating") rfl (by decide) kk_19 (by decide) (b := 50) (by decide +kernel) (by first | exact h_19_5 | rfl) dX8_init_99 ?_
  refine k_pr (pc := 100) (ji := 1) hC fl_X8_64 rfl ft8_1 (by decide) kk_152 (by decide) dX8_init_100 rfl ?_
  exact k_vret (pc := 103) hC hR dX8_init_103 rfl rfl rfl
set_option maxHeartbeats 4000000 in
set_option maxRecDepth 20000 in
theorem ok_X7_init_110 {X : jX} {M : jM} (h_3_7 : M 3 7 = 19) (h_19_0 : M 19 0 = 20) (h_19_1 : M 19 1 = 26) (h_19_2 : M 19 2 = 32) (h_19_3 : M 19 3 = 38) (h_19_4 : M 19 4 = 44) (h_19_5 : M 19 5 = 50) : jCc X 110 yX7_init cX7_init 3 2 48 1320 [jA 110, jA 3] M (c_X7_init_110 M) := by
  refine jCc_of (own := RX7) (ls := [jA 110, jA 3, jN]) (by decide +kernel) rfl rfl (Nat.le_of_ble_eq_true rfl) rfl ?_
  intro C hC hI hR
  refine k_aloadA_n (pc := 0) hC dX7_init_0 rfl rfl kk_110 (by decide) ?_
  refine k_oinit (pc := 1) hC oi_X7 (by decide) (Nat.le_of_ble_eq_true rfl) (Nat.le_of_ble_eq_true rfl) dX7_init_1 ?_
  refine k_aloadA_n (pc := 4) hC dX7_init_4 rfl rfl kk_110 (by decide) ?_
  refine k_bipush (pc := 5) hC dX7_init_5 rfl ?_
  refine k_anew (pc := 7) hC (kk := 15) (t0 := 4) (jTB_mem wm_397 rfl) (fun _ h => h.2) rfl (by decide) (a := 111) (N := 6) (by decide) kk_111 ll_111 (by decide) (by decide) (by decide) (Nat.le_of_ble_eq_true rfl) (Nat.le_of_ble_eq_true rfl) dX7_init_7 (kc2 := 1) (ks2 := 6) rfl rfl ?_
  refine k_pf (pc := 10) (ji := 1) hC hI fd_X7_11 fl_X7_11 rfl ft7_1 (by decide) kk_110 (by decide) dX7_init_10 rfl ?_
  refine k_aloadA_n (pc := 13) hC dX7_init_13 rfl rfl kk_110 (by decide) ?_
  refine k_bipush (pc := 14) hC dX7_init_14 rfl ?_
  refine k_newI (pc := 16) hC aw_int (a := 112) (N := 6) (by decide) kk_112 ll_112 (by decide) (by decide) (by decide) (Nat.le_of_ble_eq_true rfl) (Nat.le_of_ble_eq_true rfl) dX7_init_16 (kc2 := 2) (ks2 := 12) rfl rfl ?_
  refine k_pf (pc := 18) (ji := 2) hC hI fd_X7_17 fl_X7_17 rfl ft7_2 (by decide) kk_110 (by decide) dX7_init_18 rfl ?_
  refine k_aloadA_n (pc := 21) hC dX7_init_21 rfl rfl kk_110 (by decide) ?_
  refine k_bipush (pc := 22) hC dX7_init_22 rfl ?_
  refine k_newI (pc := 24) hC aw_int (a := 113) (N := 54) (by decide) kk_113 ll_113 (by decide) (by decide) (by decide) (Nat.le_of_ble_eq_true rfl) (Nat.le_of_ble_eq_true rfl) dX7_init_24 (kc2 := 3) (ks2 := 66) rfl rfl ?_
  refine k_pf (pc := 26) (ji := 3) hC hI fd_X7_21 fl_X7_21 rfl ft7_3 (by decide) kk_110 (by decide) dX7_init_26 rfl ?_
  refine k_aloadA_n (pc := 29) hC dX7_init_29 rfl rfl kk_110 (by decide) ?_
  refine k_bipush (pc := 30) hC dX7_init_30 rfl ?_
  refine k_newI (pc := 32) hC aw_int (a := 114) (N := 6) (by decide) kk_114 ll_114 (by decide) (by decide) (by decide) (Nat.le_of_ble_eq_true rfl) (Nat.le_of_ble_eq_true rfl) dX7_init_32 (kc2 := 4) (ks2 := 72) rfl rfl ?_
  refine k_pf (pc := 34) (ji := 4) hC hI fd_X7_24 fl_X7_24 rfl ft7_4 (by decide) kk_110 (by decide) dX7_init_34 rfl ?_
  refine k_aloadA_n (pc := 37) hC dX7_init_37 rfl rfl kk_110 (by decide) ?_
  refine k_bipush (pc := 38) hC dX7_init_38 rfl ?_
  refine k_newI (pc := 40) hC aw_int (a := 115) (N := 6) (by decide) kk_115 ll_115 (by decide) (by decide) (by decide) (Nat.le_of_ble_eq_true rfl) (Nat.le_of_ble_eq_true rfl) dX7_init_40 (kc2 := 5) (ks2 := 78) rfl rfl ?_
  refine k_pf (pc := 42) (ji := 5) hC hI fd_X7_27 fl_X7_27 rfl ft7_5 (by decide) kk_110 (by decide) dX7_init_42 rfl ?_
  refine k_aloadA_n (pc := 45) hC dX7_init_45 rfl rfl kk_110 (by decide) ?_
  refine k_bipush (pc := 46) hC dX7_init_46 rfl ?_
  refine k_newI (pc := 48) hC aw_int (a := 116) (N := 6) (by decide) kk_116 ll_116 (by decide) (by decide) (by decide) (Nat.le_of_ble_eq_true rfl) (Nat.le_of_ble_eq_true rfl) dX7_init_48 (kc2 := 6) (ks2 := 84) rfl rfl ?_
  refine k_pf (pc := 50) (ji := 6) hC hI fd_X7_30 fl_X7_30 rfl ft7_6 (by decide) kk_110 (by decide) dX7_init_50 rfl ?_
  refine k_aloadA_n (pc := 53) hC dX7_init_53 rfl rfl kk_110 (by decide) ?_
  refine k_aloadA_n (pc := 54) hC dX7_init_54 rfl rfl kk_3 (by decide) ?_
  refine k_pr (pc := 55) (ji := 0) hC fl_X7_33 rfl ft7_0 (by decide) kk_110 (by decide) dX7_init_55 rfl ?_
  refine k_iconst (pc := 58) hC dX7_init_58 ?_
  refine k_istore_n (ls2 := [jA 110, jA 3, jI 0]) (pc := 59) hC dX7_init_59 rfl (by decide) rfl rfl rfl ?_
  refine k_iload_n (pc := 60) hC dX7_init_60 rfl rfl ?_
  refine k_bipush (pc := 61) hC dX7_init_61 rfl ?_
  refine k_icmp_ge (tgt := 87) (pc := 63) hC dX7_init_63 (by decide) (fun hc => absurd hc (by decide)) (fun _ => ?_)
  refine k_aloadA_n (pc := 66) hC dX7_init_66 rfl rfl kk_110 (by decide) ?_
  refine k_gr (pc := 67) hC fl_X7_11 ft7_1 kk_110 (by decide) (b := 111) rfl dX7_init_67 ?_
  refine k_iload_n (pc := 70) hC dX7_init_70 rfl rfl ?_
  refine k_new (pc := 71) hC (ci := 8) (N := 15) (ty := tyX8) rfl inX8 tyX8_ok nw_X7_9.1 nw_X7_9.2.1 nw_X7_9.2.2 dv_8 (a := 117) (by decide) kk_117 (by decide) ll_117 (Nat.le_of_ble_eq_true rfl) (Nat.le_of_ble_eq_true rfl) dX7_init_71 (kc2 := 7) (ks2 := 99) rfl rfl ?_
  refine k_dup (pc := 74) hC dX7_init_74 (show (2 : Nat) ≠ 3 by decide) ?_
  refine k_aloadA_n (pc := 75) hC dX7_init_75 rfl rfl kk_3 (by decide) ?_
  refine k_iload_n (pc := 76) hC dX7_init_76 rfl rfl ?_
  refine k_ctor (pc := 77) hC mi_X7_37 (ok_X8_init_117 (by exact h_3_7) (by exact h_19_0)) (by decide) rfl (Nat.le_of_ble_eq_true rfl) (Nat.le_of_ble_eq_true rfl) (Nat.le_of_ble_eq_true rfl) (Nat.le_of_ble_eq_true rfl) dX7_init_77 rfl (kc2 := 13) (ks2 := 290) rfl rfl ?_
  refine k_aast (pc := 80) hC (kk := 15) (t0 := 4) (ci := 8) rfl (by decide) rfl (by decide) kk_111 (by decide) kk_117 (by decide) (by decide +kernel) dX7_init_80 rfl ?_
  show jK _ _ _ _ _ _ _ _ _ (jst _ _ 0 _)
  refine k_iinc (y := 1) (ls2 := [jA 110, jA 3, jI 1]) (pc := 81) hC dX7_init_81 rfl (by decide) rfl (by decide) rfl ?_
  refine k_goto (tgt := 60) (pc := 84) hC dX7_init_84 (by decide) ?_
  refine k_iload_n (pc := 60) hC dX7_init_60 rfl rfl ?_
  refine k_bipush (pc := 61) hC dX7_init_61 rfl ?_
  refine k_icmp_ge (tgt := 87) (pc := 63) hC dX7_init_63 (by decide) (fun hc => absurd hc (by decide)) (fun _ => ?_)
  refine k_aloadA_n (pc := 66) hC dX7_init_66 rfl rfl kk_110 (by decide) ?_
  refine k_gr (pc := 67) hC fl_X7_11 ft7_1 kk_110 (by decide) (b := 111) rfl dX7_init_67 ?_
  refine k_iload_n (pc := 70) hC dX7_init_70 rfl rfl ?_
  refine k_new (pc := 71) hC (ci := 8) (N := 15) (ty := tyX8) rfl inX8 tyX8_ok nw_X7_9.1 nw_X7_9.2.1 nw_X7_9.2.2 dv_8 (a := 124) (by decide) kk_124 (by decide) ll_124 (Nat.le_of_ble_eq_true rfl) (Nat.le_of_ble_eq_true rfl) dX7_init_71 (kc2 := 14) (ks2 := 305) rfl rfl ?_
  refine k_dup (pc := 74) hC dX7_init_74 (show (2 : Nat) ≠ 3 by decide) ?_
  refine k_aloadA_n (pc := 75) hC dX7_init_75 rfl rfl kk_3 (by decide) ?_
  refine k_iload_n (pc := 76) hC dX7_init_76 rfl rfl ?_
  refine k_ctor (pc := 77) hC mi_X7_37 (ok_X8_init_124 (by exact h_3_7) (by exact h_19_1)) (by decide) rfl (Nat.le_of_ble_eq_true rfl) (Nat.le_of_ble_eq_true rfl) (Nat.le_of_ble_eq_true rfl) (Nat.le_of_ble_eq_true rfl) dX7_init_77 rfl (kc2 := 20) (ks2 := 496) rfl rfl ?_
  refine k_aast (pc := 80) hC (kk := 15) (t0 := 4) (ci := 8) rfl (by decide) rfl (by decide) kk_111 (by decide) kk_124 (by decide) (by decide +kernel) dX7_init_80 rfl ?_
  show jK _ _ _ _ _ _ _ _ _ (jst _ _ 1 _)
  refine k_iinc (y := 2) (ls2 := [jA 110, jA 3, jI 2]) (pc := 81) hC dX7_init_81 rfl (by decide) rfl (by decide) rfl ?_
  refine k_goto (tgt := 60) (pc := 84) hC dX7_init_84 (by decide) ?_
  refine k_iload_n (pc := 60) hC dX7_init_60 rfl rfl ?_
  refine k_bipush (pc := 61) hC dX7_init_61 rfl ?_
  refine k_icmp_ge (tgt := 87) (pc := 63) hC dX7_init_63 (by decide) (fun hc => absurd hc (by decide)) (fun _ => ?_)
  refine k_aloadA_n (pc := 66) hC dX7_init_66 rfl rfl kk_110 (by decide) ?_
  refine k_gr (pc := 67) hC fl_X7_11 ft7_1 kk_110 (by decide) (b := 111) rfl dX7_init_67 ?_
  refine k_iload_n (pc := 70) hC dX7_init_70 rfl rfl ?_
  refine k_new (pc := 71) hC (ci := 8) (N := 15) (ty := tyX8) rfl inX8 tyX8_ok nw_X7_9.1 nw_X7_9.2.1 nw_X7_9.2.2 dv_8 (a := 131) (by decide) kk_131 (by decide) ll_131 (Nat.le_of_ble_eq_true rfl) (Nat.le_of_ble_eq_true rfl) dX7_init_71 (kc2 := 21) (ks2 := 511) rfl rfl ?_
  refine k_dup (pc := 74) hC dX7_init_74 (show (2 : Nat) ≠ 3 by decide) ?_
  refine k_aloadA_n (pc := 75) hC dX7_init_75 rfl rfl kk_3 (by decide) ?_
  refine k_iload_n (pc := 76) hC dX7_init_76 rfl rfl ?_
  refine k_ctor (pc := 77) hC mi_X7_37 (ok_X8_init_131 (by exact h_3_7) (by exact h_19_2)) (by decide) rfl (Nat.le_of_ble_eq_true rfl) (Nat.le_of_ble_eq_true rfl) (Nat.le_of_ble_eq_true rfl) (Nat.le_of_ble_eq_true rfl) dX7_init_77 rfl (kc2 := 27) (ks2 := 702) rfl rfl ?_
  refine k_aast (pc := 80) hC (kk := 15) (t0 := 4) (ci := 8) rfl (by decide) rfl (by decide) kk_111 (by decide) kk_131 (by decide) (by decide +kernel) dX7_init_80 rfl ?_
  show jK _ _ _ _ _ _ _ _ _ (jst _ _ 2 _)
  refine k_iinc (y := 3) (ls2 := [jA 110, jA 3, jI 3]) (pc := 81) hC dX7_init_81 rfl (by decide) rfl (by decide) rfl ?_
  refine k_goto (tgt := 60) (pc := 84) hC dX7_init_84 (by decide) ?_
  refine k_iload_n (pc := 60) hC dX7_init_60 rfl rfl ?_
  refine k_bipush (pc := 61) hC dX7_init_61 rfl ?_
  refine k_icmp_ge (tgt := 87) (pc := 63) hC dX7_init_63 (by decide) (fun hc => absurd hc (by decide)) (fun _ => ?_)
  refine k_aloadA_n (pc := 66) hC dX7_init_66 rfl rfl kk_110 (by decide) ?_
  refine k_gr (pc := 67) hC fl_X7_11 ft7_1 kk_110 (by decide) (b := 111) rfl dX7_init_67 ?_
  refine k_iload_n (pc := 70) hC dX7_init_70 rfl rfl ?_
  refine k_new (pc := 71) hC (ci := 8) (N := 15) (ty := tyX8) rfl inX8 tyX8_ok nw_X7_9.1 nw_X7_9.2.1 nw_X7_9.2.2 dv_8 (a := 138) (by decide) kk_138 (by decide) ll_138 (Nat.le_of_ble_eq_true rfl) (Nat.le_of_ble_eq_true rfl) dX7_init_71 (kc2 := 28) (ks2 := 717) rfl rfl ?_
  refine k_dup (pc := 74) hC dX7_init_74 (show (2 : Nat) ≠ 3 by decide) ?_
  refine k_aloadA_n (pc := 75) hC dX7_init_75 rfl rfl kk_3 (by decide) ?_
  refine k_iload_n (pc := 76) hC dX7_init_76 rfl rfl ?_
  refine k_ctor (pc := 77) hC mi_X7_37 (ok_X8_init_138 (by exact h_3_7) (by exact h_19_3)) (by decide) rfl (Nat.le_of_ble_eq_true rfl) (Nat.le_of_ble_eq_true rfl) (Nat.le_of_ble_eq_true rfl) (Nat.le_of_ble_eq_true rfl) dX7_init_77 rfl (kc2 := 34) (ks2 := 908) rfl rfl ?_
  refine k_aast (pc := 80) hC (kk := 15) (t0 := 4) (ci := 8) rfl (by decide) rfl (by decide) kk_111 (by decide) kk_138 (by decide) (by decide +kernel) dX7_init_80 rfl ?_
  show jK _ _ _ _ _ _ _ _ _ (jst _ _ 3 _)
  refine k_iinc (y := 4) (ls2 := [jA 110, jA 3, jI 4]) (pc := 81) hC dX7_init_81 rfl (by decide) rfl (by decide) rfl ?_
  refine k_goto (tgt := 60) (pc := 84) hC dX7_init_84 (by decide) ?_
  refine k_iload_n (pc := 60) hC dX7_init_60 rfl rfl ?_
  refine k_bipush (pc := 61) hC dX7_init_61 rfl ?_
  refine k_icmp_ge (tgt := 87) (pc := 63) hC dX7_init_63 (by decide) (fun hc => absurd hc (by decide)) (fun _ => ?_)
  refine k_aloadA_n (pc := 66) hC dX7_init_66 rfl rfl kk_110 (by decide) ?_
  refine k_gr (pc := 67) hC fl_X7_11 ft7_1 kk_110 (by decide) (b := 111) rfl dX7_init_67 ?_
  refine k_iload_n (pc := 70) hC dX7_init_70 rfl rfl ?_
  refine k_new (pc := 71) hC (ci := 8) (N := 15) (ty := tyX8) rfl inX8 tyX8_ok nw_X7_9.1 nw_X7_9.2.1 nw_X7_9.2.2 dv_8 (a := 145) (by decide) kk_145 (by decide) ll_145 (Nat.le_of_ble_eq_true rfl) (Nat.le_of_ble_eq_true rfl) dX7_init_71 (kc2 := 35) (ks2 := 923) rfl rfl ?_
  refine k_dup (pc := 74) hC dX7_init_74 (show (2 : Nat) ≠ 3 by decide) ?_
  refine k_aloadA_n (pc := 75) hC dX7_init_75 rfl rfl kk_3 (by decide) ?_
  refine k_iload_n (pc := 76) hC dX7_init_76 rfl rfl ?_
  refine k_ctor (pc := 77) hC mi_X7_37 (ok_X8_init_145 (by exact h_3_7) (by exact h_19_4)) (by decide) rfl (Nat.le_of_ble_eq_true rfl) (Nat.le_of_ble_eq_true rfl) (Nat.le_of_ble_eq_true rfl) (Nat.le_of_ble_eq_true rfl) dX7_init_77 rfl (kc2 := 41) (ks2 := 1114) rfl rfl ?_
  refine k_aast (pc := 80) hC (kk := 15) (t0 := 4) (ci := 8) rfl (by decide) rfl (by decide) kk_111 (by decide) kk_145 (by decide) (by decide +kernel) dX7_init_80 rfl ?_
  show jK _ _ _ _ _ _ _ _ _ (jst _ _ 4 _)
  refine k_iinc (y := 5) (ls2 := [jA 110, jA 3, jI 5]) (pc := 81) hC dX7_init_81 rfl (by decide) rfl (by decide) rfl ?_
  refine k_goto (tgt := 60) (pc := 84) hC dX7_init_84 (by decide) ?_
  refine k_iload_n (pc := 60) hC dX7_init_60 rfl rfl ?_
  refine k_bipush (pc := 61) hC dX7_init_61 rfl ?_
  refine k_icmp_ge (tgt := 87) (pc := 63) hC dX7_init_63 (by decide) (fun hc => absurd hc (by decide)) (fun _ => ?_)
  refine k_aloadA_n (pc := 66) hC dX7_init_66 rfl rfl kk_110 (by decide) ?_
  refine k_gr (pc := 67) hC fl_X7_11 ft7_1 kk_110 (by decide) (b := 111) rfl dX7_init_67 ?_
  refine k_iload_n (pc := 70) hC dX7_init_70 rfl rfl ?_
  refine k_new (pc := 71) hC (ci := 8) (N := 15) (ty := tyX8) rfl inX8 tyX8_ok nw_X7_9.1 nw_X7_9.2.1 nw_X7_9.2.2 dv_8 (a := 152) (by decide) kk_152 (by decide) ll_152 (Nat.le_of_ble_eq_true rfl) (Nat.le_of_ble_eq_true rfl) dX7_init_71 (kc2 := 42) (ks2 := 1129) rfl rfl ?_
  refine k_dup (pc := 74) hC dX7_init_74 (show (2 : Nat) ≠ 3 by decide) ?_
  refine k_aloadA_n (pc := 75) hC dX7_init_75 rfl rfl kk_3 (by decide) ?_
  refine k_iload_n (pc := 76) hC dX7_init_76 rfl rfl ?_
  refine k_ctor (pc := 77) hC mi_X7_37 (ok_X8_init_152 (by exact h_3_7) (by exact h_19_5)) (by decide) rfl (Nat.le_of_ble_eq_true rfl) (Nat.le_of_ble_eq_true rfl) (Nat.le_of_ble_eq_true rfl) (Nat.le_of_ble_eq_true rfl) dX7_init_77 rfl (kc2 := 48) (ks2 := 1320) rfl rfl ?_
  refine k_aast (pc := 80) hC (kk := 15) (t0 := 4) (ci := 8) rfl (by decide) rfl (by decide) kk_111 (by decide) kk_152 (by decide) (by decide +kernel) dX7_init_80 rfl ?_
  show jK _ _ _ _ _ _ _ _ _ (jst _ _ 5 _)
  refine k_iinc (y := 6) (ls2 := [jA 110, jA 3, jI 6]) (pc := 81) hC dX7_init_81 rfl (by decide) rfl (by decide) rfl ?_
  refine k_goto (tgt := 60) (pc := 84) hC dX7_init_84 (by decide) ?_
  refine k_iload_n (pc := 60) hC dX7_init_60 rfl rfl ?_
  refine k_bipush (pc := 61) hC dX7_init_61 rfl ?_
  refine k_icmp_ge (tgt := 87) (pc := 63) hC dX7_init_63 (by decide) (fun _ => ?_) (fun hc => absurd (by decide) hc)
  exact k_vret (pc := 87) hC hR dX7_init_87 rfl rfl rfl
set_option maxHeartbeats 4000000 in
set_option maxRecDepth 20000 in
theorem ok_X0_init_159 {X : jX} {M : jM} : jCc X 159 yX0_init cX0_init 1 1 4 64 [jA 159] M (c_X0_init_159 M) := by
  refine jCc_of (own := RX0) (ls := [jA 159]) (by decide +kernel) rfl rfl (Nat.le_of_ble_eq_true rfl) rfl ?_
  intro C hC hI hR
  refine k_aloadA_n (pc := 0) hC dX0_init_0 rfl rfl kk_159 (by decide) ?_
  refine k_oinit (pc := 1) hC oi_X0 (by decide) (Nat.le_of_ble_eq_true rfl) (Nat.le_of_ble_eq_true rfl) dX0_init_1 ?_
  refine k_aloadA_n (pc := 4) hC dX0_init_4 rfl rfl kk_159 (by decide) ?_
  refine k_iconst (pc := 5) hC dX0_init_5 ?_
  refine k_pi (pc := 6) (ji := 0) hC fl_X0_9 rfl ft0_0 kk_159 (by decide) dX0_init_6 rfl ?_
  refine k_aloadA_n (pc := 9) hC dX0_init_9 rfl rfl kk_159 (by decide) ?_
  refine k_iconst (pc := 10) hC dX0_init_10 ?_
  refine k_pi (pc := 11) (ji := 1) hC fl_X0_15 rfl ft0_1 kk_159 (by decide) dX0_init_11 rfl ?_
  refine k_aloadA_n (pc := 14) hC dX0_init_14 rfl rfl kk_159 (by decide) ?_
  refine k_bipush (pc := 15) hC dX0_init_15 rfl ?_
  refine k_newI (pc := 17) hC aw_int (a := 160) (N := 16) (by decide) kk_160 ll_160 (by decide) (by decide) (by decide) (Nat.le_of_ble_eq_true rfl) (Nat.le_of_ble_eq_true rfl) dX0_init_17 (kc2 := 1) (ks2 := 16) rfl rfl ?_
  refine k_pf (pc := 19) (ji := 2) hC hI fd_X0_18 fl_X0_18 rfl ft0_2 (by decide) kk_159 (by decide) dX0_init_19 rfl ?_
  refine k_aloadA_n (pc := 22) hC dX0_init_22 rfl rfl kk_159 (by decide) ?_
  refine k_bipush (pc := 23) hC dX0_init_23 rfl ?_
  refine k_newI (pc := 25) hC aw_int (a := 161) (N := 16) (by decide) kk_161 ll_161 (by decide) (by decide) (by decide) (Nat.le_of_ble_eq_true rfl) (Nat.le_of_ble_eq_true rfl) dX0_init_25 (kc2 := 2) (ks2 := 32) rfl rfl ?_
  refine k_pf (pc := 27) (ji := 3) hC hI fd_X0_22 fl_X0_22 rfl ft0_3 (by decide) kk_159 (by decide) dX0_init_27 rfl ?_
  refine k_aloadA_n (pc := 30) hC dX0_init_30 rfl rfl kk_159 (by decide) ?_
  refine k_bipush (pc := 31) hC dX0_init_31 rfl ?_
  refine k_newI (pc := 33) hC aw_int (a := 162) (N := 16) (by decide) kk_162 ll_162 (by decide) (by decide) (by decide) (Nat.le_of_ble_eq_true rfl) (Nat.le_of_ble_eq_true rfl) dX0_init_33 (kc2 := 3) (ks2 := 48) rfl rfl ?_
  refine k_pf (pc := 35) (ji := 4) hC hI fd_X0_25 fl_X0_25 rfl ft0_4 (by decide) kk_159 (by decide) dX0_init_35 rfl ?_
  refine k_aloadA_n (pc := 38) hC dX0_init_38 rfl rfl kk_159 (by decide) ?_
  refine k_bipush (pc := 39) hC dX0_init_39 rfl ?_
  refine k_newI (pc := 41) hC aw_int (a := 163) (N := 16) (by decide) kk_163 ll_163 (by decide) (by decide) (by decide) (Nat.le_of_ble_eq_true rfl) (Nat.le_of_ble_eq_true rfl) dX0_init_41 (kc2 := 4) (ks2 := 64) rfl rfl ?_
  refine k_pf (pc := 43) (ji := 5) hC hI fd_X0_28 fl_X0_28 rfl ft0_5 (by decide) kk_159 (by decide) dX0_init_43 rfl ?_
  exact k_vret (pc := 46) hC hR dX0_init_46 rfl rfl rfl
set_option maxHeartbeats 4000000 in
set_option maxRecDepth 20000 in
theorem ok_X3_init_164 {X : jX} {M : jM} : jCc X 164 yX3_init cX3_init 1 1 1 420 [jA 164] M (c_X3_init_164 M) := by
  refine jCc_of (own := RX3) (ls := [jA 164]) (by decide +kernel) rfl rfl (Nat.le_of_ble_eq_true rfl) rfl ?_
  intro C hC hI hR
  refine k_aloadA_n (pc := 0) hC dX3_init_0 rfl rfl kk_164 (by decide) ?_
  refine k_oinit (pc := 1) hC oi_X3 (by decide) (Nat.le_of_ble_eq_true rfl) (Nat.le_of_ble_eq_true rfl) dX3_init_1 ?_
  refine k_aloadA_n (pc := 4) hC dX3_init_4 rfl rfl kk_164 (by decide) ?_
  refine k_sipush (pc := 5) hC dX3_init_5 rfl ?_
  refine k_newI (pc := 8) hC aw_int (a := 165) (N := 420) (by decide) kk_165 ll_165 (by decide) (by decide) (by decide) (Nat.le_of_ble_eq_true rfl) (Nat.le_of_ble_eq_true rfl) dX3_init_8 (kc2 := 1) (ks2 := 420) rfl rfl ?_
  refine k_pf (pc := 10) (ji := 0) hC hI fd_X3_9 fl_X3_9 rfl ft3_0 (by decide) kk_164 (by decide) dX3_init_10 rfl ?_
  refine k_aloadA_n (pc := 13) hC dX3_init_13 rfl rfl kk_164 (by decide) ?_
  refine k_iconst (pc := 14) hC dX3_init_14 ?_
  refine k_pi (pc := 15) (ji := 1) hC fl_X3_15 rfl ft3_1 kk_164 (by decide) dX3_init_15 rfl ?_
  exact k_vret (pc := 18) hC hR dX3_init_18 rfl rfl rfl
set_option maxHeartbeats 4000000 in
set_option maxRecDepth 20000 in
theorem ok_X9_init_1 {X : jX} {M : jM} : jCc X 1 yX9_init cX9_init 1 3 164 6612 [jA 1] M (c_X9_init_1 M) := by
  refine jCc_of (own := RX9) (ls := [jA 1]) (by decide +kernel) rfl rfl (Nat.le_of_ble_eq_true rfl) rfl ?_
  intro C hC hI hR
  refine k_aloadA_n (pc := 0) hC dX9_init_0 rfl rfl kk_1 (by decide) ?_
  refine k_oinit (pc := 1) hC oi_X9 (by decide) (Nat.le_of_ble_eq_true rfl) (Nat.le_of_ble_eq_true rfl) dX9_init_1 ?_
  refine k_aloadA_n (pc := 4) hC dX9_init_4 rfl rfl kk_1 (by decide) ?_
  refine k_sipush (pc := 5) hC dX9_init_5 rfl ?_
  refine k_newI (pc := 8) hC aw_int (a := 2) (N := 600) (by decide) kk_2 ll_2 (by decide) (by decide) (by decide) (Nat.le_of_ble_eq_true rfl) (Nat.le_of_ble_eq_true rfl) dX9_init_8 (kc2 := 1) (ks2 := 600) rfl rfl ?_
  refine k_pf (pc := 10) (ji := 0) hC hI fd_X9_9 fl_X9_9 rfl ft9_0 (by decide) kk_1 (by decide) dX9_init_10 rfl ?_
  refine k_aloadA_n (pc := 13) hC dX9_init_13 rfl rfl kk_1 (by decide) ?_
  refine k_iconst (pc := 14) hC dX9_init_14 ?_
  refine k_pi (pc := 15) (ji := 1) hC fl_X9_13 rfl ft9_1 kk_1 (by decide) dX9_init_15 rfl ?_
  refine k_aloadA_n (pc := 18) hC dX9_init_18 rfl rfl kk_1 (by decide) ?_
  refine k_iconst (pc := 19) hC dX9_init_19 ?_
  refine k_pi (pc := 20) (ji := 2) hC fl_X9_17 rfl ft9_2 kk_1 (by decide) dX9_init_20 rfl ?_
  refine k_aloadA_n (pc := 23) hC dX9_init_23 rfl rfl kk_1 (by decide) ?_
  refine k_new (pc := 24) hC (ci := 1) (N := 8) (ty := tyX1) rfl inX1 tyX1_ok nw_X9_20.1 nw_X9_20.2.1 nw_X9_20.2.2 dv_1 (a := 3) (by decide) kk_3 (by decide) ll_3 (Nat.le_of_ble_eq_true rfl) (Nat.le_of_ble_eq_true rfl) dX9_init_24 (kc2 := 2) (ks2 := 608) rfl rfl ?_
  refine k_dup (pc := 27) hC dX9_init_27 (show (2 : Nat) ≠ 3 by decide) ?_
  refine k_ctor (pc := 28) hC mi_X9_22 (ok_X1_init_3) (by decide) rfl (Nat.le_of_ble_eq_true rfl) (Nat.le_of_ble_eq_true rfl) (Nat.le_of_ble_eq_true rfl) (Nat.le_of_ble_eq_true rfl) dX9_init_28 rfl (kc2 := 54) (ks2 := 2692) rfl rfl ?_
  refine k_pr (pc := 31) (ji := 3) hC fl_X9_23 rfl ft9_3 (by decide) kk_1 (by decide) dX9_init_31 rfl ?_
  refine k_aloadA_n (pc := 34) hC dX9_init_34 rfl rfl kk_1 (by decide) ?_
  refine k_new (pc := 35) hC (ci := 1) (N := 8) (ty := tyX1) rfl inX1 tyX1_ok nw_X9_20.1 nw_X9_20.2.1 nw_X9_20.2.2 dv_1 (a := 56) (by decide) kk_56 (by decide) ll_56 (Nat.le_of_ble_eq_true rfl) (Nat.le_of_ble_eq_true rfl) dX9_init_35 (kc2 := 55) (ks2 := 2700) rfl rfl ?_
  refine k_dup (pc := 38) hC dX9_init_38 (show (2 : Nat) ≠ 3 by decide) ?_
  refine k_ctor (pc := 39) hC mi_X9_22 (ok_X1_init_56) (by decide) rfl (Nat.le_of_ble_eq_true rfl) (Nat.le_of_ble_eq_true rfl) (Nat.le_of_ble_eq_true rfl) (Nat.le_of_ble_eq_true rfl) dX9_init_39 rfl (kc2 := 107) (ks2 := 4784) rfl rfl ?_
  refine k_pr (pc := 42) (ji := 4) hC fl_X9_27 rfl ft9_4 (by decide) kk_1 (by decide) dX9_init_42 rfl ?_
  refine k_aloadA_n (pc := 45) hC dX9_init_45 rfl rfl kk_1 (by decide) ?_
  refine k_new (pc := 46) hC (ci := 4) (N := 9) (ty := tyX4) rfl inX4 tyX4_ok nw_X9_30.1 nw_X9_30.2.1 nw_X9_30.2.2 dv_4 (a := 109) (by decide) kk_109 (by decide) ll_109 (Nat.le_of_ble_eq_true rfl) (Nat.le_of_ble_eq_true rfl) dX9_init_46 (kc2 := 108) (ks2 := 4793) rfl rfl ?_
  refine k_dup (pc := 49) hC dX9_init_49 (show (2 : Nat) ≠ 3 by decide) ?_
  refine k_aloadA_n (pc := 50) hC dX9_init_50 rfl rfl kk_1 (by decide) ?_
  refine k_gr (pc := 51) hC fl_X9_9 ft9_0 kk_1 (by decide) (b := 2) rfl dX9_init_51 ?_
  refine k_aloadA_n (pc := 54) hC dX9_init_54 rfl rfl kk_1 (by decide) ?_
  refine k_gr (pc := 55) hC fl_X9_27 ft9_4 kk_1 (by decide) (b := 56) rfl dX9_init_55 ?_
  refine k_ctor (pc := 58) hC mi_X9_32 (ok_X4_init_109) (by decide) rfl (Nat.le_of_ble_eq_true rfl) (Nat.le_of_ble_eq_true rfl) (Nat.le_of_ble_eq_true rfl) (Nat.le_of_ble_eq_true rfl) dX9_init_58 rfl (kc2 := 108) (ks2 := 4793) rfl rfl ?_
  refine k_pf (pc := 61) (ji := 5) hC hI fd_X9_35 fl_X9_35 rfl ft9_5 (by decide) kk_1 (by decide) dX9_init_61 rfl ?_
  refine k_aloadA_n (pc := 64) hC dX9_init_64 rfl rfl kk_1 (by decide) ?_
  refine k_new (pc := 65) hC (ci := 7) (N := 7) (ty := tyX7) rfl inX7 tyX7_ok nw_X9_39.1 nw_X9_39.2.1 nw_X9_39.2.2 dv_7 (a := 110) (by decide) kk_110 (by decide) ll_110 (Nat.le_of_ble_eq_true rfl) (Nat.le_of_ble_eq_true rfl) dX9_init_65 (kc2 := 109) (ks2 := 4800) rfl rfl ?_
  refine k_dup (pc := 68) hC dX9_init_68 (show (2 : Nat) ≠ 3 by decide) ?_
  refine k_aloadA_n (pc := 69) hC dX9_init_69 rfl rfl kk_1 (by decide) ?_
  refine k_gr (pc := 70) hC fl_X9_23 ft9_3 kk_1 (by decide) (b := 3) rfl dX9_init_70 ?_
  refine k_ctor (pc := 73) hC mi_X9_41 (ok_X7_init_110 (by rfl) (by rfl) (by rfl) (by rfl) (by rfl) (by rfl) (by rfl)) (by decide) rfl (Nat.le_of_ble_eq_true rfl) (Nat.le_of_ble_eq_true rfl) (Nat.le_of_ble_eq_true rfl) (Nat.le_of_ble_eq_true rfl) dX9_init_73 rfl (kc2 := 157) (ks2 := 6120) rfl rfl ?_
  refine k_pf (pc := 76) (ji := 6) hC hI fd_X9_44 fl_X9_44 rfl ft9_6 (by decide) kk_1 (by decide) dX9_init_76 rfl ?_
  refine k_aloadA_n (pc := 79) hC dX9_init_79 rfl rfl kk_1 (by decide) ?_
  refine k_new (pc := 80) hC (ci := 0) (N := 6) (ty := tyX0) rfl inX0 tyX0_ok nw_X9_48.1 nw_X9_48.2.1 nw_X9_48.2.2 dv_0 (a := 159) (by decide) kk_159 (by decide) ll_159 (Nat.le_of_ble_eq_true rfl) (Nat.le_of_ble_eq_true rfl) dX9_init_80 (kc2 := 158) (ks2 := 6126) rfl rfl ?_
  refine k_dup (pc := 83) hC dX9_init_83 (show (2 : Nat) ≠ 3 by decide) ?_
  refine k_ctor (pc := 84) hC mi_X9_50 (ok_X0_init_159) (by decide) rfl (Nat.le_of_ble_eq_true rfl) (Nat.le_of_ble_eq_true rfl) (Nat.le_of_ble_eq_true rfl) (Nat.le_of_ble_eq_true rfl) dX9_init_84 rfl (kc2 := 162) (ks2 := 6190) rfl rfl ?_
  refine k_pf (pc := 87) (ji := 7) hC hI fd_X9_51 fl_X9_51 rfl ft9_7 (by decide) kk_1 (by decide) dX9_init_87 rfl ?_
  refine k_aloadA_n (pc := 90) hC dX9_init_90 rfl rfl kk_1 (by decide) ?_
  refine k_new (pc := 91) hC (ci := 3) (N := 2) (ty := tyX3) rfl inX3 tyX3_ok nw_X9_55.1 nw_X9_55.2.1 nw_X9_55.2.2 dv_3 (a := 164) (by decide) kk_164 (by decide) ll_164 (Nat.le_of_ble_eq_true rfl) (Nat.le_of_ble_eq_true rfl) dX9_init_91 (kc2 := 163) (ks2 := 6192) rfl rfl ?_
  refine k_dup (pc := 94) hC dX9_init_94 (show (2 : Nat) ≠ 3 by decide) ?_
  refine k_ctor (pc := 95) hC mi_X9_57 (ok_X3_init_164) (by decide) rfl (Nat.le_of_ble_eq_true rfl) (Nat.le_of_ble_eq_true rfl) (Nat.le_of_ble_eq_true rfl) (Nat.le_of_ble_eq_true rfl) dX9_init_95 rfl (kc2 := 164) (ks2 := 6612) rfl rfl ?_
  refine k_pf (pc := 98) (ji := 8) hC hI fd_X9_58 fl_X9_58 rfl ft9_8 (by decide) kk_1 (by decide) dX9_init_98 rfl ?_
  exact k_vret (pc := 101) hC hR dX9_init_101 rfl rfl rfl
