/-! ===== the machine does what the functions say; by program ===== -/
set_option maxHeartbeats 4000000 in
set_option maxRecDepth 20000 in
theorem og_X10_atom {X : jX} {n : Nat} (hn : 179 ≤ n) {f : Nat} {self : Nat → jM → Option (jM)} (hs0 : ∀ (_ : 179 ≤ n) {M : jM} {Mz : jM}, self 0 M = some Mz → jCt X n yX10_atom cX10_atom 2 (none) (6 + f) [jA 166] M (none) Mz) (hs1 : ∀ (_ : 179 ≤ n) {M : jM} {Mz : jM}, self 1 M = some Mz → jCt X n yX10_term cX10_term 1 (none) (6 + f) [jA 166] M (none) Mz) (hs2 : ∀ (_ : 179 ≤ n) {M : jM} {Mz : jM}, self 2 M = some Mz → jCt X n yX10_sum cX10_sum 2 (none) (6 + f) [jA 166] M (none) Mz) {M : jM} {Mz : jM} (h : g_X10_atom self M = some Mz) : jCt X n yX10_atom cX10_atom 2 (none) (6 + (f + 1)) [jA 166] M (none) Mz := by
  refine jCt_of (own := RX10) (ls := [jA 166, jN]) (by decide +kernel) rfl hn (Nat.le_of_ble_eq_true rfl) rfl ?_
  intro C hC hR
  unfold g_X10_atom at h
  refine x_aloadA_n (pc := 0) hC dX10_atom_0 rfl rfl k_166 (by decide) ?_
  refine x_bipush (pc := 1) hC dX10_atom_1 rfl ?_
  obtain ⟨v3, M2, e1, h⟩ := jbW_some h
  refine x_cV (pc := 3) hC mv_X10_42 (ok_X10_isSign hn e1) rfl (by omega) k_166 rfl (by decide) (jRo0 C) (Nat.le_of_ble_eq_true rfl) dX10_atom_3 rfl ?_
  refine x_if_eq (tgt := 62) (pc := 6) hC dX10_atom_6 (by decide) (fun hc => ?_) (fun hc => ?_)
  · replace h := jit_pos hc h
    refine x_aloadA_n (pc := 62) hC dX10_atom_62 rfl rfl k_166 (by decide) ?_
    obtain ⟨v6, M5, e4, h⟩ := jbW_some h
    refine x_cV (pc := 63) hC mv_X10_158 (ok_X10_wordTold hn e4) rfl (by omega) k_166 rfl (by decide) (jRo0 C) (Nat.le_of_ble_eq_true rfl) dX10_atom_63 rfl ?_
    refine x_istore_n (ls2 := [jA 166, jI v6]) (pc := 66) hC dX10_atom_66 rfl (by decide) rfl rfl rfl ?_
    refine x_iload_n (pc := 67) hC dX10_atom_67 rfl rfl ?_
    refine x_iconst (pc := 68) hC dX10_atom_68 ?_
    refine x_icmp_ne (tgt := 87) (pc := 69) hC dX10_atom_69 (by decide) (fun hc => ?_) (fun hc => ?_)
    · replace h := jit_neg hc h
      refine x_aloadA_n (pc := 87) hC dX10_atom_87 rfl rfl k_166 (by decide) ?_
      refine x_dup (pc := 88) hC dX10_atom_88 (show (2 : Nat) ≠ 3 by decide) ?_
      refine x_gi (pc := 89) (ji := 4) hC fl_X10_21 rfl fn10_4 k_166 dX10_atom_89 ?_
      refine x_aloadA_n (pc := 92) hC dX10_atom_92 rfl rfl k_166 (by decide) ?_
      obtain ⟨v9, M8, e7, h⟩ := jbW_some h
      refine x_cV (pc := 93) hC mv_X10_52 (ok_X10_wordMany hn e7) rfl (by omega) k_166 rfl (by decide) (jRo0 C) (Nat.le_of_ble_eq_true rfl) dX10_atom_93 rfl ?_
      refine x_iadd (pc := 96) hC dX10_atom_96 ?_
      obtain ⟨M10, eM10, h⟩ := jlet_some h
      refine x_pi (pc := 97) (ji := 4) hC fl_X10_21 rfl ft10_4 k_166 dX10_atom_97 eM10 ?_
      refine x_aloadA_n (pc := 100) hC dX10_atom_100 rfl rfl k_166 (by decide) ?_
      refine x_sipush (pc := 101) hC dX10_atom_101 rfl ?_
      refine x_iload_n (pc := 104) hC dX10_atom_104 rfl rfl ?_
      refine x_iadd (pc := 105) hC dX10_atom_105 ?_
      obtain ⟨M12, e11, h⟩ := jbV_some h
      refine x_cV (pc := 106) hC mv_X10_164 (ok_X10_code hn e11) rfl (by omega) k_166 rfl (by decide) (jRo0 C) (Nat.le_of_ble_eq_true rfl) dX10_atom_106 rfl ?_
      exact x_vret (pc := 109) hC hR dX10_atom_109 (jrR h)
    · replace h := jit_pos hc h
      refine x_aloadA_n (pc := 72) hC dX10_atom_72 rfl rfl k_166 (by decide) ?_
      refine x_aloadA_n (pc := 73) hC dX10_atom_73 rfl rfl k_166 (by decide) ?_
      refine x_iconst (pc := 74) hC dX10_atom_74 ?_
      refine x_sipush (pc := 75) hC dX10_atom_75 rfl ?_
      obtain ⟨v15, M14, e13, h⟩ := jbW_some h
      refine x_cV (pc := 78) hC mv_X10_161 (ok_X10_number hn e13) rfl (by omega) k_166 rfl (by decide) (jRo0 C) (Nat.le_of_ble_eq_true rfl) dX10_atom_78 rfl ?_
      obtain ⟨M17, e16, h⟩ := jbV_some h
      refine x_cV (pc := 81) hC mv_X10_164 (ok_X10_code hn e16) rfl (by omega) k_166 rfl (by decide) (jRo0 C) (Nat.le_of_ble_eq_true rfl) dX10_atom_81 rfl ?_
      refine x_goto (tgt := 109) (pc := 84) hC dX10_atom_84 (by decide) ?_
      exact x_vret (pc := 109) hC hR dX10_atom_109 (jrR h)
  · replace h := jit_neg hc h
    refine x_aloadA_n (pc := 9) hC dX10_atom_9 rfl rfl k_166 (by decide) ?_
    refine x_gi (pc := 10) (ji := 13) hC fl_X10_148 rfl fn10_13 k_166 dX10_atom_10 ?_
    refine x_iconst (pc := 13) hC dX10_atom_13 ?_
    obtain ⟨k19, Hk19, h⟩ := jk_some (P := fun k19 => ∀ (M18 : jM), k19 M18 = some Mz → jG C X n 2 0 0 21 [jA 166, jN] [] M18) h (by
      intro M18 h
      refine x_aloadA_n (pc := 21) hC dX10_atom_21 rfl rfl k_166 (by decide) ?_
      refine x_dup (pc := 22) hC dX10_atom_22 (show (2 : Nat) ≠ 3 by decide) ?_
      refine x_gi (pc := 23) (ji := 13) hC fl_X10_148 rfl fn10_13 k_166 dX10_atom_23 ?_
      refine x_iconst (pc := 26) hC dX10_atom_26 ?_
      refine x_iadd (pc := 27) hC dX10_atom_27 ?_
      obtain ⟨M20, eM20, h⟩ := jlet_some h
      refine x_pi (pc := 28) (ji := 13) hC fl_X10_148 rfl ft10_13 k_166 dX10_atom_28 eM20 ?_
      refine x_aloadA_n (pc := 31) hC dX10_atom_31 rfl rfl k_166 (by decide) ?_
      refine x_dup (pc := 32) hC dX10_atom_32 (show (2 : Nat) ≠ 3 by decide) ?_
      refine x_gi (pc := 33) (ji := 4) hC fl_X10_21 rfl fn10_4 k_166 dX10_atom_33 ?_
      refine x_iconst (pc := 36) hC dX10_atom_36 ?_
      refine x_iadd (pc := 37) hC dX10_atom_37 ?_
      obtain ⟨M21, eM21, h⟩ := jlet_some h
      refine x_pi (pc := 38) (ji := 4) hC fl_X10_21 rfl ft10_4 k_166 dX10_atom_38 eM21 ?_
      refine x_aloadA_n (pc := 41) hC dX10_atom_41 rfl rfl k_166 (by decide) ?_
      obtain ⟨M23, e22, h⟩ := jbV_some h
      refine x_cV (pc := 42) hC mv_X10_151 (hs2 hn e22) rfl (by omega) k_166 rfl (by decide) (jRo0 C) (Nat.le_of_ble_eq_true rfl) dX10_atom_42 rfl ?_
      refine x_aloadA_n (pc := 45) hC dX10_atom_45 rfl rfl k_166 (by decide) ?_
      refine x_bipush (pc := 46) hC dX10_atom_46 rfl ?_
      obtain ⟨M25, e24, h⟩ := jbV_some h
      refine x_cV (pc := 48) hC mv_X10_154 (ok_X10_asksSign hn e24) rfl (by omega) k_166 rfl (by decide) (jRo0 C) (Nat.le_of_ble_eq_true rfl) dX10_atom_48 rfl ?_
      refine x_aloadA_n (pc := 51) hC dX10_atom_51 rfl rfl k_166 (by decide) ?_
      refine x_dup (pc := 52) hC dX10_atom_52 (show (2 : Nat) ≠ 3 by decide) ?_
      refine x_gi (pc := 53) (ji := 13) hC fl_X10_148 rfl fn10_13 k_166 dX10_atom_53 ?_
      refine x_iconst (pc := 56) hC dX10_atom_56 ?_
      refine x_isub (pc := 57) hC dX10_atom_57 ?_
      obtain ⟨M26, eM26, h⟩ := jlet_some h
      refine x_pi (pc := 58) (ji := 13) hC fl_X10_148 rfl ft10_13 k_166 dX10_atom_58 eM26 ?_
      exact x_vret (pc := 61) hC hR dX10_atom_61 (jrR h))
    refine x_icmp_ne (tgt := 21) (pc := 14) hC dX10_atom_14 (by decide) (fun hc => ?_) (fun hc => ?_)
    · replace h := jit_neg hc h
      exact Hk19 _ h
    · replace h := jit_pos hc h
      refine x_aloadA_n (pc := 17) hC dX10_atom_17 rfl rfl k_166 (by decide) ?_
      obtain ⟨M28, e27, h⟩ := jbV_some h
      refine x_cV (pc := 18) hC mv_X10_49 (ok_X10_fails hn e27) rfl (by omega) k_166 rfl (by decide) (jRo0 C) (Nat.le_of_ble_eq_true rfl) dX10_atom_18 rfl ?_
      exact Hk19 _ h

set_option maxHeartbeats 4000000 in
set_option maxRecDepth 20000 in
theorem og_X10_term {X : jX} {n : Nat} (hn : 179 ≤ n) {f : Nat} {self : Nat → jM → Option (jM)} (hs0 : ∀ (_ : 179 ≤ n) {M : jM} {Mz : jM}, self 0 M = some Mz → jCt X n yX10_atom cX10_atom 2 (none) (6 + f) [jA 166] M (none) Mz) (hs1 : ∀ (_ : 179 ≤ n) {M : jM} {Mz : jM}, self 1 M = some Mz → jCt X n yX10_term cX10_term 1 (none) (6 + f) [jA 166] M (none) Mz) (hs2 : ∀ (_ : 179 ≤ n) {M : jM} {Mz : jM}, self 2 M = some Mz → jCt X n yX10_sum cX10_sum 2 (none) (6 + f) [jA 166] M (none) Mz) {M : jM} {Mz : jM} (h : g_X10_term self M = some Mz) : jCt X n yX10_term cX10_term 1 (none) (6 + (f + 1)) [jA 166] M (none) Mz := by
  refine jCt_of (own := RX10) (ls := [jA 166]) (by decide +kernel) rfl hn (Nat.le_of_ble_eq_true rfl) rfl ?_
  intro C hC hR
  unfold g_X10_term at h
  refine x_aloadA_n (pc := 0) hC dX10_term_0 rfl rfl k_166 (by decide) ?_
  obtain ⟨M2, e1, h⟩ := jbV_some h
  refine x_cV (pc := 1) hC mv_X10_167 (hs0 hn e1) rfl (by omega) k_166 rfl (by decide) (jRo0 C) (Nat.le_of_ble_eq_true rfl) dX10_term_1 rfl ?_
  refine jlp1_ind (P := fun (M3 : jM) => jG C X n 1 0 0 4 [jA 166] [] M3) ?_ _ _ h
  intro self4 M3 Hself4 h
  refine x_aloadA_n (pc := 4) hC dX10_term_4 rfl rfl k_166 (by decide) ?_
  refine x_bipush (pc := 5) hC dX10_term_5 rfl ?_
  obtain ⟨v7, M6, e5, h⟩ := jbW_some h
  refine x_cV (pc := 7) hC mv_X10_46 (ok_X10_takes hn e5) rfl (by omega) k_166 rfl (by decide) (jRo0 C) (Nat.le_of_ble_eq_true rfl) dX10_term_7 rfl ?_
  refine x_if_eq (tgt := 27) (pc := 10) hC dX10_term_10 (by decide) (fun hc => ?_) (fun hc => ?_)
  · replace h := jit_pos hc h
    exact x_vret (pc := 27) hC hR dX10_term_27 (jrR h)
  · replace h := jit_neg hc h
    refine x_aloadA_n (pc := 13) hC dX10_term_13 rfl rfl k_166 (by decide) ?_
    obtain ⟨M9, e8, h⟩ := jbV_some h
    refine x_cV (pc := 14) hC mv_X10_167 (hs0 hn e8) rfl (by omega) k_166 rfl (by decide) (jRo0 C) (Nat.le_of_ble_eq_true rfl) dX10_term_14 rfl ?_
    refine x_aloadA_n (pc := 17) hC dX10_term_17 rfl rfl k_166 (by decide) ?_
    refine x_sipush (pc := 18) hC dX10_term_18 rfl ?_
    obtain ⟨M11, e10, h⟩ := jbV_some h
    refine x_cV (pc := 21) hC mv_X10_164 (ok_X10_code hn e10) rfl (by omega) k_166 rfl (by decide) (jRo0 C) (Nat.le_of_ble_eq_true rfl) dX10_term_21 rfl ?_
    refine x_goto (tgt := 4) (pc := 24) hC dX10_term_24 (by decide) ?_
    exact Hself4 _ h

set_option maxHeartbeats 4000000 in
set_option maxRecDepth 20000 in
theorem og_X10_sum {X : jX} {n : Nat} (hn : 179 ≤ n) {f : Nat} {self : Nat → jM → Option (jM)} (hs0 : ∀ (_ : 179 ≤ n) {M : jM} {Mz : jM}, self 0 M = some Mz → jCt X n yX10_atom cX10_atom 2 (none) (6 + f) [jA 166] M (none) Mz) (hs1 : ∀ (_ : 179 ≤ n) {M : jM} {Mz : jM}, self 1 M = some Mz → jCt X n yX10_term cX10_term 1 (none) (6 + f) [jA 166] M (none) Mz) (hs2 : ∀ (_ : 179 ≤ n) {M : jM} {Mz : jM}, self 2 M = some Mz → jCt X n yX10_sum cX10_sum 2 (none) (6 + f) [jA 166] M (none) Mz) {M : jM} {Mz : jM} (h : g_X10_sum self M = some Mz) : jCt X n yX10_sum cX10_sum 2 (none) (6 + (f + 1)) [jA 166] M (none) Mz := by
  refine jCt_of (own := RX10) (ls := [jA 166, jN]) (by decide +kernel) rfl hn (Nat.le_of_ble_eq_true rfl) rfl ?_
  intro C hC hR
  unfold g_X10_sum at h
  refine x_aloadA_n (pc := 0) hC dX10_sum_0 rfl rfl k_166 (by decide) ?_
  obtain ⟨v2, e1, h⟩ := jbR_some h
  refine x_cV (pc := 1) hC mv_X10_38 (ok_X10_hasFailed hn e1) rfl (by omega) k_166 rfl (by decide) (jRo0 C) (Nat.le_of_ble_eq_true rfl) dX10_sum_1 rfl ?_
  refine x_if_eq (tgt := 8) (pc := 4) hC dX10_sum_4 (by decide) (fun hc => ?_) (fun hc => ?_)
  · replace h := jit_pos hc h
    refine x_aloadA_n (pc := 8) hC dX10_sum_8 rfl rfl k_166 (by decide) ?_
    obtain ⟨M4, e3, h⟩ := jbV_some h
    refine x_cV (pc := 9) hC mv_X10_170 (hs1 hn e3) rfl (by omega) k_166 rfl (by decide) (jRo0 C) (Nat.le_of_ble_eq_true rfl) dX10_sum_9 rfl ?_
    refine jlp1_ind (P := fun (M5 : jM) => jG C X n 2 0 0 12 [jA 166, jN] [] M5) ?_ _ _ h
    intro self6 M5 Hself6 h
    refine x_aloadA_n (pc := 12) hC dX10_sum_12 rfl rfl k_166 (by decide) ?_
    refine x_bipush (pc := 13) hC dX10_sum_13 rfl ?_
    obtain ⟨v9, M8, e7, h⟩ := jbW_some h
    refine x_cV (pc := 15) hC mv_X10_42 (ok_X10_isSign hn e7) rfl (by omega) k_166 rfl (by decide) (jRo0 C) (Nat.le_of_ble_eq_true rfl) dX10_sum_15 rfl ?_
    obtain ⟨k11, Hk11, h⟩ := jk_some (P := fun k11 => ∀ (M10 : jM), k11 M10 = some Mz → jG C X n 2 0 0 30 [jA 166, jN] [] M10) h (by
      intro M10 h
      refine x_aloadA_n (pc := 30) hC dX10_sum_30 rfl rfl k_166 (by decide) ?_
      refine x_gf (pc := 31) (b := 167) hC fl_X10_14 ft10_1 k_166 (by decide) (off := 1) (by decide +kernel) (by decide) dX10_sum_31 ?_
      refine x_aloadA_n (pc := 34) hC dX10_sum_34 rfl rfl k_166 (by decide) ?_
      refine x_gi (pc := 35) (ji := 4) hC fl_X10_21 rfl fn10_4 k_166 dX10_sum_35 ?_
      obtain ⟨hb12, h⟩ := jck_some h
      refine x_bald (pc := 38) hC k_167 (by rw [l_167]; exact hb12) dX10_sum_38 ?_
      obtain ⟨l1_13, el1_13, h⟩ := jlet_some h
      refine x_istore_n (ls2 := [jA 166, jI l1_13]) (pc := 39) hC dX10_sum_39 rfl (by decide) rfl el1_13 rfl ?_
      refine x_aloadA_n (pc := 40) hC dX10_sum_40 rfl rfl k_166 (by decide) ?_
      refine x_dup (pc := 41) hC dX10_sum_41 (show (2 : Nat) ≠ 3 by decide) ?_
      refine x_gi (pc := 42) (ji := 4) hC fl_X10_21 rfl fn10_4 k_166 dX10_sum_42 ?_
      refine x_iconst (pc := 45) hC dX10_sum_45 ?_
      refine x_iadd (pc := 46) hC dX10_sum_46 ?_
      obtain ⟨M14, eM14, h⟩ := jlet_some h
      refine x_pi (pc := 47) (ji := 4) hC fl_X10_21 rfl ft10_4 k_166 dX10_sum_47 eM14 ?_
      refine x_aloadA_n (pc := 50) hC dX10_sum_50 rfl rfl k_166 (by decide) ?_
      obtain ⟨M16, e15, h⟩ := jbV_some h
      refine x_cV (pc := 51) hC mv_X10_170 (hs1 hn e15) rfl (by omega) k_166 rfl (by decide) (jRo0 C) (Nat.le_of_ble_eq_true rfl) dX10_sum_51 rfl ?_
      refine x_aloadA_n (pc := 54) hC dX10_sum_54 rfl rfl k_166 (by decide) ?_
      refine x_iload_n (pc := 55) hC dX10_sum_55 rfl rfl ?_
      refine x_bipush (pc := 56) hC dX10_sum_56 rfl ?_
      obtain ⟨k18, Hk18, h⟩ := jk_some (P := fun k18 => ∀ (s1_17 : Int), k18 s1_17 = some Mz → jG C X n 2 0 0 70 [jA 166, jI l1_13] [jI s1_17, jA 166] M16) h (by
        intro s1_17 h
        obtain ⟨M20, e19, h⟩ := jbV_some h
        refine x_cV (pc := 70) hC mv_X10_164 (ok_X10_code hn e19) rfl (by omega) k_166 rfl (by decide) (jRo0 C) (Nat.le_of_ble_eq_true rfl) dX10_sum_70 rfl ?_
        refine x_goto (tgt := 12) (pc := 73) hC dX10_sum_73 (by decide) ?_
        refine x_kill 1 (ls2 := [jA 166, jN]) rfl ?_
        exact Hself6 _ h)
      refine x_icmp_ne (tgt := 67) (pc := 58) hC dX10_sum_58 (by decide) (fun hc => ?_) (fun hc => ?_)
      · replace h := jit_neg hc h
        refine x_sipush (pc := 67) hC dX10_sum_67 rfl ?_
        exact Hk18 _ h
      · replace h := jit_pos hc h
        refine x_sipush (pc := 61) hC dX10_sum_61 rfl ?_
        refine x_goto (tgt := 70) (pc := 64) hC dX10_sum_64 (by decide) ?_
        exact Hk18 _ h)
    refine x_if_ne (tgt := 30) (pc := 18) hC dX10_sum_18 (by decide) (fun hc => ?_) (fun hc => ?_)
    · replace h := jit_neg hc h
      exact Hk11 _ h
    · replace h := jit_pos hc h
      refine x_aloadA_n (pc := 21) hC dX10_sum_21 rfl rfl k_166 (by decide) ?_
      refine x_bipush (pc := 22) hC dX10_sum_22 rfl ?_
      obtain ⟨v23, M22, e21, h⟩ := jbW_some h
      refine x_cV (pc := 24) hC mv_X10_42 (ok_X10_isSign hn e21) rfl (by omega) k_166 rfl (by decide) (jRo0 C) (Nat.le_of_ble_eq_true rfl) dX10_sum_24 rfl ?_
      refine x_if_eq (tgt := 76) (pc := 27) hC dX10_sum_27 (by decide) (fun hc => ?_) (fun hc => ?_)
      · replace h := jit_pos hc h
        exact x_vret (pc := 76) hC hR dX10_sum_76 (jrR h)
      · replace h := jit_neg hc h
        exact Hk11 _ h
  · replace h := jit_neg hc h
    exact x_vret (pc := 7) hC hR dX10_sum_7 (jrR h)

set_option maxHeartbeats 4000000 in
set_option maxRecDepth 20000 in
theorem ok_f_X10_g {X : jX} {n : Nat} : ∀ f : Nat, (∀ (_ : 179 ≤ n) {M : jM} {Mz : jM}, f_X10_g f 0 M = some Mz → jCt X n yX10_atom cX10_atom 2 (none) (6 + f) [jA 166] M (none) Mz) ∧ (∀ (_ : 179 ≤ n) {M : jM} {Mz : jM}, f_X10_g f 1 M = some Mz → jCt X n yX10_term cX10_term 1 (none) (6 + f) [jA 166] M (none) Mz) ∧ (∀ (_ : 179 ≤ n) {M : jM} {Mz : jM}, f_X10_g f 2 M = some Mz → jCt X n yX10_sum cX10_sum 2 (none) (6 + f) [jA 166] M (none) Mz) := by
  intro f
  induction f with
  | zero => exact ⟨(by intro _ _ _ h; cases h), (by intro _ _ _ h; cases h), (by intro _ _ _ h; cases h)⟩
  | succ f ih =>
    exact ⟨(by intro hn _ _ h; unfold f_X10_g at h; exact og_X10_atom hn ih.1 ih.2.1 ih.2.2 (jit_pos rfl h)), (by intro hn _ _ h; unfold f_X10_g at h; exact og_X10_term hn ih.1 ih.2.1 ih.2.2 (jit_pos rfl (jit_neg (by decide) h))), (by intro hn _ _ h; unfold f_X10_g at h; exact og_X10_sum hn ih.1 ih.2.1 ih.2.2 (jit_neg (by decide) (jit_neg (by decide) h)))⟩

set_option maxHeartbeats 4000000 in
set_option maxRecDepth 20000 in
theorem ok_X10_atom {X : jX} {n : Nat} (hn : 179 ≤ n) {M : jM} {Mz : jM} (h : f_X10_atom M = some Mz) : jCt X n yX10_atom cX10_atom 2 (none) (30) [jA 166] M (none) Mz := (ok_f_X10_g 24).1 hn h

set_option maxHeartbeats 4000000 in
set_option maxRecDepth 20000 in
theorem ok_X10_term {X : jX} {n : Nat} (hn : 179 ≤ n) {M : jM} {Mz : jM} (h : f_X10_term M = some Mz) : jCt X n yX10_term cX10_term 1 (none) (30) [jA 166] M (none) Mz := (ok_f_X10_g 24).2.1 hn h

set_option maxHeartbeats 4000000 in
set_option maxRecDepth 20000 in
theorem ok_X10_sum {X : jX} {n : Nat} (hn : 179 ≤ n) {M : jM} {Mz : jM} (h : f_X10_sum M = some Mz) : jCt X n yX10_sum cX10_sum 2 (none) (30) [jA 166] M (none) Mz := (ok_f_X10_g 24).2.2 hn h

set_option maxHeartbeats 4000000 in
set_option maxRecDepth 20000 in
theorem og_X4_sum {X : jX} {n : Nat} (hn : 179 ≤ n) {f : Nat} {self : Nat → Int → jM → Option (Int × jM)} (hs0 : ∀ (_ : 179 ≤ n) {l1 : Int} {M : jM} {rz : Int} {Mz : jM}, self 0 l1 M = some (rz, Mz) → jCt X n yX4_sum cX4_sum 5 (some .boolean) (5 + f) [jA 109, jI l1] M (some (jI rz)) Mz) (hs1 : ∀ (_ : 179 ≤ n) {l1 : Int} {M : jM} {rz : Int} {Mz : jM}, self 1 l1 M = some (rz, Mz) → jCt X n yX4_atom cX4_atom 3 (some .boolean) (5 + f) [jA 109, jI l1] M (some (jI rz)) Mz) {l1 : Int} {M : jM} {rz : Int} {Mz : jM} (h : g_X4_sum self l1 M = some (rz, Mz)) : jCt X n yX4_sum cX4_sum 5 (some .boolean) (5 + (f + 1)) [jA 109, jI l1] M (some (jI rz)) Mz := by
  refine jCt_of (own := RX4) (ls := [jA 109, jI l1, jN, jN, jN]) (by decide +kernel) rfl hn (Nat.le_of_ble_eq_true rfl) rfl ?_
  intro C hC hR
  unfold g_X4_sum at h
  refine x_iconst (pc := 0) hC dX4_sum_0 ?_
  refine x_istore_n (ls2 := [jA 109, jI l1, jI 0, jN, jN]) (pc := 1) hC dX4_sum_1 rfl (by decide) rfl rfl rfl ?_
  refine x_iconst (pc := 2) hC dX4_sum_2 ?_
  refine x_istore_n (ls2 := [jA 109, jI l1, jI 0, jI 0, jN]) (pc := 3) hC dX4_sum_3 rfl (by decide) rfl rfl rfl ?_
  refine x_iconst (pc := 4) hC dX4_sum_4 ?_
  refine x_istore (ls2 := [jA 109, jI l1, jI 0, jI 0, jI 0]) (pc := 5) hC dX4_sum_5 (by decide) rfl rfl rfl ?_
  refine jlp4_ind (P := fun (l2_1 : Int) (l3_2 : Int) (l4_3 : Int) (M4 : jM) => jG C X n 5 0 0 7 [jA 109, jI l1, jI l2_1, jI l3_2, jI l4_3] [] M4) ?_ _ _ _ _ _ h
  intro self5 l2_1 l3_2 l4_3 M4 Hself5 h
  refine x_iload (pc := 7) hC dX4_sum_7 rfl ?_
  refine x_sipush (pc := 9) hC dX4_sum_9 rfl ?_
  refine x_icmp_gt (tgt := 133) (pc := 12) hC dX4_sum_12 (by decide) (fun hc => ?_) (fun hc => ?_)
  · replace h := jit_pos hc h
    refine x_aloadA_n (pc := 133) hC dX4_sum_133 rfl rfl k_109 (by decide) ?_
    obtain ⟨v8, M7, e6, h⟩ := jbW_some h
    refine x_cV (pc := 134) hC mv_X4_74 (ok_X4_refuse hn e6) rfl (by omega) k_109 rfl (by decide) (jRo0 C) (Nat.le_of_ble_eq_true rfl) dX4_sum_134 rfl ?_
    obtain ⟨hz9, h⟩ := jck_some h
    exact x_zret (pc := 137) hC hR dX4_sum_137 hz9 (jr1 h) (jr2 h)
  · replace h := jit_neg hc h
    refine x_aloadA_n (pc := 15) hC dX4_sum_15 rfl rfl k_109 (by decide) ?_
    refine x_iload_n (pc := 16) hC dX4_sum_16 rfl rfl ?_
    obtain ⟨v12, M11, e10, h⟩ := jbW_some h
    refine x_cV (pc := 17) hC mv_X4_223 (hs1 hn e10) rfl (by omega) k_109 rfl (by decide) (jRo0 C) (Nat.le_of_ble_eq_true rfl) dX4_sum_17 rfl ?_
    refine x_if_ne (tgt := 25) (pc := 20) hC dX4_sum_20 (by decide) (fun hc => ?_) (fun hc => ?_)
    · replace h := jit_neg hc h
      refine x_iload_n (pc := 25) hC dX4_sum_25 rfl rfl ?_
      obtain ⟨k14, Hk14, h⟩ := jk_some (P := fun k14 => ∀ (M13 : jM), k14 M13 = some (rz, Mz) → jG C X n 5 0 0 41 [jA 109, jI l1, jI l2_1, jI l3_2, jI l4_3] [] M13) h (by
        intro M13 h
        refine x_aloadA_n (pc := 41) hC dX4_sum_41 rfl rfl k_109 (by decide) ?_
        refine x_gi (pc := 42) (ji := 3) hC fl_X4_15 rfl fn4_3 k_109 dX4_sum_42 ?_
        refine x_bipush (pc := 45) hC dX4_sum_45 rfl ?_
        obtain ⟨k16, Hk16, h⟩ := jk_some (P := fun k16 => ∀ (s0_15 : Int), k16 s0_15 = some (rz, Mz) → jG C X n 5 0 0 55 [jA 109, jI l1, jI l2_1, jI l3_2, jI l4_3] [jI s0_15] M13) h (by
          intro s0_15 h
          refine x_istore_n (ls2 := [jA 109, jI l1, jI s0_15, jI l3_2, jI l4_3]) (pc := 55) hC dX4_sum_55 rfl (by decide) rfl rfl rfl ?_
          refine x_iload_n (pc := 56) hC dX4_sum_56 rfl rfl ?_
          obtain ⟨k18, Hk18, h⟩ := jk_some (P := fun k18 => ∀ (M17 : jM), k18 M17 = some (rz, Mz) → jG C X n 5 0 0 75 [jA 109, jI l1, jI s0_15, jI l3_2, jI l4_3] [] M17) h (by
            intro M17 h
            refine x_iload_n (pc := 75) hC dX4_sum_75 rfl rfl ?_
            obtain ⟨k19, Hk19, h⟩ := jk_some (P := fun k19 => k19 = some (rz, Mz) → jG C X n 5 0 0 99 [jA 109, jI l1, jI s0_15, jI l3_2, jI l4_3] [] M17) h (by
              intro h
              refine x_iload_n (pc := 99) hC dX4_sum_99 rfl rfl ?_
              obtain ⟨k21, Hk21, h⟩ := jk_some (P := fun k21 => ∀ (s0_20 : Int), k21 s0_20 = some (rz, Mz) → jG C X n 5 0 0 122 [jA 109, jI l1, jI s0_15, jI l3_2, jI l4_3] [jI s0_20] M17) h (by
                intro s0_20 h
                refine x_istore_n (ls2 := [jA 109, jI l1, jI s0_15, jI s0_20, jI l4_3]) (pc := 122) hC dX4_sum_122 rfl (by decide) rfl rfl rfl ?_
                refine x_aloadA_n (pc := 123) hC dX4_sum_123 rfl rfl k_109 (by decide) ?_
                obtain ⟨M23, e22, h⟩ := jbV_some h
                refine x_cV (pc := 124) hC mv_X4_95 (ok_X4_advance hn e22) rfl (by omega) k_109 rfl (by decide) (jRo0 C) (Nat.le_of_ble_eq_true rfl) dX4_sum_124 rfl ?_
                obtain ⟨l4_24, el4_24, h⟩ := jlet_some h
                refine x_iinc (ls2 := [jA 109, jI l1, jI s0_15, jI s0_20, jI l4_24]) (pc := 127) hC dX4_sum_127 rfl (by decide) rfl el4_24 rfl ?_
                refine x_goto (tgt := 7) (pc := 130) hC dX4_sum_130 (by decide) ?_
                exact Hself5 _ _ _ _ h)
              refine x_if_eq (tgt := 107) (pc := 100) hC dX4_sum_100 (by decide) (fun hc => ?_) (fun hc => ?_)
              · replace h := jit_pos hc h
                refine x_aloadA_n (pc := 107) hC dX4_sum_107 rfl rfl k_109 (by decide) ?_
                refine x_gi (pc := 108) (ji := 3) hC fl_X4_15 rfl fn4_3 k_109 dX4_sum_108 ?_
                refine x_bipush (pc := 111) hC dX4_sum_111 rfl ?_
                refine x_icmp_ne (tgt := 120) (pc := 113) hC dX4_sum_113 (by decide) (fun hc => ?_) (fun hc => ?_)
                · replace h := jit_neg hc h
                  refine x_bipush (pc := 120) hC dX4_sum_120 rfl ?_
                  exact Hk21 _ h
                · replace h := jit_pos hc h
                  refine x_iconst (pc := 116) hC dX4_sum_116 ?_
                  refine x_goto (tgt := 122) (pc := 117) hC dX4_sum_117 (by decide) ?_
                  exact Hk21 _ h
              · replace h := jit_neg hc h
                refine x_iload_n (pc := 103) hC dX4_sum_103 rfl rfl ?_
                refine x_goto (tgt := 122) (pc := 104) hC dX4_sum_104 (by decide) ?_
                exact Hk21 _ h)
            refine x_if_ne (tgt := 99) (pc := 76) hC dX4_sum_76 (by decide) (fun hc => ?_) (fun hc => ?_)
            · replace h := jit_neg hc h
              exact Hk19 h
            · replace h := jit_pos hc h
              refine x_aloadA_n (pc := 79) hC dX4_sum_79 rfl rfl k_109 (by decide) ?_
              refine x_gi (pc := 80) (ji := 3) hC fl_X4_15 rfl fn4_3 k_109 dX4_sum_80 ?_
              refine x_bipush (pc := 83) hC dX4_sum_83 rfl ?_
              refine x_icmp_eq (tgt := 99) (pc := 85) hC dX4_sum_85 (by decide) (fun hc => ?_) (fun hc => ?_)
              · replace h := jit_pos hc h
                exact Hk19 h
              · replace h := jit_neg hc h
                refine x_aloadA_n (pc := 88) hC dX4_sum_88 rfl rfl k_109 (by decide) ?_
                refine x_gi (pc := 89) (ji := 3) hC fl_X4_15 rfl fn4_3 k_109 dX4_sum_89 ?_
                refine x_bipush (pc := 92) hC dX4_sum_92 rfl ?_
                refine x_icmp_eq (tgt := 99) (pc := 94) hC dX4_sum_94 (by decide) (fun hc => ?_) (fun hc => ?_)
                · replace h := jit_pos hc h
                  exact Hk19 h
                · replace h := jit_neg hc h
                  refine x_iconst (pc := 97) hC dX4_sum_97 ?_
                  exact x_zret (pc := 98) hC hR dX4_sum_98 (Or.inr jw1) (jr1 h) (jr2 h))
          refine x_if_ne (tgt := 75) (pc := 57) hC dX4_sum_57 (by decide) (fun hc => ?_) (fun hc => ?_)
          · replace h := jit_neg hc h
            exact Hk18 _ h
          · replace h := jit_pos hc h
            refine x_iload_n (pc := 60) hC dX4_sum_60 rfl rfl ?_
            refine x_if_eq (tgt := 75) (pc := 61) hC dX4_sum_61 (by decide) (fun hc => ?_) (fun hc => ?_)
            · replace h := jit_pos hc h
              exact Hk18 _ h
            · replace h := jit_neg hc h
              refine x_aloadA_n (pc := 64) hC dX4_sum_64 rfl rfl k_109 (by decide) ?_
              obtain ⟨hk25, h⟩ := jck_some h
              refine x_gr (pc := 65) (ji := 1) hC fl_X4_38 rfl ft4_1 k_109 dX4_sum_65 ?_
              refine x_gf (pc := 68) (b := ((M13 109 1) + 7)) hC fl_X4_193 ft1_5 hk25 (by decide) (off := 7) (by decide +kernel) rfl dX4_sum_68 ?_
              refine x_iload_n (pc := 71) hC dX4_sum_71 rfl rfl ?_
              obtain ⟨M27, e26, h⟩ := jbV_some h
              refine x_cV (pc := 72) hC mv_X4_218 (ok_X5_add hn (ko1_5 hk25) e26) rfl (by omega) (ko1_5 hk25) rfl (by decide) (jRo0 C) (Nat.le_of_ble_eq_true rfl) dX4_sum_72 rfl ?_
              exact Hk18 _ h)
        refine x_icmp_ne (tgt := 54) (pc := 47) hC dX4_sum_47 (by decide) (fun hc => ?_) (fun hc => ?_)
        · replace h := jit_neg hc h
          refine x_iconst (pc := 54) hC dX4_sum_54 ?_
          exact Hk16 _ h
        · replace h := jit_pos hc h
          refine x_iconst (pc := 50) hC dX4_sum_50 ?_
          refine x_goto (tgt := 55) (pc := 51) hC dX4_sum_51 (by decide) ?_
          exact Hk16 _ h)
      refine x_if_eq (tgt := 41) (pc := 26) hC dX4_sum_26 (by decide) (fun hc => ?_) (fun hc => ?_)
      · replace h := jit_pos hc h
        exact Hk14 _ h
      · replace h := jit_neg hc h
        refine x_aloadA_n (pc := 29) hC dX4_sum_29 rfl rfl k_109 (by decide) ?_
        obtain ⟨hk28, h⟩ := jck_some h
        refine x_gr (pc := 30) (ji := 1) hC fl_X4_38 rfl ft4_1 k_109 dX4_sum_30 ?_
        refine x_gf (pc := 33) (b := ((M11 109 1) + 7)) hC fl_X4_193 ft1_5 hk28 (by decide) (off := 7) (by decide +kernel) rfl dX4_sum_33 ?_
        refine x_bipush (pc := 36) hC dX4_sum_36 rfl ?_
        obtain ⟨M30, e29, h⟩ := jbV_some h
        refine x_cV (pc := 38) hC mv_X4_218 (ok_X5_add hn (ko1_5 hk28) e29) rfl (by omega) (ko1_5 hk28) rfl (by decide) (jRo0 C) (Nat.le_of_ble_eq_true rfl) dX4_sum_38 rfl ?_
        exact Hk14 _ h
    · replace h := jit_pos hc h
      refine x_iconst (pc := 23) hC dX4_sum_23 ?_
      exact x_zret (pc := 24) hC hR dX4_sum_24 (Or.inl jw0) (jr1 h) (jr2 h)

set_option maxHeartbeats 4000000 in
set_option maxRecDepth 20000 in
theorem og_X4_atom {X : jX} {n : Nat} (hn : 179 ≤ n) {f : Nat} {self : Nat → Int → jM → Option (Int × jM)} (hs0 : ∀ (_ : 179 ≤ n) {l1 : Int} {M : jM} {rz : Int} {Mz : jM}, self 0 l1 M = some (rz, Mz) → jCt X n yX4_sum cX4_sum 5 (some .boolean) (5 + f) [jA 109, jI l1] M (some (jI rz)) Mz) (hs1 : ∀ (_ : 179 ≤ n) {l1 : Int} {M : jM} {rz : Int} {Mz : jM}, self 1 l1 M = some (rz, Mz) → jCt X n yX4_atom cX4_atom 3 (some .boolean) (5 + f) [jA 109, jI l1] M (some (jI rz)) Mz) {l1 : Int} {M : jM} {rz : Int} {Mz : jM} (h : g_X4_atom self l1 M = some (rz, Mz)) : jCt X n yX4_atom cX4_atom 3 (some .boolean) (5 + (f + 1)) [jA 109, jI l1] M (some (jI rz)) Mz := by
  refine jCt_of (own := RX4) (ls := [jA 109, jI l1, jN]) (by decide +kernel) rfl hn (Nat.le_of_ble_eq_true rfl) rfl ?_
  intro C hC hR
  unfold g_X4_atom at h
  refine x_aloadA_n (pc := 0) hC dX4_atom_0 rfl rfl k_109 (by decide) ?_
  refine x_gi (pc := 1) (ji := 3) hC fl_X4_15 rfl fn4_3 k_109 dX4_atom_1 ?_
  refine x_bipush (pc := 4) hC dX4_atom_4 rfl ?_
  refine x_icmp_ne (tgt := 48) (pc := 6) hC dX4_atom_6 (by decide) (fun hc => ?_) (fun hc => ?_)
  · replace h := jit_neg hc h
    refine x_aloadA_n (pc := 48) hC dX4_atom_48 rfl rfl k_109 (by decide) ?_
    refine x_ldcS (pc := 49) hC dX4_atom_49 sr_2 (q := 2) rfl ?_
    obtain ⟨v2, e1, h⟩ := jbR_some h
    refine x_cV (pc := 51) hC mv_X4_48 (ok_X4_among hn (by decide) e1) rfl (by omega) k_109 rfl (by decide) (jRo0 C) (Nat.le_of_ble_eq_true rfl) dX4_atom_51 rfl ?_
    refine x_istore_n (ls2 := [jA 109, jI l1, jI v2]) (pc := 54) hC dX4_atom_54 rfl (by decide) rfl rfl rfl ?_
    refine x_iload_n (pc := 55) hC dX4_atom_55 rfl rfl ?_
    refine x_iconst (pc := 56) hC dX4_atom_56 ?_
    refine x_icmp_eq (tgt := 81) (pc := 57) hC dX4_atom_57 (by decide) (fun hc => ?_) (fun hc => ?_)
    · replace h := jit_pos hc h
      refine x_aloadA_n (pc := 81) hC dX4_atom_81 rfl rfl k_109 (by decide) ?_
      refine x_iconst (pc := 82) hC dX4_atom_82 ?_
      refine x_sipush (pc := 83) hC dX4_atom_83 rfl ?_
      obtain ⟨v5, M4, e3, h⟩ := jbW_some h
      refine x_cV (pc := 86) hC mv_X4_131 (ok_X4_number hn e3) rfl (by omega) k_109 rfl (by decide) (jRo0 C) (Nat.le_of_ble_eq_true rfl) dX4_atom_86 rfl ?_
      refine x_if_ne (tgt := 94) (pc := 89) hC dX4_atom_89 (by decide) (fun hc => ?_) (fun hc => ?_)
      · replace h := jit_neg hc h
        refine x_aloadA_n (pc := 94) hC dX4_atom_94 rfl rfl k_109 (by decide) ?_
        obtain ⟨hk6, h⟩ := jck_some h
        refine x_gr (pc := 95) (ji := 1) hC fl_X4_38 rfl ft4_1 k_109 dX4_atom_95 ?_
        refine x_gf (pc := 98) (b := ((M4 109 1) + 7)) hC fl_X4_193 ft1_5 hk6 (by decide) (off := 7) (by decide +kernel) rfl dX4_atom_98 ?_
        refine x_aloadA_n (pc := 101) hC dX4_atom_101 rfl rfl k_109 (by decide) ?_
        refine x_gi (pc := 102) (ji := 6) hC fl_X4_24 rfl fn4_6 k_109 dX4_atom_102 ?_
        obtain ⟨M8, e7, h⟩ := jbV_some h
        refine x_cV (pc := 105) hC mv_X4_218 (ok_X5_add hn (ko1_5 hk6) e7) rfl (by omega) (ko1_5 hk6) rfl (by decide) (jRo0 C) (Nat.le_of_ble_eq_true rfl) dX4_atom_105 rfl ?_
        refine x_iconst (pc := 108) hC dX4_atom_108 ?_
        exact x_zret (pc := 109) hC hR dX4_atom_109 (Or.inr jw1) (jr1 h) (jr2 h)
      · replace h := jit_pos hc h
        refine x_iconst (pc := 92) hC dX4_atom_92 ?_
        exact x_zret (pc := 93) hC hR dX4_atom_93 (Or.inl jw0) (jr1 h) (jr2 h)
    · replace h := jit_neg hc h
      refine x_aloadA_n (pc := 60) hC dX4_atom_60 rfl rfl k_109 (by decide) ?_
      obtain ⟨hk9, h⟩ := jck_some h
      refine x_gr (pc := 61) (ji := 1) hC fl_X4_38 rfl ft4_1 k_109 dX4_atom_61 ?_
      refine x_gf (pc := 64) (b := ((M 109 1) + 7)) hC fl_X4_193 ft1_5 hk9 (by decide) (off := 7) (by decide +kernel) rfl dX4_atom_64 ?_
      refine x_sipush (pc := 67) hC dX4_atom_67 rfl ?_
      refine x_iload_n (pc := 70) hC dX4_atom_70 rfl rfl ?_
      refine x_iadd (pc := 71) hC dX4_atom_71 ?_
      obtain ⟨M11, e10, h⟩ := jbV_some h
      refine x_cV (pc := 72) hC mv_X4_218 (ok_X5_add hn (ko1_5 hk9) e10) rfl (by omega) (ko1_5 hk9) rfl (by decide) (jRo0 C) (Nat.le_of_ble_eq_true rfl) dX4_atom_72 rfl ?_
      refine x_aloadA_n (pc := 75) hC dX4_atom_75 rfl rfl k_109 (by decide) ?_
      obtain ⟨M13, e12, h⟩ := jbV_some h
      refine x_cV (pc := 76) hC mv_X4_95 (ok_X4_advance hn e12) rfl (by omega) k_109 rfl (by decide) (jRo0 C) (Nat.le_of_ble_eq_true rfl) dX4_atom_76 rfl ?_
      refine x_iconst (pc := 79) hC dX4_atom_79 ?_
      exact x_zret (pc := 80) hC hR dX4_atom_80 (Or.inr jw1) (jr1 h) (jr2 h)
  · replace h := jit_pos hc h
    refine x_iload_n (pc := 9) hC dX4_atom_9 rfl rfl ?_
    refine x_iconst (pc := 10) hC dX4_atom_10 ?_
    refine x_icmp_lt (tgt := 19) (pc := 11) hC dX4_atom_11 (by decide) (fun hc => ?_) (fun hc => ?_)
    · replace h := jit_pos hc h
      refine x_aloadA_n (pc := 19) hC dX4_atom_19 rfl rfl k_109 (by decide) ?_
      obtain ⟨M15, e14, h⟩ := jbV_some h
      refine x_cV (pc := 20) hC mv_X4_95 (ok_X4_advance hn e14) rfl (by omega) k_109 rfl (by decide) (jRo0 C) (Nat.le_of_ble_eq_true rfl) dX4_atom_20 rfl ?_
      refine x_aloadA_n (pc := 23) hC dX4_atom_23 rfl rfl k_109 (by decide) ?_
      refine x_iload_n (pc := 24) hC dX4_atom_24 rfl rfl ?_
      refine x_iconst (pc := 25) hC dX4_atom_25 ?_
      refine x_iadd (pc := 26) hC dX4_atom_26 ?_
      obtain ⟨v18, M17, e16, h⟩ := jbW_some h
      refine x_cV (pc := 27) hC mv_X4_203 (hs0 hn e16) rfl (by omega) k_109 rfl (by decide) (jRo0 C) (Nat.le_of_ble_eq_true rfl) dX4_atom_27 rfl ?_
      refine x_if_eq (tgt := 46) (pc := 30) hC dX4_atom_30 (by decide) (fun hc => ?_) (fun hc => ?_)
      · replace h := jit_pos hc h
        refine x_iconst (pc := 46) hC dX4_atom_46 ?_
        exact x_zret (pc := 47) hC hR dX4_atom_47 (Or.inl jw0) (jr1 h) (jr2 h)
      · replace h := jit_neg hc h
        refine x_aloadA_n (pc := 33) hC dX4_atom_33 rfl rfl k_109 (by decide) ?_
        refine x_bipush (pc := 34) hC dX4_atom_34 rfl ?_
        obtain ⟨v21, M20, e19, h⟩ := jbW_some h
        refine x_cV (pc := 36) hC mv_X4_81 (ok_X4_sign hn e19) rfl (by omega) k_109 rfl (by decide) (jRo0 C) (Nat.le_of_ble_eq_true rfl) dX4_atom_36 rfl ?_
        refine x_if_eq (tgt := 46) (pc := 39) hC dX4_atom_39 (by decide) (fun hc => ?_) (fun hc => ?_)
        · replace h := jit_pos hc h
          refine x_iconst (pc := 46) hC dX4_atom_46 ?_
          exact x_zret (pc := 47) hC hR dX4_atom_47 (Or.inl jw0) (jr1 h) (jr2 h)
        · replace h := jit_neg hc h
          refine x_iconst (pc := 42) hC dX4_atom_42 ?_
          refine x_goto (tgt := 47) (pc := 43) hC dX4_atom_43 (by decide) ?_
          exact x_zret (pc := 47) hC hR dX4_atom_47 (Or.inr jw1) (jr1 h) (jr2 h)
    · replace h := jit_neg hc h
      refine x_aloadA_n (pc := 14) hC dX4_atom_14 rfl rfl k_109 (by decide) ?_
      obtain ⟨v24, M23, e22, h⟩ := jbW_some h
      refine x_cV (pc := 15) hC mv_X4_74 (ok_X4_refuse hn e22) rfl (by omega) k_109 rfl (by decide) (jRo0 C) (Nat.le_of_ble_eq_true rfl) dX4_atom_15 rfl ?_
      obtain ⟨hz25, h⟩ := jck_some h
      exact x_zret (pc := 18) hC hR dX4_atom_18 hz25 (jr1 h) (jr2 h)

set_option maxHeartbeats 4000000 in
set_option maxRecDepth 20000 in
theorem ok_f_X4_g {X : jX} {n : Nat} : ∀ f : Nat, (∀ (_ : 179 ≤ n) {l1 : Int} {M : jM} {rz : Int} {Mz : jM}, f_X4_g f 0 l1 M = some (rz, Mz) → jCt X n yX4_sum cX4_sum 5 (some .boolean) (5 + f) [jA 109, jI l1] M (some (jI rz)) Mz) ∧ (∀ (_ : 179 ≤ n) {l1 : Int} {M : jM} {rz : Int} {Mz : jM}, f_X4_g f 1 l1 M = some (rz, Mz) → jCt X n yX4_atom cX4_atom 3 (some .boolean) (5 + f) [jA 109, jI l1] M (some (jI rz)) Mz) := by
  intro f
  induction f with
  | zero => exact ⟨(by intro _ _ _ _ _ h; cases h), (by intro _ _ _ _ _ h; cases h)⟩
  | succ f ih =>
    exact ⟨(by intro hn _ _ _ _ h; unfold f_X4_g at h; exact og_X4_sum hn ih.1 ih.2 (jit_pos rfl h)), (by intro hn _ _ _ _ h; unfold f_X4_g at h; exact og_X4_atom hn ih.1 ih.2 (jit_neg (by decide) h))⟩

set_option maxHeartbeats 4000000 in
set_option maxRecDepth 20000 in
theorem ok_X4_sum {X : jX} {n : Nat} (hn : 179 ≤ n) {l1 : Int} {M : jM} {rz : Int} {Mz : jM} (h : f_X4_sum l1 M = some (rz, Mz)) : jCt X n yX4_sum cX4_sum 5 (some .boolean) (29) [jA 109, jI l1] M (some (jI rz)) Mz := (ok_f_X4_g 24).1 hn h

set_option maxHeartbeats 4000000 in
set_option maxRecDepth 20000 in
theorem ok_X4_atom {X : jX} {n : Nat} (hn : 179 ≤ n) {l1 : Int} {M : jM} {rz : Int} {Mz : jM} (h : f_X4_atom l1 M = some (rz, Mz)) : jCt X n yX4_atom cX4_atom 3 (some .boolean) (29) [jA 109, jI l1] M (some (jI rz)) Mz := (ok_f_X4_g 24).2 hn h

set_option maxHeartbeats 4000000 in
set_option maxRecDepth 20000 in
theorem og_X10_saysNumber {X : jX} {n : Nat} (hn : 179 ≤ n) {f : Nat} {self : Nat → Int → jM → Option (jM)} (hs0 : ∀ (_ : 179 ≤ n) {l1 : Int} {M : jM} {Mz : jM}, self 0 l1 M = some Mz → jCt X n yX10_saysNumber cX10_saysNumber 2 (none) (0 + f) [jA 166, jI l1] M (none) Mz) {l1 : Int} {M : jM} {Mz : jM} (h : g_X10_saysNumber self l1 M = some Mz) : jCt X n yX10_saysNumber cX10_saysNumber 2 (none) (0 + (f + 1)) [jA 166, jI l1] M (none) Mz := by
  refine jCt_of (own := RX10) (ls := [jA 166, jI l1]) (by decide +kernel) rfl hn (Nat.le_of_ble_eq_true rfl) rfl ?_
  intro C hC hR
  unfold g_X10_saysNumber at h
  refine x_iload_n (pc := 0) hC dX10_saysNumber_0 rfl rfl ?_
  refine x_bipush (pc := 1) hC dX10_saysNumber_1 rfl ?_
  obtain ⟨k2, Hk2, h⟩ := jk_some (P := fun k2 => ∀ (M1 : jM), k2 M1 = some Mz → jG C X n 2 0 0 14 [jA 166, jI l1] [] M1) h (by
    intro M1 h
    refine x_aloadA_n (pc := 14) hC dX10_saysNumber_14 rfl rfl k_166 (by decide) ?_
    refine x_bipush (pc := 15) hC dX10_saysNumber_15 rfl ?_
    refine x_iload_n (pc := 17) hC dX10_saysNumber_17 rfl rfl ?_
    refine x_bipush (pc := 18) hC dX10_saysNumber_18 rfl ?_
    refine x_irem (pc := 20) hC dX10_saysNumber_20 (by decide) ?_
    refine x_iadd (pc := 21) hC dX10_saysNumber_21 ?_
    obtain ⟨M4, e3, h⟩ := jbV_some h
    refine x_cV (pc := 22) hC mv_X10_475 (ok_X10_says hn e3) rfl (by omega) k_166 rfl (by decide) (jRo0 C) (Nat.le_of_ble_eq_true rfl) dX10_saysNumber_22 rfl ?_
    exact x_vret (pc := 25) hC hR dX10_saysNumber_25 (jrR h))
  refine x_icmp_le (tgt := 14) (pc := 3) hC dX10_saysNumber_3 (by decide) (fun hc => ?_) (fun hc => ?_)
  · replace h := jit_pos hc h
    exact Hk2 _ h
  · replace h := jit_neg hc h
    refine x_aloadA_n (pc := 6) hC dX10_saysNumber_6 rfl rfl k_166 (by decide) ?_
    refine x_iload_n (pc := 7) hC dX10_saysNumber_7 rfl rfl ?_
    refine x_bipush (pc := 8) hC dX10_saysNumber_8 rfl ?_
    refine x_idiv (pc := 10) hC dX10_saysNumber_10 (by decide) ?_
    obtain ⟨M6, e5, h⟩ := jbV_some h
    refine x_cV (pc := 11) hC mv_X10_478 (hs0 hn e5) rfl (by omega) k_166 rfl (by decide) (jRo0 C) (Nat.le_of_ble_eq_true rfl) dX10_saysNumber_11 rfl ?_
    exact Hk2 _ h

set_option maxHeartbeats 4000000 in
set_option maxRecDepth 20000 in
theorem ok_f_X10_sn {X : jX} {n : Nat} : ∀ f : Nat, (∀ (_ : 179 ≤ n) {l1 : Int} {M : jM} {Mz : jM}, f_X10_sn f 0 l1 M = some Mz → jCt X n yX10_saysNumber cX10_saysNumber 2 (none) (0 + f) [jA 166, jI l1] M (none) Mz) := by
  intro f
  induction f with
  | zero => exact by intro _ _ _ _ h; cases h
  | succ f ih =>
    exact by intro hn _ _ _ h; unfold f_X10_sn at h; exact og_X10_saysNumber hn ih h

set_option maxHeartbeats 4000000 in
set_option maxRecDepth 20000 in
theorem ok_X10_saysNumber {X : jX} {n : Nat} (hn : 179 ≤ n) {l1 : Int} {M : jM} {Mz : jM} (h : f_X10_saysNumber l1 M = some Mz) : jCt X n yX10_saysNumber cX10_saysNumber 2 (none) (12) [jA 166, jI l1] M (none) Mz := (ok_f_X10_sn 12) hn h

set_option maxHeartbeats 4000000 in
set_option maxRecDepth 20000 in
theorem ok_X4_test {X : jX} {n : Nat} (hn : 179 ≤ n) {M : jM} {rz : Int} {Mz : jM} (h : f_X4_test M = some (rz, Mz)) : jCt X n yX4_test cX4_test 7 (some .boolean) 30 [jA 109] M (some (jI rz)) Mz := by
  refine jCt_of (own := RX4) (ls := [jA 109, jN, jN, jN, jN, jN, jN]) (by decide +kernel) rfl hn (Nat.le_of_ble_eq_true rfl) rfl ?_
  intro C hC hR
  unfold f_X4_test at h
  refine x_aloadA_n (pc := 0) hC dX4_test_0 rfl rfl k_109 (by decide) ?_
  obtain ⟨hk1, h⟩ := jck_some h
  refine x_gr (pc := 1) (ji := 1) hC fl_X4_38 rfl ft4_1 k_109 dX4_test_1 ?_
  refine x_gf (pc := 4) (b := ((M 109 1) + 7)) hC fl_X4_193 ft1_5 hk1 (by decide) (off := 7) (by decide +kernel) rfl dX4_test_4 ?_
  refine x_astoreA_n (ls2 := [jA 109, jA ((M 109 1) + 7), jN, jN, jN, jN, jN]) (pc := 7) hC dX4_test_7 rfl (by decide) rfl (ko1_5 hk1) (by decide) rfl ?_
  refine x_iconst (pc := 8) hC dX4_test_8 ?_
  refine x_istore_n (ls2 := [jA 109, jA ((M 109 1) + 7), jI 0, jN, jN, jN, jN]) (pc := 9) hC dX4_test_9 rfl (by decide) rfl rfl rfl ?_
  refine x_iconst (pc := 10) hC dX4_test_10 ?_
  refine x_istore_n (ls2 := [jA 109, jA ((M 109 1) + 7), jI 0, jI 0, jN, jN, jN]) (pc := 11) hC dX4_test_11 rfl (by decide) rfl rfl rfl ?_
  refine x_iconst (pc := 12) hC dX4_test_12 ?_
  refine x_istore (ls2 := [jA 109, jA ((M 109 1) + 7), jI 0, jI 0, jI 0, jN, jN]) (pc := 13) hC dX4_test_13 (by decide) rfl rfl rfl ?_
  refine jlp4_ind (P := fun (l2_2 : Int) (l3_3 : Int) (l4_4 : Int) (M5 : jM) => jG C X n 7 0 0 15 [jA 109, jA ((M 109 1) + 7), jI l2_2, jI l3_3, jI l4_4, jN, jN] [] M5) ?_ _ _ _ _ _ h
  intro self6 l2_2 l3_3 l4_4 M5 Hself6 h
  refine x_iload (pc := 15) hC dX4_test_15 rfl ?_
  refine x_sipush (pc := 17) hC dX4_test_17 rfl ?_
  refine x_icmp_gt (tgt := 145) (pc := 20) hC dX4_test_20 (by decide) (fun hc => ?_) (fun hc => ?_)
  · replace h := jit_pos hc h
    refine x_aloadA_n (pc := 145) hC dX4_test_145 rfl rfl k_109 (by decide) ?_
    obtain ⟨v9, M8, e7, h⟩ := jbW_some h
    refine x_cV (pc := 146) hC mv_X4_74 (ok_X4_refuse hn e7) rfl (Nat.le_of_ble_eq_true rfl) k_109 rfl (by decide) (jRo0 C) (Nat.le_of_ble_eq_true rfl) dX4_test_146 rfl ?_
    obtain ⟨hz10, h⟩ := jck_some h
    exact x_zret (pc := 149) hC hR dX4_test_149 hz10 (jr1 h) (jr2 h)
  · replace h := jit_neg hc h
    refine x_aloadA_n (pc := 23) hC dX4_test_23 rfl rfl k_109 (by decide) ?_
    refine x_iconst (pc := 24) hC dX4_test_24 ?_
    obtain ⟨v13, M12, e11, h⟩ := jbW_some h
    refine x_cV (pc := 25) hC mv_X4_203 (ok_X4_sum hn e11) rfl (Nat.le_of_ble_eq_true rfl) k_109 rfl (by decide) (jRo0 C) (Nat.le_of_ble_eq_true rfl) dX4_test_25 rfl ?_
    refine x_if_ne (tgt := 33) (pc := 28) hC dX4_test_28 (by decide) (fun hc => ?_) (fun hc => ?_)
    · replace h := jit_neg hc h
      refine x_aloadA_n (pc := 33) hC dX4_test_33 rfl rfl k_109 (by decide) ?_
      obtain ⟨v15, e14, h⟩ := jbR_some h
      refine x_cV (pc := 34) hC mv_X4_215 (ok_X4_relation hn e14) rfl (Nat.le_of_ble_eq_true rfl) k_109 rfl (by decide) (jRo0 C) (Nat.le_of_ble_eq_true rfl) dX4_test_34 rfl ?_
      refine x_istore (ls2 := [jA 109, jA ((M 109 1) + 7), jI l2_2, jI l3_3, jI l4_4, jI v15, jN]) (pc := 37) hC dX4_test_37 (by decide) rfl rfl rfl ?_
      refine x_iload (pc := 39) hC dX4_test_39 rfl ?_
      refine x_iconst (pc := 41) hC dX4_test_41 ?_
      refine x_icmp_ne (tgt := 50) (pc := 42) hC dX4_test_42 (by decide) (fun hc => ?_) (fun hc => ?_)
      · replace h := jit_neg hc h
        refine x_aloadA_n (pc := 50) hC dX4_test_50 rfl rfl k_109 (by decide) ?_
        obtain ⟨M17, e16, h⟩ := jbV_some h
        refine x_cV (pc := 51) hC mv_X4_95 (ok_X4_advance hn e16) rfl (Nat.le_of_ble_eq_true rfl) k_109 rfl (by decide) (jRo0 C) (Nat.le_of_ble_eq_true rfl) dX4_test_51 rfl ?_
        refine x_aloadA_n (pc := 54) hC dX4_test_54 rfl rfl k_109 (by decide) ?_
        refine x_iconst (pc := 55) hC dX4_test_55 ?_
        obtain ⟨v20, M19, e18, h⟩ := jbW_some h
        refine x_cV (pc := 56) hC mv_X4_203 (ok_X4_sum hn e18) rfl (Nat.le_of_ble_eq_true rfl) k_109 rfl (by decide) (jRo0 C) (Nat.le_of_ble_eq_true rfl) dX4_test_56 rfl ?_
        refine x_if_ne (tgt := 64) (pc := 59) hC dX4_test_59 (by decide) (fun hc => ?_) (fun hc => ?_)
        · replace h := jit_neg hc h
          refine x_aloadA_n (pc := 64) hC dX4_test_64 rfl rfl (ko1_5 hk1) (by decide) ?_
          refine x_iload (pc := 65) hC dX4_test_65 rfl ?_
          obtain ⟨M22, e21, h⟩ := jbV_some h
          refine x_cV (pc := 67) hC mv_X4_218 (ok_X5_add hn (ko1_5 hk1) e21) rfl (Nat.le_of_ble_eq_true rfl) (ko1_5 hk1) rfl (by decide) (jRo0 C) (Nat.le_of_ble_eq_true rfl) dX4_test_67 rfl ?_
          refine x_iload_n (pc := 70) hC dX4_test_70 rfl rfl ?_
          obtain ⟨k24, Hk24, h⟩ := jk_some (P := fun k24 => ∀ (M23 : jM), k24 M23 = some (rz, Mz) → jG C X n 7 0 0 80 [jA 109, jA ((M 109 1) + 7), jI l2_2, jI l3_3, jI l4_4, jI v15, jN] [] M23) h (by
            intro M23 h
            refine x_aloadA_n (pc := 80) hC dX4_test_80 rfl rfl k_109 (by decide) ?_
            refine x_ldcS (pc := 81) hC dX4_test_81 sr_4 (q := 4) rfl ?_
            obtain ⟨v26, e25, h⟩ := jbR_some h
            refine x_cV (pc := 83) hC mv_X4_48 (ok_X4_among hn (by decide) e25) rfl (Nat.le_of_ble_eq_true rfl) k_109 rfl (by decide) (jRo0 C) (Nat.le_of_ble_eq_true rfl) dX4_test_83 rfl ?_
            refine x_istore (ls2 := [jA 109, jA ((M 109 1) + 7), jI l2_2, jI l3_3, jI l4_4, jI v15, jI v26]) (pc := 86) hC dX4_test_86 (by decide) rfl rfl rfl ?_
            refine x_iload (pc := 88) hC dX4_test_88 rfl ?_
            obtain ⟨k28, Hk28, h⟩ := jk_some (P := fun k28 => ∀ (s0_27 : Int), k28 s0_27 = some (rz, Mz) → jG C X n 7 0 0 98 [jA 109, jA ((M 109 1) + 7), jI l2_2, jI l3_3, jI l4_4, jI v15, jI v26] [jI s0_27] M23) h (by
              intro s0_27 h
              refine x_istore_n (ls2 := [jA 109, jA ((M 109 1) + 7), jI s0_27, jI l3_3, jI l4_4, jI v15, jI v26]) (pc := 98) hC dX4_test_98 rfl (by decide) rfl rfl rfl ?_
              refine x_iload_n (pc := 99) hC dX4_test_99 rfl rfl ?_
              obtain ⟨k30, Hk30, h⟩ := jk_some (P := fun k30 => ∀ (M29 : jM), k30 M29 = some (rz, Mz) → jG C X n 7 0 0 113 [jA 109, jA ((M 109 1) + 7), jI s0_27, jI l3_3, jI l4_4, jI v15, jI v26] [] M29) h (by
                intro M29 h
                refine x_iload (pc := 113) hC dX4_test_113 rfl ?_
                refine x_iconst (pc := 115) hC dX4_test_115 ?_
                refine x_icmp_ne (tgt := 121) (pc := 116) hC dX4_test_116 (by decide) (fun hc => ?_) (fun hc => ?_)
                · replace h := jit_neg hc h
                  refine x_iload_n (pc := 121) hC dX4_test_121 rfl rfl ?_
                  obtain ⟨k32, Hk32, h⟩ := jk_some (P := fun k32 => ∀ (s0_31 : Int), k32 s0_31 = some (rz, Mz) → jG C X n 7 0 0 134 [jA 109, jA ((M 109 1) + 7), jI s0_27, jI l3_3, jI l4_4, jI v15, jI v26] [jI s0_31] M29) h (by
                    intro s0_31 h
                    refine x_istore_n (ls2 := [jA 109, jA ((M 109 1) + 7), jI s0_27, jI s0_31, jI l4_4, jI v15, jI v26]) (pc := 134) hC dX4_test_134 rfl (by decide) rfl rfl rfl ?_
                    refine x_aloadA_n (pc := 135) hC dX4_test_135 rfl rfl k_109 (by decide) ?_
                    obtain ⟨M34, e33, h⟩ := jbV_some h
                    refine x_cV (pc := 136) hC mv_X4_95 (ok_X4_advance hn e33) rfl (Nat.le_of_ble_eq_true rfl) k_109 rfl (by decide) (jRo0 C) (Nat.le_of_ble_eq_true rfl) dX4_test_136 rfl ?_
                    obtain ⟨l4_35, el4_35, h⟩ := jlet_some h
                    refine x_iinc (ls2 := [jA 109, jA ((M 109 1) + 7), jI s0_27, jI s0_31, jI l4_35, jI v15, jI v26]) (pc := 139) hC dX4_test_139 rfl (by decide) rfl el4_35 rfl ?_
                    refine x_goto (tgt := 15) (pc := 142) hC dX4_test_142 (by decide) ?_
                    refine x_kill 5 (ls2 := [jA 109, jA ((M 109 1) + 7), jI s0_27, jI s0_31, jI l4_35, jN, jI v26]) rfl ?_
                    refine x_kill 6 (ls2 := [jA 109, jA ((M 109 1) + 7), jI s0_27, jI s0_31, jI l4_35, jN, jN]) rfl ?_
                    exact Hself6 _ _ _ _ h)
                  obtain ⟨k36, Hk36, h⟩ := jk_some (P := fun k36 => k36 = some (rz, Mz) → jG C X n 7 0 0 129 [jA 109, jA ((M 109 1) + 7), jI s0_27, jI l3_3, jI l4_4, jI v15, jI v26] [] M29) h (by
                    intro h
                    refine x_iconst (pc := 129) hC dX4_test_129 ?_
                    refine x_goto (tgt := 134) (pc := 130) hC dX4_test_130 (by decide) ?_
                    exact Hk32 _ h)
                  refine x_if_ne (tgt := 129) (pc := 122) hC dX4_test_122 (by decide) (fun hc => ?_) (fun hc => ?_)
                  · replace h := jit_neg hc h
                    exact Hk36 h
                  · replace h := jit_pos hc h
                    refine x_iload_n (pc := 125) hC dX4_test_125 rfl rfl ?_
                    refine x_if_ne (tgt := 133) (pc := 126) hC dX4_test_126 (by decide) (fun hc => ?_) (fun hc => ?_)
                    · replace h := jit_neg hc h
                      refine x_iconst (pc := 133) hC dX4_test_133 ?_
                      exact Hk32 _ h
                    · replace h := jit_pos hc h
                      exact Hk36 h
                · replace h := jit_pos hc h
                  refine x_iconst (pc := 119) hC dX4_test_119 ?_
                  exact x_zret (pc := 120) hC hR dX4_test_120 (Or.inr jw1) (jr1 h) (jr2 h))
              refine x_if_eq (tgt := 113) (pc := 100) hC dX4_test_100 (by decide) (fun hc => ?_) (fun hc => ?_)
              · replace h := jit_pos hc h
                exact Hk30 _ h
              · replace h := jit_neg hc h
                refine x_iload_n (pc := 103) hC dX4_test_103 rfl rfl ?_
                refine x_if_ne (tgt := 113) (pc := 104) hC dX4_test_104 (by decide) (fun hc => ?_) (fun hc => ?_)
                · replace h := jit_neg hc h
                  exact Hk30 _ h
                · replace h := jit_pos hc h
                  refine x_aloadA_n (pc := 107) hC dX4_test_107 rfl rfl (ko1_5 hk1) (by decide) ?_
                  refine x_bipush (pc := 108) hC dX4_test_108 rfl ?_
                  obtain ⟨M38, e37, h⟩ := jbV_some h
                  refine x_cV (pc := 110) hC mv_X4_218 (ok_X5_add hn (ko1_5 hk1) e37) rfl (Nat.le_of_ble_eq_true rfl) (ko1_5 hk1) rfl (by decide) (jRo0 C) (Nat.le_of_ble_eq_true rfl) dX4_test_110 rfl ?_
                  exact Hk30 _ h)
            refine x_if_ne (tgt := 97) (pc := 90) hC dX4_test_90 (by decide) (fun hc => ?_) (fun hc => ?_)
            · replace h := jit_neg hc h
              refine x_iconst (pc := 97) hC dX4_test_97 ?_
              exact Hk28 _ h
            · replace h := jit_pos hc h
              refine x_iconst (pc := 93) hC dX4_test_93 ?_
              refine x_goto (tgt := 98) (pc := 94) hC dX4_test_94 (by decide) ?_
              exact Hk28 _ h)
          refine x_if_eq (tgt := 80) (pc := 71) hC dX4_test_71 (by decide) (fun hc => ?_) (fun hc => ?_)
          · replace h := jit_pos hc h
            exact Hk24 _ h
          · replace h := jit_neg hc h
            refine x_aloadA_n (pc := 74) hC dX4_test_74 rfl rfl (ko1_5 hk1) (by decide) ?_
            refine x_bipush (pc := 75) hC dX4_test_75 rfl ?_
            obtain ⟨M40, e39, h⟩ := jbV_some h
            refine x_cV (pc := 77) hC mv_X4_218 (ok_X5_add hn (ko1_5 hk1) e39) rfl (Nat.le_of_ble_eq_true rfl) (ko1_5 hk1) rfl (by decide) (jRo0 C) (Nat.le_of_ble_eq_true rfl) dX4_test_77 rfl ?_
            exact Hk24 _ h
        · replace h := jit_pos hc h
          refine x_iconst (pc := 62) hC dX4_test_62 ?_
          exact x_zret (pc := 63) hC hR dX4_test_63 (Or.inl jw0) (jr1 h) (jr2 h)
      · replace h := jit_pos hc h
        refine x_aloadA_n (pc := 45) hC dX4_test_45 rfl rfl k_109 (by decide) ?_
        obtain ⟨v43, M42, e41, h⟩ := jbW_some h
        refine x_cV (pc := 46) hC mv_X4_74 (ok_X4_refuse hn e41) rfl (Nat.le_of_ble_eq_true rfl) k_109 rfl (by decide) (jRo0 C) (Nat.le_of_ble_eq_true rfl) dX4_test_46 rfl ?_
        obtain ⟨hz44, h⟩ := jck_some h
        exact x_zret (pc := 49) hC hR dX4_test_49 hz44 (jr1 h) (jr2 h)
    · replace h := jit_pos hc h
      refine x_iconst (pc := 31) hC dX4_test_31 ?_
      exact x_zret (pc := 32) hC hR dX4_test_32 (Or.inl jw0) (jr1 h) (jr2 h)

set_option maxHeartbeats 4000000 in
set_option maxRecDepth 20000 in
theorem ok_X4_deductLine {X : jX} {n : Nat} (hn : 179 ≤ n) {M : jM} {rz : Int} {Mz : jM} (h : f_X4_deductLine M = some (rz, Mz)) : jCt X n yX4_deductLine cX4_deductLine 4 (some .boolean) 31 [jA 109] M (some (jI rz)) Mz := by
  refine jCt_of (own := RX4) (ls := [jA 109, jN, jN, jN]) (by decide +kernel) rfl hn (Nat.le_of_ble_eq_true rfl) rfl ?_
  intro C hC hR
  unfold f_X4_deductLine at h
  refine x_aloadA_n (pc := 0) hC dX4_deductLine_0 rfl rfl k_109 (by decide) ?_
  obtain ⟨hk1, h⟩ := jck_some h
  refine x_gr (pc := 1) (ji := 1) hC fl_X4_38 rfl ft4_1 k_109 dX4_deductLine_1 ?_
  refine x_gf (pc := 4) (b := ((M 109 1) + 7)) hC fl_X4_193 ft1_5 hk1 (by decide) (off := 7) (by decide +kernel) rfl dX4_deductLine_4 ?_
  refine x_astoreA_n (ls2 := [jA 109, jA ((M 109 1) + 7), jN, jN]) (pc := 7) hC dX4_deductLine_7 rfl (by decide) rfl (ko1_5 hk1) (by decide) rfl ?_
  refine x_aloadA_n (pc := 8) hC dX4_deductLine_8 rfl rfl (ko1_5 hk1) (by decide) ?_
  obtain ⟨v3, e2, h⟩ := jbR_some h
  refine x_cV (pc := 9) hC mv_X4_197 (ok_X5_isFull hn (ko1_5 hk1) e2) rfl (Nat.le_of_ble_eq_true rfl) (ko1_5 hk1) rfl (by decide) (jRo0 C) (Nat.le_of_ble_eq_true rfl) dX4_deductLine_9 rfl ?_
  refine x_if_eq (tgt := 20) (pc := 12) hC dX4_deductLine_12 (by decide) (fun hc => ?_) (fun hc => ?_)
  · replace h := jit_pos hc h
    refine x_aloadA_n (pc := 20) hC dX4_deductLine_20 rfl rfl (ko1_5 hk1) (by decide) ?_
    refine x_gi (pc := 21) (ji := 1) hC fl_X4_200 rfl fn5_1 (ko1_5 hk1) dX4_deductLine_21 ?_
    obtain ⟨l2_4, el2_4, h⟩ := jlet_some h
    refine x_istore_n (ls2 := [jA 109, jA ((M 109 1) + 7), jI l2_4, jN]) (pc := 24) hC dX4_deductLine_24 rfl (by decide) rfl el2_4 rfl ?_
    refine x_aloadA_n (pc := 25) hC dX4_deductLine_25 rfl rfl k_109 (by decide) ?_
    obtain ⟨M6, e5, h⟩ := jbV_some h
    refine x_cV (pc := 26) hC mv_X4_95 (ok_X4_advance hn e5) rfl (Nat.le_of_ble_eq_true rfl) k_109 rfl (by decide) (jRo0 C) (Nat.le_of_ble_eq_true rfl) dX4_deductLine_26 rfl ?_
    refine x_aloadA_n (pc := 29) hC dX4_deductLine_29 rfl rfl k_109 (by decide) ?_
    refine x_iconst (pc := 30) hC dX4_deductLine_30 ?_
    obtain ⟨v9, M8, e7, h⟩ := jbW_some h
    refine x_cV (pc := 31) hC mv_X4_203 (ok_X4_sum hn e7) rfl (Nat.le_of_ble_eq_true rfl) k_109 rfl (by decide) (jRo0 C) (Nat.le_of_ble_eq_true rfl) dX4_deductLine_31 rfl ?_
    refine x_if_ne (tgt := 39) (pc := 34) hC dX4_deductLine_34 (by decide) (fun hc => ?_) (fun hc => ?_)
    · replace h := jit_neg hc h
      refine x_aloadA_n (pc := 39) hC dX4_deductLine_39 rfl rfl (ko1_5 hk1) (by decide) ?_
      refine x_gi (pc := 40) (ji := 1) hC fl_X4_200 rfl fn5_1 (ko1_5 hk1) dX4_deductLine_40 ?_
      obtain ⟨l3_10, el3_10, h⟩ := jlet_some h
      refine x_istore_n (ls2 := [jA 109, jA ((M 109 1) + 7), jI l2_4, jI l3_10]) (pc := 43) hC dX4_deductLine_43 rfl (by decide) rfl el3_10 rfl ?_
      refine x_aloadA_n (pc := 44) hC dX4_deductLine_44 rfl rfl k_109 (by decide) ?_
      refine x_ldcS (pc := 45) hC dX4_deductLine_45 sr_3 (q := 3) rfl ?_
      obtain ⟨v12, e11, h⟩ := jbR_some h
      refine x_cV (pc := 47) hC mv_X4_48 (ok_X4_among hn (by decide) e11) rfl (Nat.le_of_ble_eq_true rfl) k_109 rfl (by decide) (jRo0 C) (Nat.le_of_ble_eq_true rfl) dX4_deductLine_47 rfl ?_
      refine x_iconst (pc := 50) hC dX4_deductLine_50 ?_
      obtain ⟨k14, Hk14, h⟩ := jk_some (P := fun k14 => ∀ (M13 : jM), k14 M13 = some (rz, Mz) → jG C X n 4 0 0 67 [jA 109, jA ((M 109 1) + 7), jI l2_4, jI l3_10] [] M13) h (by
        intro M13 h
        refine x_aloadA_n (pc := 67) hC dX4_deductLine_67 rfl rfl (ko1_5 hk1) (by decide) ?_
        refine x_iload_n (pc := 68) hC dX4_deductLine_68 rfl rfl ?_
        refine x_iload_n (pc := 69) hC dX4_deductLine_69 rfl rfl ?_
        obtain ⟨M16, e15, h⟩ := jbV_some h
        refine x_cV (pc := 70) hC mv_X4_211 (ok_X5_close hn (ko1_5 hk1) e15) rfl (Nat.le_of_ble_eq_true rfl) (ko1_5 hk1) rfl (by decide) (jRo0 C) (Nat.le_of_ble_eq_true rfl) dX4_deductLine_70 rfl ?_
        refine x_iconst (pc := 73) hC dX4_deductLine_73 ?_
        exact x_zret (pc := 74) hC hR dX4_deductLine_74 (Or.inr jw1) (jr1 h) (jr2 h))
      refine x_icmp_eq (tgt := 67) (pc := 51) hC dX4_deductLine_51 (by decide) (fun hc => ?_) (fun hc => ?_)
      · replace h := jit_pos hc h
        exact Hk14 _ h
      · replace h := jit_neg hc h
        refine x_aloadA_n (pc := 54) hC dX4_deductLine_54 rfl rfl k_109 (by decide) ?_
        obtain ⟨M18, e17, h⟩ := jbV_some h
        refine x_cV (pc := 55) hC mv_X4_95 (ok_X4_advance hn e17) rfl (Nat.le_of_ble_eq_true rfl) k_109 rfl (by decide) (jRo0 C) (Nat.le_of_ble_eq_true rfl) dX4_deductLine_55 rfl ?_
        refine x_aloadA_n (pc := 58) hC dX4_deductLine_58 rfl rfl k_109 (by decide) ?_
        obtain ⟨v21, M20, e19, h⟩ := jbW_some h
        refine x_cV (pc := 59) hC mv_X4_208 (ok_X4_test hn e19) rfl (Nat.le_of_ble_eq_true rfl) k_109 rfl (by decide) (jRo0 C) (Nat.le_of_ble_eq_true rfl) dX4_deductLine_59 rfl ?_
        refine x_if_ne (tgt := 67) (pc := 62) hC dX4_deductLine_62 (by decide) (fun hc => ?_) (fun hc => ?_)
        · replace h := jit_neg hc h
          exact Hk14 _ h
        · replace h := jit_pos hc h
          refine x_iconst (pc := 65) hC dX4_deductLine_65 ?_
          exact x_zret (pc := 66) hC hR dX4_deductLine_66 (Or.inl jw0) (jr1 h) (jr2 h)
    · replace h := jit_pos hc h
      refine x_iconst (pc := 37) hC dX4_deductLine_37 ?_
      exact x_zret (pc := 38) hC hR dX4_deductLine_38 (Or.inl jw0) (jr1 h) (jr2 h)
  · replace h := jit_neg hc h
    refine x_aloadA_n (pc := 15) hC dX4_deductLine_15 rfl rfl k_109 (by decide) ?_
    obtain ⟨v24, M23, e22, h⟩ := jbW_some h
    refine x_cV (pc := 16) hC mv_X4_74 (ok_X4_refuse hn e22) rfl (Nat.le_of_ble_eq_true rfl) k_109 rfl (by decide) (jRo0 C) (Nat.le_of_ble_eq_true rfl) dX4_deductLine_16 rfl ?_
    obtain ⟨hz25, h⟩ := jck_some h
    exact x_zret (pc := 19) hC hR dX4_deductLine_19 hz25 (jr1 h) (jr2 h)

set_option maxHeartbeats 4000000 in
set_option maxRecDepth 20000 in
theorem ok_X4_faultOf {X : jX} {n : Nat} (hn : 179 ≤ n) {l1 : Int} {l2 : Int} {M : jM} {rz : Int} {Mz : jM} (hl2 : jkd l2 = 1) (h : f_X4_faultOf l1 l2 M = some (rz, Mz)) : jCt X n yX4_faultOf cX4_faultOf 6 (some .int) 32 [jA 109, jI l1, jA l2] M (some (jI rz)) Mz := by
  refine jCt_of (own := RX4) (ls := [jA 109, jI l1, jA l2, jN, jN, jN]) (by decide +kernel) rfl hn (Nat.le_of_ble_eq_true rfl) rfl ?_
  intro C hC hR
  unfold f_X4_faultOf at h
  refine x_aloadA_n (pc := 0) hC dX4_faultOf_0 rfl rfl k_109 (by decide) ?_
  refine x_iload_n (pc := 1) hC dX4_faultOf_1 rfl rfl ?_
  refine x_aloadA_n (pc := 2) hC dX4_faultOf_2 rfl rfl hl2 (by decide) ?_
  obtain ⟨M2, e1, h⟩ := jbV_some h
  refine x_cV (pc := 3) hC mv_X4_42 (ok_X4_start hn hl2 e1) rfl (Nat.le_of_ble_eq_true rfl) k_109 rfl (by decide) (jRo0 C) (Nat.le_of_ble_eq_true rfl) dX4_faultOf_3 rfl ?_
  refine x_iconst (pc := 6) hC dX4_faultOf_6 ?_
  refine x_istore_n (ls2 := [jA 109, jI l1, jA l2, jI 1, jN, jN]) (pc := 7) hC dX4_faultOf_7 rfl (by decide) rfl rfl rfl ?_
  refine x_iconst (pc := 8) hC dX4_faultOf_8 ?_
  refine x_istore (ls2 := [jA 109, jI l1, jA l2, jI 1, jI 0, jN]) (pc := 9) hC dX4_faultOf_9 (by decide) rfl rfl rfl ?_
  refine jlp3_ind (P := fun (l3_3 : Int) (l4_4 : Int) (M5 : jM) => jG C X n 6 0 0 11 [jA 109, jI l1, jA l2, jI l3_3, jI l4_4, jN] [] M5) ?_ _ _ _ _ h
  intro self6 l3_3 l4_4 M5 Hself6 h
  refine x_iload (pc := 11) hC dX4_faultOf_11 rfl ?_
  refine x_sipush (pc := 13) hC dX4_faultOf_13 rfl ?_
  obtain ⟨k7, Hk7, h⟩ := jk_some (P := fun k7 => k7 = some (rz, Mz) → jG C X n 6 0 0 187 [jA 109, jI l1, jA l2, jI l3_3, jI l4_4, jN] [] M5) h (by
    intro h
    refine x_aloadA_n (pc := 187) hC dX4_faultOf_187 rfl rfl k_109 (by decide) ?_
    refine x_gi (pc := 188) (ji := 7) hC fl_X4_27 rfl fn4_7 k_109 dX4_faultOf_188 ?_
    exact x_iret (pc := 191) hC hR dX4_faultOf_191 (jr1 h) (jr2 h))
  refine x_icmp_gt (tgt := 187) (pc := 16) hC dX4_faultOf_16 (by decide) (fun hc => ?_) (fun hc => ?_)
  · replace h := jit_pos hc h
    exact Hk7 h
  · replace h := jit_neg hc h
    refine x_iload_n (pc := 19) hC dX4_faultOf_19 rfl rfl ?_
    refine x_if_eq (tgt := 187) (pc := 20) hC dX4_faultOf_20 (by decide) (fun hc => ?_) (fun hc => ?_)
    · replace h := jit_pos hc h
      exact Hk7 h
    · replace h := jit_neg hc h
      refine x_aloadA_n (pc := 23) hC dX4_faultOf_23 rfl rfl k_109 (by decide) ?_
      refine x_gi (pc := 24) (ji := 3) hC fl_X4_15 rfl fn4_3 k_109 dX4_faultOf_24 ?_
      refine x_iconst (pc := 27) hC dX4_faultOf_27 ?_
      refine x_icmp_eq (tgt := 187) (pc := 28) hC dX4_faultOf_28 (by decide) (fun hc => ?_) (fun hc => ?_)
      · replace h := jit_pos hc h
        exact Hk7 h
      · replace h := jit_neg hc h
        refine x_aloadA_n (pc := 31) hC dX4_faultOf_31 rfl rfl k_109 (by decide) ?_
        refine x_ldcS (pc := 32) hC dX4_faultOf_32 sr_0 (q := 0) rfl ?_
        obtain ⟨v9, e8, h⟩ := jbR_some h
        refine x_cV (pc := 34) hC mv_X4_48 (ok_X4_among hn (by decide) e8) rfl (Nat.le_of_ble_eq_true rfl) k_109 rfl (by decide) (jRo0 C) (Nat.le_of_ble_eq_true rfl) dX4_faultOf_34 rfl ?_
        refine x_istore (ls2 := [jA 109, jI l1, jA l2, jI l3_3, jI l4_4, jI v9]) (pc := 37) hC dX4_faultOf_37 (by decide) rfl rfl rfl ?_
        refine x_iload (pc := 39) hC dX4_faultOf_39 rfl ?_
        obtain ⟨k12, Hk12, h⟩ := jk_some (P := fun k12 => ∀ (l3_10 : Int) (M11 : jM), k12 l3_10 M11 = some (rz, Mz) → jG C X n 6 0 0 162 [jA 109, jI l1, jA l2, jI l3_10, jI l4_4, jI v9] [] M11) h (by
          intro l3_10 M11 h
          refine x_iload_n (pc := 162) hC dX4_faultOf_162 rfl rfl ?_
          obtain ⟨k15, Hk15, h⟩ := jk_some (P := fun k15 => ∀ (s0_13 : Int) (M14 : jM), k15 s0_13 M14 = some (rz, Mz) → jG C X n 6 0 0 180 [jA 109, jI l1, jA l2, jI l3_10, jI l4_4, jI v9] [jI s0_13] M14) h (by
            intro s0_13 M14 h
            refine x_istore_n (ls2 := [jA 109, jI l1, jA l2, jI s0_13, jI l4_4, jI v9]) (pc := 180) hC dX4_faultOf_180 rfl (by decide) rfl rfl rfl ?_
            obtain ⟨l4_16, el4_16, h⟩ := jlet_some h
            refine x_iinc (ls2 := [jA 109, jI l1, jA l2, jI s0_13, jI l4_16, jI v9]) (pc := 181) hC dX4_faultOf_181 rfl (by decide) rfl el4_16 rfl ?_
            refine x_goto (tgt := 11) (pc := 184) hC dX4_faultOf_184 (by decide) ?_
            refine x_kill 5 (ls2 := [jA 109, jI l1, jA l2, jI s0_13, jI l4_16, jN]) rfl ?_
            exact Hself6 _ _ _ h)
          obtain ⟨k18, Hk18, h⟩ := jk_some (P := fun k18 => ∀ (M17 : jM), k18 M17 = some (rz, Mz) → jG C X n 6 0 0 179 [jA 109, jI l1, jA l2, jI l3_10, jI l4_4, jI v9] [] M17) h (by
            intro M17 h
            refine x_iconst (pc := 179) hC dX4_faultOf_179 ?_
            exact Hk15 _ _ h)
          refine x_if_eq (tgt := 179) (pc := 163) hC dX4_faultOf_163 (by decide) (fun hc => ?_) (fun hc => ?_)
          · replace h := jit_pos hc h
            exact Hk18 _ h
          · replace h := jit_neg hc h
            refine x_aloadA_n (pc := 166) hC dX4_faultOf_166 rfl rfl k_109 (by decide) ?_
            refine x_bipush (pc := 167) hC dX4_faultOf_167 rfl ?_
            obtain ⟨v21, M20, e19, h⟩ := jbW_some h
            refine x_cV (pc := 169) hC mv_X4_81 (ok_X4_sign hn e19) rfl (Nat.le_of_ble_eq_true rfl) k_109 rfl (by decide) (jRo0 C) (Nat.le_of_ble_eq_true rfl) dX4_faultOf_169 rfl ?_
            refine x_if_eq (tgt := 179) (pc := 172) hC dX4_faultOf_172 (by decide) (fun hc => ?_) (fun hc => ?_)
            · replace h := jit_pos hc h
              exact Hk18 _ h
            · replace h := jit_neg hc h
              refine x_iconst (pc := 175) hC dX4_faultOf_175 ?_
              refine x_goto (tgt := 180) (pc := 176) hC dX4_faultOf_176 (by decide) ?_
              exact Hk15 _ _ h)
        rcases jit_or h with ⟨hc, h⟩ | ⟨hc, h⟩
        · refine x_tableOut (tgt := 152) (pc := 41) hC dX4_faultOf_41 hc (by decide) ?_
          refine x_aloadA_n (pc := 152) hC dX4_faultOf_152 rfl rfl k_109 (by decide) ?_
          refine x_iload (pc := 153) hC dX4_faultOf_153 rfl ?_
          refine x_bipush (pc := 155) hC dX4_faultOf_155 rfl ?_
          refine x_isub (pc := 157) hC dX4_faultOf_157 ?_
          obtain ⟨v24, M23, e22, h⟩ := jbW_some h
          refine x_cV (pc := 158) hC mv_X4_77 (ok_X4_settingLine hn e22) rfl (Nat.le_of_ble_eq_true rfl) k_109 rfl (by decide) (jRo0 C) (Nat.le_of_ble_eq_true rfl) dX4_faultOf_158 rfl ?_
          refine x_istore_n (ls2 := [jA 109, jI l1, jA l2, jI v24, jI l4_4, jI v9]) (pc := 161) hC dX4_faultOf_161 rfl (by decide) rfl rfl rfl ?_
          exact Hk12 _ _ h
        · rcases jit_or h with ⟨hq, h⟩ | ⟨hr0, h⟩
          · refine x_tableIn (tgt := 144) (off := 103) (pc := 41) hC dX4_faultOf_41 (by omega) (by omega) (by rw [hq]; rfl) (by decide) ?_
            refine x_aloadA_n (pc := 144) hC dX4_faultOf_144 rfl rfl k_109 (by decide) ?_
            obtain ⟨v27, M26, e25, h⟩ := jbW_some h
            refine x_cV (pc := 145) hC mv_X4_74 (ok_X4_refuse hn e25) rfl (Nat.le_of_ble_eq_true rfl) k_109 rfl (by decide) (jRo0 C) (Nat.le_of_ble_eq_true rfl) dX4_faultOf_145 rfl ?_
            refine x_istore_n (ls2 := [jA 109, jI l1, jA l2, jI v27, jI l4_4, jI v9]) (pc := 148) hC dX4_faultOf_148 rfl (by decide) rfl rfl rfl ?_
            refine x_goto (tgt := 162) (pc := 149) hC dX4_faultOf_149 (by decide) ?_
            exact Hk12 _ _ h
          · rcases jit_or h with ⟨hq, h⟩ | ⟨hr1, h⟩
            · refine x_tableIn (tgt := 88) (off := 47) (pc := 41) hC dX4_faultOf_41 (by omega) (by omega) (by rw [hq]; rfl) (by decide) ?_
              refine x_aloadA_n (pc := 88) hC dX4_faultOf_88 rfl rfl k_109 (by decide) ?_
              obtain ⟨v30, M29, e28, h⟩ := jbW_some h
              refine x_cV (pc := 89) hC mv_X4_52 (ok_X4_elementLine hn e28) rfl (Nat.le_of_ble_eq_true rfl) k_109 rfl (by decide) (jRo0 C) (Nat.le_of_ble_eq_true rfl) dX4_faultOf_89 rfl ?_
              refine x_istore_n (ls2 := [jA 109, jI l1, jA l2, jI v30, jI l4_4, jI v9]) (pc := 92) hC dX4_faultOf_92 rfl (by decide) rfl rfl rfl ?_
              refine x_goto (tgt := 162) (pc := 93) hC dX4_faultOf_93 (by decide) ?_
              exact Hk12 _ _ h
            · rcases jit_or h with ⟨hq, h⟩ | ⟨hr2, h⟩
              · refine x_tableIn (tgt := 96) (off := 55) (pc := 41) hC dX4_faultOf_41 (by omega) (by omega) (by rw [hq]; rfl) (by decide) ?_
                refine x_aloadA_n (pc := 96) hC dX4_faultOf_96 rfl rfl k_109 (by decide) ?_
                obtain ⟨v33, M32, e31, h⟩ := jbW_some h
                refine x_cV (pc := 97) hC mv_X4_56 (ok_X4_judgesLine hn e31) rfl (Nat.le_of_ble_eq_true rfl) k_109 rfl (by decide) (jRo0 C) (Nat.le_of_ble_eq_true rfl) dX4_faultOf_97 rfl ?_
                refine x_istore_n (ls2 := [jA 109, jI l1, jA l2, jI v33, jI l4_4, jI v9]) (pc := 100) hC dX4_faultOf_100 rfl (by decide) rfl rfl rfl ?_
                refine x_goto (tgt := 162) (pc := 101) hC dX4_faultOf_101 (by decide) ?_
                exact Hk12 _ _ h
              · rcases jit_or h with ⟨hq, h⟩ | ⟨hr3, h⟩
                · refine x_tableIn (tgt := 104) (off := 63) (pc := 41) hC dX4_faultOf_41 (by omega) (by omega) (by rw [hq]; rfl) (by decide) ?_
                  refine x_aloadA_n (pc := 104) hC dX4_faultOf_104 rfl rfl k_109 (by decide) ?_
                  obtain ⟨v36, M35, e34, h⟩ := jbW_some h
                  refine x_cV (pc := 105) hC mv_X4_59 (ok_X4_deductLine hn e34) rfl (Nat.le_of_ble_eq_true rfl) k_109 rfl (by decide) (jRo0 C) (Nat.le_of_ble_eq_true rfl) dX4_faultOf_105 rfl ?_
                  refine x_istore_n (ls2 := [jA 109, jI l1, jA l2, jI v36, jI l4_4, jI v9]) (pc := 108) hC dX4_faultOf_108 rfl (by decide) rfl rfl rfl ?_
                  refine x_goto (tgt := 162) (pc := 109) hC dX4_faultOf_109 (by decide) ?_
                  exact Hk12 _ _ h
                · rcases jit_or h with ⟨hq, h⟩ | ⟨hr4, h⟩
                  · refine x_tableIn (tgt := 112) (off := 71) (pc := 41) hC dX4_faultOf_41 (by omega) (by omega) (by rw [hq]; rfl) (by decide) ?_
                    refine x_aloadA_n (pc := 112) hC dX4_faultOf_112 rfl rfl k_109 (by decide) ?_
                    obtain ⟨v39, M38, e37, h⟩ := jbW_some h
                    refine x_cV (pc := 113) hC mv_X4_62 (ok_X4_skaterLine hn e37) rfl (Nat.le_of_ble_eq_true rfl) k_109 rfl (by decide) (jRo0 C) (Nat.le_of_ble_eq_true rfl) dX4_faultOf_113 rfl ?_
                    refine x_istore_n (ls2 := [jA 109, jI l1, jA l2, jI v39, jI l4_4, jI v9]) (pc := 116) hC dX4_faultOf_116 rfl (by decide) rfl rfl rfl ?_
                    refine x_goto (tgt := 162) (pc := 117) hC dX4_faultOf_117 (by decide) ?_
                    exact Hk12 _ _ h
                  · rcases jit_or h with ⟨hq, h⟩ | ⟨hr5, h⟩
                    · refine x_tableIn (tgt := 120) (off := 79) (pc := 41) hC dX4_faultOf_41 (by omega) (by omega) (by rw [hq]; rfl) (by decide) ?_
                      refine x_aloadA_n (pc := 120) hC dX4_faultOf_120 rfl rfl k_109 (by decide) ?_
                      obtain ⟨v42, M41, e40, h⟩ := jbW_some h
                      refine x_cV (pc := 121) hC mv_X4_65 (ok_X4_doLine hn e40) rfl (Nat.le_of_ble_eq_true rfl) k_109 rfl (by decide) (jRo0 C) (Nat.le_of_ble_eq_true rfl) dX4_faultOf_121 rfl ?_
                      refine x_istore_n (ls2 := [jA 109, jI l1, jA l2, jI v42, jI l4_4, jI v9]) (pc := 124) hC dX4_faultOf_124 rfl (by decide) rfl rfl rfl ?_
                      refine x_goto (tgt := 162) (pc := 125) hC dX4_faultOf_125 (by decide) ?_
                      exact Hk12 _ _ h
                    · rcases jit_or h with ⟨hq, h⟩ | ⟨hr6, h⟩
                      · refine x_tableIn (tgt := 128) (off := 87) (pc := 41) hC dX4_faultOf_41 (by omega) (by omega) (by rw [hq]; rfl) (by decide) ?_
                        refine x_aloadA_n (pc := 128) hC dX4_faultOf_128 rfl rfl k_109 (by decide) ?_
                        obtain ⟨v45, M44, e43, h⟩ := jbW_some h
                        refine x_cV (pc := 129) hC mv_X4_68 (ok_X4_showLine hn e43) rfl (Nat.le_of_ble_eq_true rfl) k_109 rfl (by decide) (jRo0 C) (Nat.le_of_ble_eq_true rfl) dX4_faultOf_129 rfl ?_
                        refine x_istore_n (ls2 := [jA 109, jI l1, jA l2, jI v45, jI l4_4, jI v9]) (pc := 132) hC dX4_faultOf_132 rfl (by decide) rfl rfl rfl ?_
                        refine x_goto (tgt := 162) (pc := 133) hC dX4_faultOf_133 (by decide) ?_
                        exact Hk12 _ _ h
                      · have hq : jw v9 = 6 := by omega
                        refine x_tableIn (tgt := 136) (off := 95) (pc := 41) hC dX4_faultOf_41 (by omega) (by omega) (by rw [hq]; rfl) (by decide) ?_
                        refine x_aloadA_n (pc := 136) hC dX4_faultOf_136 rfl rfl k_109 (by decide) ?_
                        obtain ⟨v48, M47, e46, h⟩ := jbW_some h
                        refine x_cV (pc := 137) hC mv_X4_71 (ok_X4_lastsLine hn e46) rfl (Nat.le_of_ble_eq_true rfl) k_109 rfl (by decide) (jRo0 C) (Nat.le_of_ble_eq_true rfl) dX4_faultOf_137 rfl ?_
                        refine x_istore_n (ls2 := [jA 109, jI l1, jA l2, jI v48, jI l4_4, jI v9]) (pc := 140) hC dX4_faultOf_140 rfl (by decide) rfl rfl rfl ?_
                        refine x_goto (tgt := 162) (pc := 141) hC dX4_faultOf_141 (by decide) ?_
                        exact Hk12 _ _ h

set_option maxHeartbeats 4000000 in
set_option maxRecDepth 20000 in
theorem ok_X9_read {X : jX} {n : Nat} (hn : 179 ≤ n) {M : jM} {cz : Int} {rz : Int} {Mz : jM} (h : f_X9_read M = some (cz, rz, Mz)) : jCtT X n yX9_read cX9_read 3 (some .int) 33 1 [jA 1] M cz (some (jI rz)) Mz := by
  refine jCtT_of (own := RX9) (ls := [jA 1, jN, jN]) (by decide +kernel) rfl hn (Nat.le_of_ble_eq_true rfl) rfl ?_
  intro C hC hR
  unfold f_X9_read at h
  refine x_aloadA_n (pc := 0) hC dX9_read_0 rfl rfl k_1 (by decide) ?_
  refine x_gi (pc := 1) (ji := 1) hC fl_X9_13 rfl fn9_1 k_1 dX9_read_1 ?_
  obtain ⟨l1_1, el1_1, h⟩ := jlet_some h
  refine x_istore_n (ls2 := [jA 1, jI l1_1, jN]) (pc := 4) hC dX9_read_4 rfl (by decide) rfl el1_1 rfl ?_
  refine x_aloadA_n (pc := 5) hC dX9_read_5 rfl rfl k_1 (by decide) ?_
  refine x_iconst (pc := 6) hC dX9_read_6 ?_
  obtain ⟨M2, eM2, h⟩ := jlet_some h
  refine x_pi (pc := 7) (ji := 1) hC fl_X9_13 rfl ft9_1 k_1 dX9_read_7 eM2 ?_
  refine x_aloadA_n (pc := 10) hC dX9_read_10 rfl rfl k_1 (by decide) ?_
  refine x_aloadA_n (pc := 11) hC dX9_read_11 rfl rfl k_1 (by decide) ?_
  refine x_gf (pc := 12) (b := 109) hC fl_X9_35 ft9_5 k_1 (by decide) (off := 108) (by decide +kernel) (by decide) dX9_read_12 ?_
  refine x_iload_n (pc := 15) hC dX9_read_15 rfl rfl ?_
  refine x_aloadA_n (pc := 16) hC dX9_read_16 rfl rfl k_1 (by decide) ?_
  obtain ⟨hk3, h⟩ := jck_some h
  refine x_gr (pc := 17) (ji := 4) hC fl_X9_27 rfl ft9_4 k_1 dX9_read_17 ?_
  obtain ⟨v6, M5, e4, h⟩ := jbW_some h
  refine x_cV (pc := 20) hC mv_X9_66 (ok_X4_faultOf hn hk3 e4) rfl (Nat.le_of_ble_eq_true rfl) k_109 rfl (by decide) (jRoT hR (Nat.le_of_ble_eq_true rfl) (Nat.le_of_ble_eq_true rfl)) (Nat.le_of_ble_eq_true rfl) dX9_read_20 rfl ?_
  obtain ⟨M7, eM7, h⟩ := jlet_some h
  refine x_pi (pc := 23) (ji := 2) hC fl_X9_17 rfl ft9_2 k_1 dX9_read_23 eM7 ?_
  refine x_aloadA_n (pc := 26) hC dX9_read_26 rfl rfl k_1 (by decide) ?_
  refine x_gi (pc := 27) (ji := 2) hC fl_X9_17 rfl fn9_2 k_1 dX9_read_27 ?_
  refine x_iconst (pc := 30) hC dX9_read_30 ?_
  refine x_icmp_eq (tgt := 44) (pc := 31) hC dX9_read_31 (by decide) (fun hc => ?_) (fun hc => ?_)
  · replace h := jit_pos hc h
    refine x_aloadA_n (pc := 44) hC dX9_read_44 rfl rfl k_1 (by decide) ?_
    obtain ⟨hk8, h⟩ := jck_some h
    refine x_gr (pc := 45) (ji := 3) hC fl_X9_23 rfl ft9_3 k_1 dX9_read_45 ?_
    refine x_astoreA_n (ls2 := [jA 1, jI l1_1, jA (M7 1 3)]) (pc := 48) hC dX9_read_48 rfl (by decide) rfl hk8 (by decide) rfl ?_
    refine x_aloadA_n (pc := 49) hC dX9_read_49 rfl rfl k_1 (by decide) ?_
    refine x_aloadA_n (pc := 50) hC dX9_read_50 rfl rfl k_1 (by decide) ?_
    obtain ⟨hk9, h⟩ := jck_some h
    refine x_gr (pc := 51) (ji := 4) hC fl_X9_27 rfl ft9_4 k_1 dX9_read_51 ?_
    obtain ⟨M10, eM10, h⟩ := jlet_some h
    refine x_pr (pc := 54) (ji := 3) hC fl_X9_23 rfl ft9_3 k_1 dX9_read_54 eM10 ?_
    refine x_aloadA_n (pc := 57) hC dX9_read_57 rfl rfl k_1 (by decide) ?_
    refine x_aloadA_n (pc := 58) hC dX9_read_58 rfl rfl hk8 (by decide) ?_
    obtain ⟨M11, eM11, h⟩ := jlet_some h
    refine x_pr (pc := 59) (ji := 4) hC fl_X9_27 rfl ft9_4 k_1 dX9_read_59 eM11 ?_
    refine x_aloadA_n (pc := 62) hC dX9_read_62 rfl rfl k_1 (by decide) ?_
    refine x_gf (pc := 63) (b := 159) hC fl_X9_51 ft9_7 k_1 (by decide) (off := 158) (by decide +kernel) (by decide) dX9_read_63 ?_
    obtain ⟨M13, e12, h⟩ := jbV_some h
    refine x_cV (pc := 66) hC mv_X9_77 (ok_X0_forget hn e12) rfl (Nat.le_of_ble_eq_true rfl) k_159 rfl (by decide) (jRoT hR (Nat.le_of_ble_eq_true rfl) (Nat.le_of_ble_eq_true rfl)) (Nat.le_of_ble_eq_true rfl) dX9_read_66 rfl ?_
    refine x_aloadA_n (pc := 69) hC dX9_read_69 rfl rfl k_1 (by decide) ?_
    obtain ⟨hk14, h⟩ := jck_some h
    refine x_gr (pc := 70) (ji := 3) hC fl_X9_23 rfl ft9_3 k_1 dX9_read_70 ?_
    refine x_gf (pc := 73) (b := ((M13 1 3) + 13)) hC fl_X9_80 ft1_6 hk14 (by decide) (off := 13) (by decide +kernel) rfl dX9_read_73 ?_
    refine x_gi (pc := 76) (ji := 3) hC fl_X9_84 rfl fn2_3 (ko1_6 hk14) dX9_read_76 ?_
    exact x_iretT (pc := 79) hC hR dX9_read_79 (Nat.le_of_ble_eq_true rfl) (Nat.le_of_ble_eq_true rfl) (jr1 h) (jt2 h) (jt3 h)
  · replace h := jit_neg hc h
    exact x_throw (pc := 34) hC hR ex_1 sr_6 (Nat.le_of_ble_eq_true rfl) (Nat.le_of_ble_eq_true rfl) (Nat.le_of_ble_eq_true rfl) (Nat.le_of_ble_eq_true rfl) dX9_read_34 dX9_read_37 dX9_read_38 dX9_read_40 dX9_read_43 (jr1 h) (jt3 h)

set_option maxHeartbeats 4000000 in
set_option maxRecDepth 20000 in
theorem ok_X9_wantSkater {X : jX} {n : Nat} (hn : 179 ≤ n) {l1 : Int} {M : jM} {cz : Int} (h : f_X9_wantSkater l1 M = some cz) : jCtT X n yX9_wantSkater cX9_wantSkater 2 (none) 6 1 [jA 1, jI l1] M cz (none) M := by
  refine jCtT_of (own := RX9) (ls := [jA 1, jI l1]) (by decide +kernel) rfl hn (Nat.le_of_ble_eq_true rfl) rfl ?_
  intro C hC hR
  unfold f_X9_wantSkater at h
  refine x_iload_n (pc := 0) hC dX9_wantSkater_0 rfl rfl ?_
  obtain ⟨k1, Hk1, h⟩ := jk_some (P := fun k1 => k1 = some cz → jG C X n 2 0 0 18 [jA 1, jI l1] [] M) h (by
    intro h
    exact x_throwW (pc := 18) hC hR ex_2 sr_7 (Nat.le_of_ble_eq_true rfl) (Nat.le_of_ble_eq_true rfl) (Nat.le_of_ble_eq_true rfl) (Nat.le_of_ble_eq_true rfl) dX9_wantSkater_18 dX9_wantSkater_21 dX9_wantSkater_22 dX9_wantSkater_25 dX9_wantSkater_28 (jrR h) rfl)
  refine x_if_lt (tgt := 18) (pc := 1) hC dX9_wantSkater_1 (by decide) (fun hc => ?_) (fun hc => ?_)
  · replace h := jit_pos hc h
    exact Hk1 h
  · replace h := jit_neg hc h
    refine x_iload_n (pc := 4) hC dX9_wantSkater_4 rfl rfl ?_
    refine x_aloadA_n (pc := 5) hC dX9_wantSkater_5 rfl rfl k_1 (by decide) ?_
    obtain ⟨hk2, h⟩ := jck_some h
    refine x_gr (pc := 6) (ji := 3) hC fl_X9_23 rfl ft9_3 k_1 dX9_wantSkater_6 ?_
    refine x_gf (pc := 9) (b := ((M 1 3) + 13)) hC fl_X9_80 ft1_6 hk2 (by decide) (off := 13) (by decide +kernel) rfl dX9_wantSkater_9 ?_
    refine x_gi (pc := 12) (ji := 3) hC fl_X9_84 rfl fn2_3 (ko1_6 hk2) dX9_wantSkater_12 ?_
    refine x_icmp_lt (tgt := 29) (pc := 15) hC dX9_wantSkater_15 (by decide) (fun hc => ?_) (fun hc => ?_)
    · replace h := jit_pos hc h
      exact x_vretT (pc := 29) hC hR dX9_wantSkater_29 (Nat.le_of_ble_eq_true rfl) (Nat.le_of_ble_eq_true rfl) (jrR h) rfl
    · replace h := jit_neg hc h
      exact Hk1 h

set_option maxHeartbeats 4000000 in
set_option maxRecDepth 20000 in
theorem ok_X9_wantElement {X : jX} {n : Nat} (hn : 179 ≤ n) {l1 : Int} {M : jM} {cz : Int} (h : f_X9_wantElement l1 M = some cz) : jCtT X n yX9_wantElement cX9_wantElement 2 (none) 6 1 [jA 1, jI l1] M cz (none) M := by
  refine jCtT_of (own := RX9) (ls := [jA 1, jI l1]) (by decide +kernel) rfl hn (Nat.le_of_ble_eq_true rfl) rfl ?_
  intro C hC hR
  unfold f_X9_wantElement at h
  refine x_iload_n (pc := 0) hC dX9_wantElement_0 rfl rfl ?_
  obtain ⟨k1, Hk1, h⟩ := jk_some (P := fun k1 => k1 = some cz → jG C X n 2 0 0 18 [jA 1, jI l1] [] M) h (by
    intro h
    exact x_throwW (pc := 18) hC hR ex_2 sr_8 (Nat.le_of_ble_eq_true rfl) (Nat.le_of_ble_eq_true rfl) (Nat.le_of_ble_eq_true rfl) (Nat.le_of_ble_eq_true rfl) dX9_wantElement_18 dX9_wantElement_21 dX9_wantElement_22 dX9_wantElement_25 dX9_wantElement_28 (jrR h) rfl)
  refine x_if_lt (tgt := 18) (pc := 1) hC dX9_wantElement_1 (by decide) (fun hc => ?_) (fun hc => ?_)
  · replace h := jit_pos hc h
    exact Hk1 h
  · replace h := jit_neg hc h
    refine x_iload_n (pc := 4) hC dX9_wantElement_4 rfl rfl ?_
    refine x_aloadA_n (pc := 5) hC dX9_wantElement_5 rfl rfl k_1 (by decide) ?_
    obtain ⟨hk2, h⟩ := jck_some h
    refine x_gr (pc := 6) (ji := 3) hC fl_X9_23 rfl ft9_3 k_1 dX9_wantElement_6 ?_
    refine x_gf (pc := 9) (b := ((M 1 3) + 2)) hC fl_X9_99 ft1_2 hk2 (by decide) (off := 2) (by decide +kernel) rfl dX9_wantElement_9 ?_
    refine x_gi (pc := 12) (ji := 3) hC fl_X9_84 rfl fn2_3 (ko1_2 hk2) dX9_wantElement_12 ?_
    refine x_icmp_lt (tgt := 29) (pc := 15) hC dX9_wantElement_15 (by decide) (fun hc => ?_) (fun hc => ?_)
    · replace h := jit_pos hc h
      exact x_vretT (pc := 29) hC hR dX9_wantElement_29 (Nat.le_of_ble_eq_true rfl) (Nat.le_of_ble_eq_true rfl) (jrR h) rfl
    · replace h := jit_neg hc h
      exact Hk1 h

set_option maxHeartbeats 4000000 in
set_option maxRecDepth 20000 in
theorem ok_X9_name {X : jX} {n : Nat} (hn : 179 ≤ n) {l1 : Int} {l2 : Int} {l3 : Int} {M : jM} {cz : Int} {rz : Int} (h : f_X9_name l1 l2 l3 M = some (cz, rz)) : jCtT X n yX9_name cX9_name 4 (some .int) 7 1 [jA 1, jI l1, jI l2, jI l3] M cz (some (jI rz)) M := by
  refine jCtT_of (own := RX9) (ls := [jA 1, jI l1, jI l2, jI l3]) (by decide +kernel) rfl hn (Nat.le_of_ble_eq_true rfl) rfl ?_
  intro C hC hR
  unfold f_X9_name at h
  refine x_iload_n (pc := 0) hC dX9_name_0 rfl rfl ?_
  refine x_if_eq (tgt := 22) (pc := 1) hC dX9_name_1 (by decide) (fun hc => ?_) (fun hc => ?_)
  · replace h := jit_pos hc h
    refine x_aloadA_n (pc := 22) hC dX9_name_22 rfl rfl k_1 (by decide) ?_
    refine x_iload_n (pc := 23) hC dX9_name_23 rfl rfl ?_
    obtain ⟨c1, e2, h⟩ := jbR_some h
    refine x_cVT (pc := 24) hC hR mv_X9_96 (jTB_mem wm_1076 rfl) (ok_X9_wantElement hn e2) rfl (Nat.le_of_ble_eq_true rfl) k_1 rfl (by decide) (Nat.le_of_ble_eq_true rfl) (Nat.le_of_ble_eq_true rfl) (Nat.le_of_ble_eq_true rfl) dX9_name_24 rfl (fun hc => have h := jit_neg hc h; ⟨(jr1 h), rfl⟩) (kc2 := 1) (ks2 := 6) rfl rfl (fun hc => ?_)
    replace h := jit_pos hc h
    refine x_aloadA_n (pc := 27) hC dX9_name_27 rfl rfl k_1 (by decide) ?_
    obtain ⟨hk3, h⟩ := jck_some h
    refine x_gr (pc := 28) (ji := 3) hC fl_X9_23 rfl ft9_3 k_1 dX9_name_28 ?_
    refine x_gf (pc := 31) (b := ((M 1 3) + 2)) hC fl_X9_99 ft1_2 hk3 (by decide) (off := 2) (by decide +kernel) rfl dX9_name_31 ?_
    refine x_iload_n (pc := 34) hC dX9_name_34 rfl rfl ?_
    refine x_iload_n (pc := 35) hC dX9_name_35 rfl rfl ?_
    obtain ⟨v5, e4, h⟩ := jbR_some h
    refine x_cV (pc := 36) hC mv_X9_92 (ok_X2_letter hn (ko1_2 hk3) e4) rfl (Nat.le_of_ble_eq_true rfl) (ko1_2 hk3) rfl (by decide) (jRoT hR (Nat.le_of_ble_eq_true rfl) (Nat.le_of_ble_eq_true rfl)) (Nat.le_of_ble_eq_true rfl) dX9_name_36 rfl ?_
    exact x_iretT (pc := 39) hC hR dX9_name_39 (Nat.le_of_ble_eq_true rfl) (Nat.le_of_ble_eq_true rfl) (jr1 h) (jr2 h) rfl
  · replace h := jit_neg hc h
    refine x_aloadA_n (pc := 4) hC dX9_name_4 rfl rfl k_1 (by decide) ?_
    refine x_iload_n (pc := 5) hC dX9_name_5 rfl rfl ?_
    obtain ⟨c6, e7, h⟩ := jbR_some h
    refine x_cVT (pc := 6) hC hR mv_X9_89 (jTB_mem wm_1052 rfl) (ok_X9_wantSkater hn e7) rfl (Nat.le_of_ble_eq_true rfl) k_1 rfl (by decide) (Nat.le_of_ble_eq_true rfl) (Nat.le_of_ble_eq_true rfl) (Nat.le_of_ble_eq_true rfl) dX9_name_6 rfl (fun hc => have h := jit_neg hc h; ⟨(jr1 h), rfl⟩) (kc2 := 1) (ks2 := 6) rfl rfl (fun hc => ?_)
    replace h := jit_pos hc h
    refine x_aloadA_n (pc := 9) hC dX9_name_9 rfl rfl k_1 (by decide) ?_
    obtain ⟨hk8, h⟩ := jck_some h
    refine x_gr (pc := 10) (ji := 3) hC fl_X9_23 rfl ft9_3 k_1 dX9_name_10 ?_
    refine x_gf (pc := 13) (b := ((M 1 3) + 13)) hC fl_X9_80 ft1_6 hk8 (by decide) (off := 13) (by decide +kernel) rfl dX9_name_13 ?_
    refine x_iload_n (pc := 16) hC dX9_name_16 rfl rfl ?_
    refine x_iload_n (pc := 17) hC dX9_name_17 rfl rfl ?_
    obtain ⟨v10, e9, h⟩ := jbR_some h
    refine x_cV (pc := 18) hC mv_X9_92 (ok_X2_letter hn (ko1_6 hk8) e9) rfl (Nat.le_of_ble_eq_true rfl) (ko1_6 hk8) rfl (by decide) (jRoT hR (Nat.le_of_ble_eq_true rfl) (Nat.le_of_ble_eq_true rfl)) (Nat.le_of_ble_eq_true rfl) dX9_name_18 rfl ?_
    exact x_iretT (pc := 21) hC hR dX9_name_21 (Nat.le_of_ble_eq_true rfl) (Nat.le_of_ble_eq_true rfl) (jr1 h) (jr2 h) rfl

set_option maxHeartbeats 4000000 in
set_option maxRecDepth 20000 in
theorem ok_X9_element {X : jX} {n : Nat} (hn : 179 ≤ n) {l1 : Int} {l2 : Int} {M : jM} {cz : Int} {rz : Int} (h : f_X9_element l1 l2 M = some (cz, rz)) : jCtT X n yX9_element cX9_element 3 (some .int) 7 2 [jA 1, jI l1, jI l2] M cz (some (jI rz)) M := by
  refine jCtT_of (own := RX9) (ls := [jA 1, jI l1, jI l2]) (by decide +kernel) rfl hn (Nat.le_of_ble_eq_true rfl) rfl ?_
  intro C hC hR
  unfold f_X9_element at h
  refine x_aloadA_n (pc := 0) hC dX9_element_0 rfl rfl k_1 (by decide) ?_
  refine x_iload_n (pc := 1) hC dX9_element_1 rfl rfl ?_
  obtain ⟨c1, e2, h⟩ := jbR_some h
  refine x_cVT (pc := 2) hC hR mv_X9_96 (jTB_mem wm_1076 rfl) (ok_X9_wantElement hn e2) rfl (Nat.le_of_ble_eq_true rfl) k_1 rfl (by decide) (Nat.le_of_ble_eq_true rfl) (Nat.le_of_ble_eq_true rfl) (Nat.le_of_ble_eq_true rfl) dX9_element_2 rfl (fun hc => have h := jit_neg hc h; ⟨(jr1 h), rfl⟩) (kc2 := 1) (ks2 := 6) rfl rfl (fun hc => ?_)
  replace h := jit_pos hc h
  refine x_iload_n (pc := 5) hC dX9_element_5 rfl rfl ?_
  rcases jit_or h with ⟨hc, h⟩ | ⟨hc, h⟩
  · refine x_lookHit (tgt := 32) (v := 0) (off := 26) (pc := 6) hC dX9_element_6 (by decide) (by rw [hc]; rfl) (by decide) ?_
    refine x_aloadA_n (pc := 32) hC dX9_element_32 rfl rfl k_1 (by decide) ?_
    obtain ⟨hk3, h⟩ := jck_some h
    refine x_gr (pc := 33) (ji := 3) hC fl_X9_23 rfl ft9_3 k_1 dX9_element_33 ?_
    refine x_gf (pc := 36) (b := ((M 1 3) + 5)) hC fl_X9_102 ft1_3 hk3 (by decide) (off := 5) (by decide +kernel) rfl dX9_element_36 ?_
    refine x_iload_n (pc := 39) hC dX9_element_39 rfl rfl ?_
    obtain ⟨hb4, h⟩ := jck_some h
    refine x_iald (pc := 40) hC (ko1_3 hk3) (by rw [lo1_3 hk3]; exact hb4) dX9_element_40 ?_
    exact x_iretT (pc := 41) hC hR dX9_element_41 (Nat.le_of_ble_eq_true rfl) (Nat.le_of_ble_eq_true rfl) (jr1 h) (jr2 h) rfl
  · rcases jit_or h with ⟨hc2, h⟩ | ⟨hc2, h⟩
    · refine x_lookHit (tgt := 42) (v := 1) (off := 36) (pc := 6) hC dX9_element_6 (by decide) (by rw [hc2]; rfl) (by decide) ?_
      refine x_aloadA_n (pc := 42) hC dX9_element_42 rfl rfl k_1 (by decide) ?_
      obtain ⟨hk5, h⟩ := jck_some h
      refine x_gr (pc := 43) (ji := 3) hC fl_X9_23 rfl ft9_3 k_1 dX9_element_43 ?_
      refine x_gf (pc := 46) (b := ((M 1 3) + 6)) hC fl_X9_105 ft1_4 hk5 (by decide) (off := 6) (by decide +kernel) rfl dX9_element_46 ?_
      refine x_iload_n (pc := 49) hC dX9_element_49 rfl rfl ?_
      obtain ⟨hb6, h⟩ := jck_some h
      refine x_iald (pc := 50) hC (ko1_4 hk5) (by rw [lo1_4 hk5]; exact hb6) dX9_element_50 ?_
      exact x_iretT (pc := 51) hC hR dX9_element_51 (Nat.le_of_ble_eq_true rfl) (Nat.le_of_ble_eq_true rfl) (jr1 h) (jr2 h) rfl
    · refine x_lookMiss (tgt := 52) (pc := 6) hC dX9_element_6 (by decide) (jlk2 hc hc2) (by decide) ?_
      exact x_throw3 (pc := 52) hC hR ex_3 sr_9 (Nat.le_of_ble_eq_true rfl) (Nat.le_of_ble_eq_true rfl) (Nat.le_of_ble_eq_true rfl) (Nat.le_of_ble_eq_true rfl) dX9_element_52 dX9_element_55 dX9_element_56 dX9_element_58 dX9_element_61 (jr1 h) rfl

set_option maxHeartbeats 4000000 in
set_option maxRecDepth 20000 in
theorem ok_X9_wantAttempt {X : jX} {n : Nat} (hn : 179 ≤ n) {l1 : Int} {l2 : Int} {M : jM} {cz : Int} (h : f_X9_wantAttempt l1 l2 M = some cz) : jCtT X n yX9_wantAttempt cX9_wantAttempt 3 (none) 7 2 [jA 1, jI l1, jI l2] M cz (none) M := by
  refine jCtT_of (own := RX9) (ls := [jA 1, jI l1, jI l2]) (by decide +kernel) rfl hn (Nat.le_of_ble_eq_true rfl) rfl ?_
  intro C hC hR
  unfold f_X9_wantAttempt at h
  refine x_aloadA_n (pc := 0) hC dX9_wantAttempt_0 rfl rfl k_1 (by decide) ?_
  refine x_iload_n (pc := 1) hC dX9_wantAttempt_1 rfl rfl ?_
  obtain ⟨c1, e2, h⟩ := jbR_some h
  refine x_cVT (pc := 2) hC hR mv_X9_89 (jTB_mem wm_1052 rfl) (ok_X9_wantSkater hn e2) rfl (Nat.le_of_ble_eq_true rfl) k_1 rfl (by decide) (Nat.le_of_ble_eq_true rfl) (Nat.le_of_ble_eq_true rfl) (Nat.le_of_ble_eq_true rfl) dX9_wantAttempt_2 rfl (fun hc => have h := jit_neg hc h; ⟨(jrR h), rfl⟩) (kc2 := 1) (ks2 := 6) rfl rfl (fun hc => ?_)
  replace h := jit_pos hc h
  refine x_aloadA_n (pc := 5) hC dX9_wantAttempt_5 rfl rfl k_1 (by decide) ?_
  obtain ⟨hk3, h⟩ := jck_some h
  refine x_gr (pc := 6) (ji := 3) hC fl_X9_23 rfl ft9_3 k_1 dX9_wantAttempt_6 ?_
  refine x_gf (pc := 9) (b := ((M 1 3) + 16)) hC fl_X9_117 ft1_7 hk3 (by decide) (off := 16) (by decide +kernel) rfl dX9_wantAttempt_9 ?_
  refine x_iload_n (pc := 12) hC dX9_wantAttempt_12 rfl rfl ?_
  obtain ⟨hb4, h⟩ := jck_some h
  refine x_aald14 (pc := 13) hC (ko1_7 hk3) hb4 rfl dX9_wantAttempt_13 ?_
  refine x_iload_n (pc := 14) hC dX9_wantAttempt_14 rfl rfl ?_
  obtain ⟨v6, e5, h⟩ := jbR_some h
  refine x_cV (pc := 15) hC mv_X9_361 (ok_X6_has hn (jsk (ko1_7 hk3) hb4.1 hb4.2) e5) rfl (Nat.le_of_ble_eq_true rfl) (jsk (ko1_7 hk3) hb4.1 hb4.2) rfl (by decide) (jRoT hR (Nat.le_of_ble_eq_true rfl) (Nat.le_of_ble_eq_true rfl)) (Nat.le_of_ble_eq_true rfl) dX9_wantAttempt_15 rfl ?_
  refine x_if_ne (tgt := 32) (pc := 18) hC dX9_wantAttempt_18 (by decide) (fun hc => ?_) (fun hc => ?_)
  · replace h := jit_neg hc h
    exact x_vretT (pc := 32) hC hR dX9_wantAttempt_32 (Nat.le_of_ble_eq_true rfl) (Nat.le_of_ble_eq_true rfl) (jrR h) rfl
  · replace h := jit_pos hc h
    exact x_throwW (pc := 21) hC hR ex_2 sr_10 (Nat.le_of_ble_eq_true rfl) (Nat.le_of_ble_eq_true rfl) (Nat.le_of_ble_eq_true rfl) (Nat.le_of_ble_eq_true rfl) dX9_wantAttempt_21 dX9_wantAttempt_24 dX9_wantAttempt_25 dX9_wantAttempt_28 dX9_wantAttempt_31 (jrR h) rfl

set_option maxHeartbeats 4000000 in
set_option maxRecDepth 20000 in
theorem ok_X9_attempt {X : jX} {n : Nat} (hn : 179 ≤ n) {l1 : Int} {l2 : Int} {l3 : Int} {M : jM} {cz : Int} {rz : Int} {Mz : jM} (h : f_X9_attempt l1 l2 l3 M = some (cz, rz, Mz)) : jCtT X n yX9_attempt cX9_attempt 6 (some .int) 8 3 [jA 1, jI l1, jI l2, jI l3] M cz (some (jI rz)) Mz := by
  refine jCtT_of (own := RX9) (ls := [jA 1, jI l1, jI l2, jI l3, jN, jN]) (by decide +kernel) rfl hn (Nat.le_of_ble_eq_true rfl) rfl ?_
  intro C hC hR
  unfold f_X9_attempt at h
  refine x_aloadA_n (pc := 0) hC dX9_attempt_0 rfl rfl k_1 (by decide) ?_
  refine x_iload_n (pc := 1) hC dX9_attempt_1 rfl rfl ?_
  refine x_iload_n (pc := 2) hC dX9_attempt_2 rfl rfl ?_
  obtain ⟨c1, e2, h⟩ := jbR_some h
  refine x_cVT (pc := 3) hC hR mv_X9_113 (jTB_mem wm_1112 rfl) (ok_X9_wantAttempt hn e2) rfl (Nat.le_of_ble_eq_true rfl) k_1 rfl (by decide) (Nat.le_of_ble_eq_true rfl) (Nat.le_of_ble_eq_true rfl) (Nat.le_of_ble_eq_true rfl) dX9_attempt_3 rfl (fun hc => have h := jit_neg hc h; ⟨(jr1 h), (jt3 h)⟩) (kc2 := 2) (ks2 := 12) rfl rfl (fun hc => ?_)
  replace h := jit_pos hc h
  refine x_aloadA_n (pc := 6) hC dX9_attempt_6 rfl rfl k_1 (by decide) ?_
  obtain ⟨hk3, h⟩ := jck_some h
  refine x_gr (pc := 7) (ji := 3) hC fl_X9_23 rfl ft9_3 k_1 dX9_attempt_7 ?_
  refine x_gf (pc := 10) (b := ((M 1 3) + 16)) hC fl_X9_117 ft1_7 hk3 (by decide) (off := 16) (by decide +kernel) rfl dX9_attempt_10 ?_
  refine x_iload_n (pc := 13) hC dX9_attempt_13 rfl rfl ?_
  obtain ⟨hb4, h⟩ := jck_some h
  refine x_aald14 (pc := 14) hC (ko1_7 hk3) hb4 rfl dX9_attempt_14 ?_
  refine x_astoreA (ls2 := [jA 1, jI l1, jI l2, jI l3, jA (((M 1 3) + 16) + 1 + 6 * jw l1), jN]) (pc := 15) hC dX9_attempt_15 (by decide) rfl (jsk (ko1_7 hk3) hb4.1 hb4.2) (by decide) rfl ?_
  refine x_aloadA_n (pc := 17) hC dX9_attempt_17 rfl rfl k_1 (by decide) ?_
  refine x_iload_n (pc := 18) hC dX9_attempt_18 rfl rfl ?_
  obtain ⟨v7, M6, e5, h⟩ := jbW_some h
  refine x_cV (pc := 19) hC mv_X9_121 (ok_X9_tallied hn e5) rfl (Nat.le_of_ble_eq_true rfl) k_1 rfl (by decide) (jRoT hR (Nat.le_of_ble_eq_true rfl) (Nat.le_of_ble_eq_true rfl)) (Nat.le_of_ble_eq_true rfl) dX9_attempt_19 rfl ?_
  obtain ⟨hk8, h⟩ := jck_some h
  refine x_astoreA (ls2 := [jA 1, jI l1, jI l2, jI l3, jA (((M 1 3) + 16) + 1 + 6 * jw l1), jA v7]) (pc := 22) hC dX9_attempt_22 (by decide) rfl hk8 (by decide) rfl ?_
  refine x_iload_n (pc := 24) hC dX9_attempt_24 rfl rfl ?_
  rcases jit_or h with ⟨hc, h⟩ | ⟨hc, h⟩
  · refine x_tableOut (tgt := 184) (pc := 25) hC dX9_attempt_25 hc (by decide) ?_
    exact x_throw3 (pc := 184) hC hR ex_3 sr_11 (Nat.le_of_ble_eq_true rfl) (Nat.le_of_ble_eq_true rfl) (Nat.le_of_ble_eq_true rfl) (Nat.le_of_ble_eq_true rfl) dX9_attempt_184 dX9_attempt_187 dX9_attempt_188 dX9_attempt_190 dX9_attempt_193 (jr1 h) (jt3 h)
  · rcases jit_or h with ⟨hq, h⟩ | ⟨hr0, h⟩
    · refine x_tableIn (tgt := 84) (off := 59) (pc := 25) hC dX9_attempt_25 (by omega) (by omega) (by rw [hq]; rfl) (by decide) ?_
      refine x_aloadA (pc := 84) hC dX9_attempt_84 rfl (jsk (ko1_7 hk3) hb4.1 hb4.2) (by decide) ?_
      refine x_gf (pc := 86) (b := ((((M 1 3) + 16) + 1 + 6 * jw l1) + 1)) hC fl_X9_125 ft6_3 (jsk (ko1_7 hk3) hb4.1 hb4.2) (by decide) (off := 1) (by decide +kernel) rfl dX9_attempt_86 ?_
      refine x_iload_n (pc := 89) hC dX9_attempt_89 rfl rfl ?_
      obtain ⟨hb9, h⟩ := jck_some h
      refine x_iald (pc := 90) hC (ko6_3 (jsk (ko1_7 hk3) hb4.1 hb4.2)) (by rw [lo6_3 (jsk (ko1_7 hk3) hb4.1 hb4.2)]; exact hb9) dX9_attempt_90 ?_
      exact x_iretT (pc := 91) hC hR dX9_attempt_91 (Nat.le_of_ble_eq_true rfl) (Nat.le_of_ble_eq_true rfl) (jr1 h) (jt2 h) (jt3 h)
    · rcases jit_or h with ⟨hq, h⟩ | ⟨hr1, h⟩
      · refine x_tableIn (tgt := 92) (off := 67) (pc := 25) hC dX9_attempt_25 (by omega) (by omega) (by rw [hq]; rfl) (by decide) ?_
        refine x_aloadA (pc := 92) hC dX9_attempt_92 rfl (jsk (ko1_7 hk3) hb4.1 hb4.2) (by decide) ?_
        refine x_gf (pc := 94) (b := ((((M 1 3) + 16) + 1 + 6 * jw l1) + 2)) hC fl_X9_130 ft6_4 (jsk (ko1_7 hk3) hb4.1 hb4.2) (by decide) (off := 2) (by decide +kernel) rfl dX9_attempt_94 ?_
        refine x_iload_n (pc := 97) hC dX9_attempt_97 rfl rfl ?_
        obtain ⟨hb10, h⟩ := jck_some h
        refine x_iald (pc := 98) hC (ko6_4 (jsk (ko1_7 hk3) hb4.1 hb4.2)) (by rw [lo6_4 (jsk (ko1_7 hk3) hb4.1 hb4.2)]; exact hb10) dX9_attempt_98 ?_
        exact x_iretT (pc := 99) hC hR dX9_attempt_99 (Nat.le_of_ble_eq_true rfl) (Nat.le_of_ble_eq_true rfl) (jr1 h) (jt2 h) (jt3 h)
      · rcases jit_or h with ⟨hq, h⟩ | ⟨hr2, h⟩
        · refine x_tableIn (tgt := 100) (off := 75) (pc := 25) hC dX9_attempt_25 (by omega) (by omega) (by rw [hq]; rfl) (by decide) ?_
          refine x_aloadA (pc := 100) hC dX9_attempt_100 rfl (jsk (ko1_7 hk3) hb4.1 hb4.2) (by decide) ?_
          refine x_iload_n (pc := 102) hC dX9_attempt_102 rfl rfl ?_
          refine x_iconst (pc := 103) hC dX9_attempt_103 ?_
          obtain ⟨v12, e11, h⟩ := jbR_some h
          refine x_cV (pc := 104) hC mv_X9_133 (ok_X6_elementAt hn (jsk (ko1_7 hk3) hb4.1 hb4.2) e11) rfl (Nat.le_of_ble_eq_true rfl) (jsk (ko1_7 hk3) hb4.1 hb4.2) rfl (by decide) (jRoT hR (Nat.le_of_ble_eq_true rfl) (Nat.le_of_ble_eq_true rfl)) (Nat.le_of_ble_eq_true rfl) dX9_attempt_104 rfl ?_
          exact x_iretT (pc := 107) hC hR dX9_attempt_107 (Nat.le_of_ble_eq_true rfl) (Nat.le_of_ble_eq_true rfl) (jr1 h) (jt2 h) (jt3 h)
        · rcases jit_or h with ⟨hq, h⟩ | ⟨hr3, h⟩
          · refine x_tableIn (tgt := 108) (off := 83) (pc := 25) hC dX9_attempt_25 (by omega) (by omega) (by rw [hq]; rfl) (by decide) ?_
            refine x_aloadA (pc := 108) hC dX9_attempt_108 rfl (jsk (ko1_7 hk3) hb4.1 hb4.2) (by decide) ?_
            refine x_iload_n (pc := 110) hC dX9_attempt_110 rfl rfl ?_
            refine x_iconst (pc := 111) hC dX9_attempt_111 ?_
            obtain ⟨v14, e13, h⟩ := jbR_some h
            refine x_cV (pc := 112) hC mv_X9_133 (ok_X6_elementAt hn (jsk (ko1_7 hk3) hb4.1 hb4.2) e13) rfl (Nat.le_of_ble_eq_true rfl) (jsk (ko1_7 hk3) hb4.1 hb4.2) rfl (by decide) (jRoT hR (Nat.le_of_ble_eq_true rfl) (Nat.le_of_ble_eq_true rfl)) (Nat.le_of_ble_eq_true rfl) dX9_attempt_112 rfl ?_
            exact x_iretT (pc := 115) hC hR dX9_attempt_115 (Nat.le_of_ble_eq_true rfl) (Nat.le_of_ble_eq_true rfl) (jr1 h) (jt2 h) (jt3 h)
          · rcases jit_or h with ⟨hq, h⟩ | ⟨hr4, h⟩
            · refine x_tableIn (tgt := 116) (off := 91) (pc := 25) hC dX9_attempt_25 (by omega) (by omega) (by rw [hq]; rfl) (by decide) ?_
              refine x_aloadA (pc := 116) hC dX9_attempt_116 rfl (jsk (ko1_7 hk3) hb4.1 hb4.2) (by decide) ?_
              refine x_iload_n (pc := 118) hC dX9_attempt_118 rfl rfl ?_
              refine x_iconst (pc := 119) hC dX9_attempt_119 ?_
              obtain ⟨v16, e15, h⟩ := jbR_some h
              refine x_cV (pc := 120) hC mv_X9_133 (ok_X6_elementAt hn (jsk (ko1_7 hk3) hb4.1 hb4.2) e15) rfl (Nat.le_of_ble_eq_true rfl) (jsk (ko1_7 hk3) hb4.1 hb4.2) rfl (by decide) (jRoT hR (Nat.le_of_ble_eq_true rfl) (Nat.le_of_ble_eq_true rfl)) (Nat.le_of_ble_eq_true rfl) dX9_attempt_120 rfl ?_
              exact x_iretT (pc := 123) hC hR dX9_attempt_123 (Nat.le_of_ble_eq_true rfl) (Nat.le_of_ble_eq_true rfl) (jr1 h) (jt2 h) (jt3 h)
            · rcases jit_or h with ⟨hq, h⟩ | ⟨hr5, h⟩
              · refine x_tableIn (tgt := 124) (off := 99) (pc := 25) hC dX9_attempt_25 (by omega) (by omega) (by rw [hq]; rfl) (by decide) ?_
                refine x_aloadA (pc := 124) hC dX9_attempt_124 rfl (jsk (ko1_7 hk3) hb4.1 hb4.2) (by decide) ?_
                refine x_gf (pc := 126) (b := ((((M 1 3) + 16) + 1 + 6 * jw l1) + 4)) hC fl_X9_136 ft6_6 (jsk (ko1_7 hk3) hb4.1 hb4.2) (by decide) (off := 4) (by decide +kernel) rfl dX9_attempt_126 ?_
                refine x_iload_n (pc := 129) hC dX9_attempt_129 rfl rfl ?_
                obtain ⟨hb17, h⟩ := jck_some h
                refine x_iald (pc := 130) hC (ko6_6 (jsk (ko1_7 hk3) hb4.1 hb4.2)) (by rw [lo6_6 (jsk (ko1_7 hk3) hb4.1 hb4.2)]; exact hb17) dX9_attempt_130 ?_
                exact x_iretT (pc := 131) hC hR dX9_attempt_131 (Nat.le_of_ble_eq_true rfl) (Nat.le_of_ble_eq_true rfl) (jr1 h) (jt2 h) (jt3 h)
              · rcases jit_or h with ⟨hq, h⟩ | ⟨hr6, h⟩
                · refine x_tableIn (tgt := 132) (off := 107) (pc := 25) hC dX9_attempt_25 (by omega) (by omega) (by rw [hq]; rfl) (by decide) ?_
                  refine x_aloadA (pc := 132) hC dX9_attempt_132 rfl hk8 (by decide) ?_
                  refine x_iload_n (pc := 134) hC dX9_attempt_134 rfl rfl ?_
                  obtain ⟨v19, e18, h⟩ := jbR_some h
                  refine x_cV (pc := 135) hC mv_X9_139 (ok_X8_isLate hn hk8 e18) rfl (Nat.le_of_ble_eq_true rfl) hk8 rfl (by decide) (jRoT hR (Nat.le_of_ble_eq_true rfl) (Nat.le_of_ble_eq_true rfl)) (Nat.le_of_ble_eq_true rfl) dX9_attempt_135 rfl ?_
                  refine x_if_eq (tgt := 145) (pc := 138) hC dX9_attempt_138 (by decide) (fun hc => ?_) (fun hc => ?_)
                  · replace h := jit_pos hc h
                    refine x_iconst (pc := 145) hC dX9_attempt_145 ?_
                    exact x_iretT (pc := 146) hC hR dX9_attempt_146 (Nat.le_of_ble_eq_true rfl) (Nat.le_of_ble_eq_true rfl) (jr1 h) (jt2 h) (jt3 h)
                  · replace h := jit_neg hc h
                    refine x_iconst (pc := 141) hC dX9_attempt_141 ?_
                    refine x_goto (tgt := 146) (pc := 142) hC dX9_attempt_142 (by decide) ?_
                    exact x_iretT (pc := 146) hC hR dX9_attempt_146 (Nat.le_of_ble_eq_true rfl) (Nat.le_of_ble_eq_true rfl) (jr1 h) (jt2 h) (jt3 h)
                · rcases jit_or h with ⟨hq, h⟩ | ⟨hr7, h⟩
                  · refine x_tableIn (tgt := 147) (off := 122) (pc := 25) hC dX9_attempt_25 (by omega) (by omega) (by rw [hq]; rfl) (by decide) ?_
                    refine x_aloadA (pc := 147) hC dX9_attempt_147 rfl hk8 (by decide) ?_
                    refine x_gf (pc := 149) (b := (v7 + 1)) hC fl_X9_145 ft8_9 hk8 (by decide) (off := 1) (by decide +kernel) rfl dX9_attempt_149 ?_
                    refine x_iload_n (pc := 152) hC dX9_attempt_152 rfl rfl ?_
                    obtain ⟨hb20, h⟩ := jck_some h
                    refine x_iald (pc := 153) hC (ko8_9 hk8) (by rw [lo8_9 hk8]; exact hb20) dX9_attempt_153 ?_
                    exact x_iretT (pc := 154) hC hR dX9_attempt_154 (Nat.le_of_ble_eq_true rfl) (Nat.le_of_ble_eq_true rfl) (jr1 h) (jt2 h) (jt3 h)
                  · rcases jit_or h with ⟨hq, h⟩ | ⟨hr8, h⟩
                    · refine x_tableIn (tgt := 155) (off := 130) (pc := 25) hC dX9_attempt_25 (by omega) (by omega) (by rw [hq]; rfl) (by decide) ?_
                      refine x_aloadA (pc := 155) hC dX9_attempt_155 rfl hk8 (by decide) ?_
                      refine x_iload_n (pc := 157) hC dX9_attempt_157 rfl rfl ?_
                      obtain ⟨v22, e21, h⟩ := jbR_some h
                      refine x_cV (pc := 158) hC mv_X9_148 (ok_X8_worthOf hn hk8 e21) rfl (Nat.le_of_ble_eq_true rfl) hk8 rfl (by decide) (jRoT hR (Nat.le_of_ble_eq_true rfl) (Nat.le_of_ble_eq_true rfl)) (Nat.le_of_ble_eq_true rfl) dX9_attempt_158 rfl ?_
                      exact x_iretT (pc := 161) hC hR dX9_attempt_161 (Nat.le_of_ble_eq_true rfl) (Nat.le_of_ble_eq_true rfl) (jr1 h) (jt2 h) (jt3 h)
                    · rcases jit_or h with ⟨hq, h⟩ | ⟨hr9, h⟩
                      · refine x_tableIn (tgt := 162) (off := 137) (pc := 25) hC dX9_attempt_25 (by omega) (by omega) (by rw [hq]; rfl) (by decide) ?_
                        refine x_aloadA (pc := 162) hC dX9_attempt_162 rfl hk8 (by decide) ?_
                        refine x_iload_n (pc := 164) hC dX9_attempt_164 rfl rfl ?_
                        refine x_aloadA_n (pc := 165) hC dX9_attempt_165 rfl rfl k_1 (by decide) ?_
                        obtain ⟨v24, e23, h⟩ := jbR_some h
                        refine x_cV (pc := 166) hC mv_X9_152 (ok_X9_everyJudge hn e23) rfl (Nat.le_of_ble_eq_true rfl) k_1 rfl (by decide) (jRoT hR (Nat.le_of_ble_eq_true rfl) (Nat.le_of_ble_eq_true rfl)) (Nat.le_of_ble_eq_true rfl) dX9_attempt_166 rfl ?_
                        obtain ⟨v26, e25, h⟩ := jbR_some h
                        refine x_cV (pc := 169) hC mv_X9_156 (ok_X8_gainOf hn hk8 e25) rfl (Nat.le_of_ble_eq_true rfl) hk8 rfl (by decide) (jRoT hR (Nat.le_of_ble_eq_true rfl) (Nat.le_of_ble_eq_true rfl)) (Nat.le_of_ble_eq_true rfl) dX9_attempt_169 rfl ?_
                        exact x_iretT (pc := 172) hC hR dX9_attempt_172 (Nat.le_of_ble_eq_true rfl) (Nat.le_of_ble_eq_true rfl) (jr1 h) (jt2 h) (jt3 h)
                      · have hq : jw l3 = 10 := by omega
                        refine x_tableIn (tgt := 173) (off := 148) (pc := 25) hC dX9_attempt_25 (by omega) (by omega) (by rw [hq]; rfl) (by decide) ?_
                        refine x_aloadA (pc := 173) hC dX9_attempt_173 rfl hk8 (by decide) ?_
                        refine x_iload_n (pc := 175) hC dX9_attempt_175 rfl rfl ?_
                        refine x_aloadA_n (pc := 176) hC dX9_attempt_176 rfl rfl k_1 (by decide) ?_
                        obtain ⟨v28, e27, h⟩ := jbR_some h
                        refine x_cV (pc := 177) hC mv_X9_152 (ok_X9_everyJudge hn e27) rfl (Nat.le_of_ble_eq_true rfl) k_1 rfl (by decide) (jRoT hR (Nat.le_of_ble_eq_true rfl) (Nat.le_of_ble_eq_true rfl)) (Nat.le_of_ble_eq_true rfl) dX9_attempt_177 rfl ?_
                        obtain ⟨v30, e29, h⟩ := jbR_some h
                        refine x_cV (pc := 180) hC mv_X9_159 (ok_X8_pointsOf hn hk8 e29) rfl (Nat.le_of_ble_eq_true rfl) hk8 rfl (by decide) (jRoT hR (Nat.le_of_ble_eq_true rfl) (Nat.le_of_ble_eq_true rfl)) (Nat.le_of_ble_eq_true rfl) dX9_attempt_180 rfl ?_
                        exact x_iretT (pc := 183) hC hR dX9_attempt_183 (Nat.le_of_ble_eq_true rfl) (Nat.le_of_ble_eq_true rfl) (jr1 h) (jt2 h) (jt3 h)

set_option maxHeartbeats 4000000 in
set_option maxRecDepth 20000 in
theorem ok_X9_wantJudge {X : jX} {n : Nat} (hn : 179 ≤ n) {l1 : Int} {M : jM} {cz : Int} (h : f_X9_wantJudge l1 M = some cz) : jCtT X n yX9_wantJudge cX9_wantJudge 2 (none) 6 1 [jA 1, jI l1] M cz (none) M := by
  refine jCtT_of (own := RX9) (ls := [jA 1, jI l1]) (by decide +kernel) rfl hn (Nat.le_of_ble_eq_true rfl) rfl ?_
  intro C hC hR
  unfold f_X9_wantJudge at h
  refine x_iload_n (pc := 0) hC dX9_wantJudge_0 rfl rfl ?_
  obtain ⟨k1, Hk1, h⟩ := jk_some (P := fun k1 => k1 = some cz → jG C X n 2 0 0 15 [jA 1, jI l1] [] M) h (by
    intro h
    exact x_throwW (pc := 15) hC hR ex_2 sr_12 (Nat.le_of_ble_eq_true rfl) (Nat.le_of_ble_eq_true rfl) (Nat.le_of_ble_eq_true rfl) (Nat.le_of_ble_eq_true rfl) dX9_wantJudge_15 dX9_wantJudge_18 dX9_wantJudge_19 dX9_wantJudge_22 dX9_wantJudge_25 (jrR h) rfl)
  refine x_if_lt (tgt := 15) (pc := 1) hC dX9_wantJudge_1 (by decide) (fun hc => ?_) (fun hc => ?_)
  · replace h := jit_pos hc h
    exact Hk1 h
  · replace h := jit_neg hc h
    refine x_iload_n (pc := 4) hC dX9_wantJudge_4 rfl rfl ?_
    refine x_aloadA_n (pc := 5) hC dX9_wantJudge_5 rfl rfl k_1 (by decide) ?_
    obtain ⟨hk2, h⟩ := jck_some h
    refine x_gr (pc := 6) (ji := 3) hC fl_X9_23 rfl ft9_3 k_1 dX9_wantJudge_6 ?_
    refine x_gi (pc := 9) (ji := 0) hC fl_X9_295 rfl fn1_0 hk2 dX9_wantJudge_9 ?_
    refine x_icmp_lt (tgt := 26) (pc := 12) hC dX9_wantJudge_12 (by decide) (fun hc => ?_) (fun hc => ?_)
    · replace h := jit_pos hc h
      exact x_vretT (pc := 26) hC hR dX9_wantJudge_26 (Nat.le_of_ble_eq_true rfl) (Nat.le_of_ble_eq_true rfl) (jrR h) rfl
    · replace h := jit_neg hc h
      exact Hk1 h

set_option maxHeartbeats 4000000 in
set_option maxRecDepth 20000 in
theorem ok_X9_grade {X : jX} {n : Nat} (hn : 179 ≤ n) {l1 : Int} {l2 : Int} {l3 : Int} {M : jM} {cz : Int} {rz : Int} (h : f_X9_grade l1 l2 l3 M = some (cz, rz)) : jCtT X n yX9_grade cX9_grade 4 (some .int) 8 3 [jA 1, jI l1, jI l2, jI l3] M cz (some (jI rz)) M := by
  refine jCtT_of (own := RX9) (ls := [jA 1, jI l1, jI l2, jI l3]) (by decide +kernel) rfl hn (Nat.le_of_ble_eq_true rfl) rfl ?_
  intro C hC hR
  unfold f_X9_grade at h
  refine x_aloadA_n (pc := 0) hC dX9_grade_0 rfl rfl k_1 (by decide) ?_
  refine x_iload_n (pc := 1) hC dX9_grade_1 rfl rfl ?_
  refine x_iload_n (pc := 2) hC dX9_grade_2 rfl rfl ?_
  obtain ⟨c1, e2, h⟩ := jbR_some h
  refine x_cVT (pc := 3) hC hR mv_X9_113 (jTB_mem wm_1112 rfl) (ok_X9_wantAttempt hn e2) rfl (Nat.le_of_ble_eq_true rfl) k_1 rfl (by decide) (Nat.le_of_ble_eq_true rfl) (Nat.le_of_ble_eq_true rfl) (Nat.le_of_ble_eq_true rfl) dX9_grade_3 rfl (fun hc => have h := jit_neg hc h; ⟨(jr1 h), rfl⟩) (kc2 := 2) (ks2 := 12) rfl rfl (fun hc => ?_)
  replace h := jit_pos hc h
  refine x_aloadA_n (pc := 6) hC dX9_grade_6 rfl rfl k_1 (by decide) ?_
  refine x_iload_n (pc := 7) hC dX9_grade_7 rfl rfl ?_
  obtain ⟨c3, e4, h⟩ := jbR_some h
  refine x_cVT (pc := 8) hC hR mv_X9_164 (jTB_mem wm_1147 rfl) (ok_X9_wantJudge hn e4) rfl (Nat.le_of_ble_eq_true rfl) k_1 rfl (by decide) (Nat.le_of_ble_eq_true rfl) (Nat.le_of_ble_eq_true rfl) (Nat.le_of_ble_eq_true rfl) dX9_grade_8 rfl (fun hc => have h := jit_neg hc h; ⟨(jr1 h), rfl⟩) (kc2 := 3) (ks2 := 18) rfl rfl (fun hc => ?_)
  replace h := jit_pos hc h
  refine x_aloadA_n (pc := 11) hC dX9_grade_11 rfl rfl k_1 (by decide) ?_
  obtain ⟨hk5, h⟩ := jck_some h
  refine x_gr (pc := 12) (ji := 3) hC fl_X9_23 rfl ft9_3 k_1 dX9_grade_12 ?_
  refine x_gf (pc := 15) (b := ((M 1 3) + 16)) hC fl_X9_117 ft1_7 hk5 (by decide) (off := 16) (by decide +kernel) rfl dX9_grade_15 ?_
  refine x_iload_n (pc := 18) hC dX9_grade_18 rfl rfl ?_
  obtain ⟨hb6, h⟩ := jck_some h
  refine x_aald14 (pc := 19) hC (ko1_7 hk5) hb6 rfl dX9_grade_19 ?_
  refine x_gf (pc := 20) (b := ((((M 1 3) + 16) + 1 + 6 * jw l1) + 5)) hC fl_X9_167 ft6_7 (jsk (ko1_7 hk5) hb6.1 hb6.2) (by decide) (off := 5) (by decide +kernel) rfl dX9_grade_20 ?_
  refine x_iload_n (pc := 23) hC dX9_grade_23 rfl rfl ?_
  refine x_iload_n (pc := 24) hC dX9_grade_24 rfl rfl ?_
  obtain ⟨v8, e7, h⟩ := jbR_some h
  refine x_cS (pc := 25) hC ms_X9_170 (ok_X9_voteOfGrade hn e7) rfl (Nat.le_of_ble_eq_true rfl) (jRoT hR (Nat.le_of_ble_eq_true rfl) (Nat.le_of_ble_eq_true rfl)) (Nat.le_of_ble_eq_true rfl) dX9_grade_25 rfl ?_
  obtain ⟨hb9, h⟩ := jck_some h
  refine x_iald (pc := 28) hC (ko6_7 (jsk (ko1_7 hk5) hb6.1 hb6.2)) (by rw [lo6_7 (jsk (ko1_7 hk5) hb6.1 hb6.2)]; exact hb9) dX9_grade_28 ?_
  exact x_iretT (pc := 29) hC hR dX9_grade_29 (Nat.le_of_ble_eq_true rfl) (Nat.le_of_ble_eq_true rfl) (jr1 h) (jr2 h) rfl

set_option maxHeartbeats 4000000 in
set_option maxRecDepth 20000 in
theorem ok_X9_mean {X : jX} {n : Nat} (hn : 179 ≤ n) {l1 : Int} {l2 : Int} {M : jM} {cz : Int} {rz : Int} {Mz : jM} (h : f_X9_mean l1 l2 M = some (cz, rz, Mz)) : jCtT X n yX9_mean cX9_mean 3 (some .int) 8 2 [jA 1, jI l1, jI l2] M cz (some (jI rz)) Mz := by
  refine jCtT_of (own := RX9) (ls := [jA 1, jI l1, jI l2]) (by decide +kernel) rfl hn (Nat.le_of_ble_eq_true rfl) rfl ?_
  intro C hC hR
  unfold f_X9_mean at h
  refine x_aloadA_n (pc := 0) hC dX9_mean_0 rfl rfl k_1 (by decide) ?_
  refine x_iload_n (pc := 1) hC dX9_mean_1 rfl rfl ?_
  refine x_iload_n (pc := 2) hC dX9_mean_2 rfl rfl ?_
  obtain ⟨c1, e2, h⟩ := jbR_some h
  refine x_cVT (pc := 3) hC hR mv_X9_113 (jTB_mem wm_1112 rfl) (ok_X9_wantAttempt hn e2) rfl (Nat.le_of_ble_eq_true rfl) k_1 rfl (by decide) (Nat.le_of_ble_eq_true rfl) (Nat.le_of_ble_eq_true rfl) (Nat.le_of_ble_eq_true rfl) dX9_mean_3 rfl (fun hc => have h := jit_neg hc h; ⟨(jr1 h), (jt3 h)⟩) (kc2 := 2) (ks2 := 12) rfl rfl (fun hc => ?_)
  replace h := jit_pos hc h
  refine x_aloadA_n (pc := 6) hC dX9_mean_6 rfl rfl k_1 (by decide) ?_
  refine x_iload_n (pc := 7) hC dX9_mean_7 rfl rfl ?_
  obtain ⟨v5, M4, e3, h⟩ := jbW_some h
  refine x_cV (pc := 8) hC mv_X9_121 (ok_X9_tallied hn e3) rfl (Nat.le_of_ble_eq_true rfl) k_1 rfl (by decide) (jRoT hR (Nat.le_of_ble_eq_true rfl) (Nat.le_of_ble_eq_true rfl)) (Nat.le_of_ble_eq_true rfl) dX9_mean_8 rfl ?_
  obtain ⟨hk6, h⟩ := jck_some h
  refine x_iload_n (pc := 11) hC dX9_mean_11 rfl rfl ?_
  refine x_aloadA_n (pc := 12) hC dX9_mean_12 rfl rfl k_1 (by decide) ?_
  obtain ⟨v8, e7, h⟩ := jbR_some h
  refine x_cV (pc := 13) hC mv_X9_152 (ok_X9_everyJudge hn e7) rfl (Nat.le_of_ble_eq_true rfl) k_1 rfl (by decide) (jRoT hR (Nat.le_of_ble_eq_true rfl) (Nat.le_of_ble_eq_true rfl)) (Nat.le_of_ble_eq_true rfl) dX9_mean_13 rfl ?_
  obtain ⟨v10, e9, h⟩ := jbR_some h
  refine x_cV (pc := 16) hC mv_X9_173 (ok_X8_trimmed hn hk6 e9) rfl (Nat.le_of_ble_eq_true rfl) hk6 rfl (by decide) (jRoT hR (Nat.le_of_ble_eq_true rfl) (Nat.le_of_ble_eq_true rfl)) (Nat.le_of_ble_eq_true rfl) dX9_mean_16 rfl ?_
  exact x_iretT (pc := 19) hC hR dX9_mean_19 (Nat.le_of_ble_eq_true rfl) (Nat.le_of_ble_eq_true rfl) (jr1 h) (jt2 h) (jt3 h)

set_option maxHeartbeats 4000000 in
set_option maxRecDepth 20000 in
theorem ok_X9_wantComponent {X : jX} {n : Nat} (hn : 179 ≤ n) {l1 : Int} {M : jM} {cz : Int} (h : f_X9_wantComponent l1 = some cz) : jCtT X n yX9_wantComponent cX9_wantComponent 2 (none) 6 1 [jA 1, jI l1] M cz (none) M := by
  refine jCtT_of (own := RX9) (ls := [jA 1, jI l1]) (by decide +kernel) rfl hn (Nat.le_of_ble_eq_true rfl) rfl ?_
  intro C hC hR
  unfold f_X9_wantComponent at h
  refine x_iload_n (pc := 0) hC dX9_wantComponent_0 rfl rfl ?_
  obtain ⟨k1, Hk1, h⟩ := jk_some (P := fun k1 => k1 = some cz → jG C X n 2 0 0 9 [jA 1, jI l1] [] M) h (by
    intro h
    exact x_throwW (pc := 9) hC hR ex_2 sr_13 (Nat.le_of_ble_eq_true rfl) (Nat.le_of_ble_eq_true rfl) (Nat.le_of_ble_eq_true rfl) (Nat.le_of_ble_eq_true rfl) dX9_wantComponent_9 dX9_wantComponent_12 dX9_wantComponent_13 dX9_wantComponent_16 dX9_wantComponent_19 (jrR h) rfl)
  refine x_if_lt (tgt := 9) (pc := 1) hC dX9_wantComponent_1 (by decide) (fun hc => ?_) (fun hc => ?_)
  · replace h := jit_pos hc h
    exact Hk1 h
  · replace h := jit_neg hc h
    refine x_iload_n (pc := 4) hC dX9_wantComponent_4 rfl rfl ?_
    refine x_iconst (pc := 5) hC dX9_wantComponent_5 ?_
    refine x_icmp_lt (tgt := 20) (pc := 6) hC dX9_wantComponent_6 (by decide) (fun hc => ?_) (fun hc => ?_)
    · replace h := jit_pos hc h
      exact x_vretT (pc := 20) hC hR dX9_wantComponent_20 (Nat.le_of_ble_eq_true rfl) (Nat.le_of_ble_eq_true rfl) (jrR h) rfl
    · replace h := jit_neg hc h
      exact Hk1 h

set_option maxHeartbeats 4000000 in
set_option maxRecDepth 20000 in
theorem ok_X9_mark {X : jX} {n : Nat} (hn : 179 ≤ n) {l1 : Int} {l2 : Int} {l3 : Int} {M : jM} {cz : Int} {rz : Int} (h : f_X9_mark l1 l2 l3 M = some (cz, rz)) : jCtT X n yX9_mark cX9_mark 4 (some .int) 7 3 [jA 1, jI l1, jI l2, jI l3] M cz (some (jI rz)) M := by
  refine jCtT_of (own := RX9) (ls := [jA 1, jI l1, jI l2, jI l3]) (by decide +kernel) rfl hn (Nat.le_of_ble_eq_true rfl) rfl ?_
  intro C hC hR
  unfold f_X9_mark at h
  refine x_aloadA_n (pc := 0) hC dX9_mark_0 rfl rfl k_1 (by decide) ?_
  refine x_iload_n (pc := 1) hC dX9_mark_1 rfl rfl ?_
  obtain ⟨c1, e2, h⟩ := jbR_some h
  refine x_cVT (pc := 2) hC hR mv_X9_89 (jTB_mem wm_1052 rfl) (ok_X9_wantSkater hn e2) rfl (Nat.le_of_ble_eq_true rfl) k_1 rfl (by decide) (Nat.le_of_ble_eq_true rfl) (Nat.le_of_ble_eq_true rfl) (Nat.le_of_ble_eq_true rfl) dX9_mark_2 rfl (fun hc => have h := jit_neg hc h; ⟨(jr1 h), rfl⟩) (kc2 := 1) (ks2 := 6) rfl rfl (fun hc => ?_)
  replace h := jit_pos hc h
  refine x_aloadA_n (pc := 5) hC dX9_mark_5 rfl rfl k_1 (by decide) ?_
  refine x_iload_n (pc := 6) hC dX9_mark_6 rfl rfl ?_
  obtain ⟨c3, e4, h⟩ := jbR_some h
  refine x_cVT (pc := 7) hC hR mv_X9_176 (jTB_mem wm_1168 rfl) (ok_X9_wantComponent hn e4) rfl (Nat.le_of_ble_eq_true rfl) k_1 rfl (by decide) (Nat.le_of_ble_eq_true rfl) (Nat.le_of_ble_eq_true rfl) (Nat.le_of_ble_eq_true rfl) dX9_mark_7 rfl (fun hc => have h := jit_neg hc h; ⟨(jr1 h), rfl⟩) (kc2 := 2) (ks2 := 12) rfl rfl (fun hc => ?_)
  replace h := jit_pos hc h
  refine x_aloadA_n (pc := 10) hC dX9_mark_10 rfl rfl k_1 (by decide) ?_
  refine x_iload_n (pc := 11) hC dX9_mark_11 rfl rfl ?_
  obtain ⟨c5, e6, h⟩ := jbR_some h
  refine x_cVT (pc := 12) hC hR mv_X9_164 (jTB_mem wm_1147 rfl) (ok_X9_wantJudge hn e6) rfl (Nat.le_of_ble_eq_true rfl) k_1 rfl (by decide) (Nat.le_of_ble_eq_true rfl) (Nat.le_of_ble_eq_true rfl) (Nat.le_of_ble_eq_true rfl) dX9_mark_12 rfl (fun hc => have h := jit_neg hc h; ⟨(jr1 h), rfl⟩) (kc2 := 3) (ks2 := 18) rfl rfl (fun hc => ?_)
  replace h := jit_pos hc h
  refine x_aloadA_n (pc := 15) hC dX9_mark_15 rfl rfl k_1 (by decide) ?_
  obtain ⟨hk7, h⟩ := jck_some h
  refine x_gr (pc := 16) (ji := 3) hC fl_X9_23 rfl ft9_3 k_1 dX9_mark_16 ?_
  refine x_gf (pc := 19) (b := ((M 1 3) + 16)) hC fl_X9_117 ft1_7 hk7 (by decide) (off := 16) (by decide +kernel) rfl dX9_mark_19 ?_
  refine x_iload_n (pc := 22) hC dX9_mark_22 rfl rfl ?_
  obtain ⟨hb8, h⟩ := jck_some h
  refine x_aald14 (pc := 23) hC (ko1_7 hk7) hb8 rfl dX9_mark_23 ?_
  refine x_gf (pc := 24) (b := ((((M 1 3) + 16) + 1 + 6 * jw l1) + 5)) hC fl_X9_167 ft6_7 (jsk (ko1_7 hk7) hb8.1 hb8.2) (by decide) (off := 5) (by decide +kernel) rfl dX9_mark_24 ?_
  refine x_iload_n (pc := 27) hC dX9_mark_27 rfl rfl ?_
  refine x_iload_n (pc := 28) hC dX9_mark_28 rfl rfl ?_
  obtain ⟨v10, e9, h⟩ := jbR_some h
  refine x_cS (pc := 29) hC ms_X9_179 (ok_X9_voteOfMark hn e9) rfl (Nat.le_of_ble_eq_true rfl) (jRoT hR (Nat.le_of_ble_eq_true rfl) (Nat.le_of_ble_eq_true rfl)) (Nat.le_of_ble_eq_true rfl) dX9_mark_29 rfl ?_
  obtain ⟨hb11, h⟩ := jck_some h
  refine x_iald (pc := 32) hC (ko6_7 (jsk (ko1_7 hk7) hb8.1 hb8.2)) (by rw [lo6_7 (jsk (ko1_7 hk7) hb8.1 hb8.2)]; exact hb11) dX9_mark_32 ?_
  exact x_iretT (pc := 33) hC hR dX9_mark_33 (Nat.le_of_ble_eq_true rfl) (Nat.le_of_ble_eq_true rfl) (jr1 h) (jr2 h) rfl

set_option maxHeartbeats 4000000 in
set_option maxRecDepth 20000 in
theorem ok_X9_component {X : jX} {n : Nat} (hn : 179 ≤ n) {l1 : Int} {l2 : Int} {M : jM} {cz : Int} {rz : Int} {Mz : jM} (h : f_X9_component l1 l2 M = some (cz, rz, Mz)) : jCtT X n yX9_component cX9_component 3 (some .int) 7 2 [jA 1, jI l1, jI l2] M cz (some (jI rz)) Mz := by
  refine jCtT_of (own := RX9) (ls := [jA 1, jI l1, jI l2]) (by decide +kernel) rfl hn (Nat.le_of_ble_eq_true rfl) rfl ?_
  intro C hC hR
  unfold f_X9_component at h
  refine x_aloadA_n (pc := 0) hC dX9_component_0 rfl rfl k_1 (by decide) ?_
  refine x_iload_n (pc := 1) hC dX9_component_1 rfl rfl ?_
  obtain ⟨c1, e2, h⟩ := jbR_some h
  refine x_cVT (pc := 2) hC hR mv_X9_89 (jTB_mem wm_1052 rfl) (ok_X9_wantSkater hn e2) rfl (Nat.le_of_ble_eq_true rfl) k_1 rfl (by decide) (Nat.le_of_ble_eq_true rfl) (Nat.le_of_ble_eq_true rfl) (Nat.le_of_ble_eq_true rfl) dX9_component_2 rfl (fun hc => have h := jit_neg hc h; ⟨(jr1 h), (jt3 h)⟩) (kc2 := 1) (ks2 := 6) rfl rfl (fun hc => ?_)
  replace h := jit_pos hc h
  refine x_aloadA_n (pc := 5) hC dX9_component_5 rfl rfl k_1 (by decide) ?_
  refine x_iload_n (pc := 6) hC dX9_component_6 rfl rfl ?_
  obtain ⟨c3, e4, h⟩ := jbR_some h
  refine x_cVT (pc := 7) hC hR mv_X9_176 (jTB_mem wm_1168 rfl) (ok_X9_wantComponent hn e4) rfl (Nat.le_of_ble_eq_true rfl) k_1 rfl (by decide) (Nat.le_of_ble_eq_true rfl) (Nat.le_of_ble_eq_true rfl) (Nat.le_of_ble_eq_true rfl) dX9_component_7 rfl (fun hc => have h := jit_neg hc h; ⟨(jr1 h), (jt3 h)⟩) (kc2 := 2) (ks2 := 12) rfl rfl (fun hc => ?_)
  replace h := jit_pos hc h
  refine x_aloadA_n (pc := 10) hC dX9_component_10 rfl rfl k_1 (by decide) ?_
  refine x_iload_n (pc := 11) hC dX9_component_11 rfl rfl ?_
  obtain ⟨v7, M6, e5, h⟩ := jbW_some h
  refine x_cV (pc := 12) hC mv_X9_121 (ok_X9_tallied hn e5) rfl (Nat.le_of_ble_eq_true rfl) k_1 rfl (by decide) (jRoT hR (Nat.le_of_ble_eq_true rfl) (Nat.le_of_ble_eq_true rfl)) (Nat.le_of_ble_eq_true rfl) dX9_component_12 rfl ?_
  obtain ⟨hk8, h⟩ := jck_some h
  refine x_iload_n (pc := 15) hC dX9_component_15 rfl rfl ?_
  refine x_aloadA_n (pc := 16) hC dX9_component_16 rfl rfl k_1 (by decide) ?_
  obtain ⟨v10, e9, h⟩ := jbR_some h
  refine x_cV (pc := 17) hC mv_X9_152 (ok_X9_everyJudge hn e9) rfl (Nat.le_of_ble_eq_true rfl) k_1 rfl (by decide) (jRoT hR (Nat.le_of_ble_eq_true rfl) (Nat.le_of_ble_eq_true rfl)) (Nat.le_of_ble_eq_true rfl) dX9_component_17 rfl ?_
  obtain ⟨v12, e11, h⟩ := jbR_some h
  refine x_cV (pc := 20) hC mv_X9_182 (ok_X8_shownOf hn hk8 e11) rfl (Nat.le_of_ble_eq_true rfl) hk8 rfl (by decide) (jRoT hR (Nat.le_of_ble_eq_true rfl) (Nat.le_of_ble_eq_true rfl)) (Nat.le_of_ble_eq_true rfl) dX9_component_20 rfl ?_
  exact x_iretT (pc := 23) hC hR dX9_component_23 (Nat.le_of_ble_eq_true rfl) (Nat.le_of_ble_eq_true rfl) (jr1 h) (jt2 h) (jt3 h)

set_option maxHeartbeats 4000000 in
set_option maxRecDepth 20000 in
theorem ok_X9_total {X : jX} {n : Nat} (hn : 179 ≤ n) {l1 : Int} {l2 : Int} {M : jM} {cz : Int} {rz : Int} {Mz : jM} (h : f_X9_total l1 l2 M = some (cz, rz, Mz)) : jCtT X n yX9_total cX9_total 4 (some .int) 7 2 [jA 1, jI l1, jI l2] M cz (some (jI rz)) Mz := by
  refine jCtT_of (own := RX9) (ls := [jA 1, jI l1, jI l2, jN]) (by decide +kernel) rfl hn (Nat.le_of_ble_eq_true rfl) rfl ?_
  intro C hC hR
  unfold f_X9_total at h
  refine x_aloadA_n (pc := 0) hC dX9_total_0 rfl rfl k_1 (by decide) ?_
  refine x_iload_n (pc := 1) hC dX9_total_1 rfl rfl ?_
  obtain ⟨c1, e2, h⟩ := jbR_some h
  refine x_cVT (pc := 2) hC hR mv_X9_89 (jTB_mem wm_1052 rfl) (ok_X9_wantSkater hn e2) rfl (Nat.le_of_ble_eq_true rfl) k_1 rfl (by decide) (Nat.le_of_ble_eq_true rfl) (Nat.le_of_ble_eq_true rfl) (Nat.le_of_ble_eq_true rfl) dX9_total_2 rfl (fun hc => have h := jit_neg hc h; ⟨(jr1 h), (jt3 h)⟩) (kc2 := 1) (ks2 := 6) rfl rfl (fun hc => ?_)
  replace h := jit_pos hc h
  refine x_aloadA_n (pc := 5) hC dX9_total_5 rfl rfl k_1 (by decide) ?_
  refine x_iload_n (pc := 6) hC dX9_total_6 rfl rfl ?_
  obtain ⟨v5, M4, e3, h⟩ := jbW_some h
  refine x_cV (pc := 7) hC mv_X9_121 (ok_X9_tallied hn e3) rfl (Nat.le_of_ble_eq_true rfl) k_1 rfl (by decide) (jRoT hR (Nat.le_of_ble_eq_true rfl) (Nat.le_of_ble_eq_true rfl)) (Nat.le_of_ble_eq_true rfl) dX9_total_7 rfl ?_
  obtain ⟨hk6, h⟩ := jck_some h
  refine x_astoreA_n (ls2 := [jA 1, jI l1, jI l2, jA v5]) (pc := 10) hC dX9_total_10 rfl (by decide) rfl hk6 (by decide) rfl ?_
  refine x_iload_n (pc := 11) hC dX9_total_11 rfl rfl ?_
  rcases jit_or h with ⟨hc, h⟩ | ⟨hc, h⟩
  · refine x_tableOut (tgt := 75) (pc := 12) hC dX9_total_12 hc (by decide) ?_
    exact x_throw3 (pc := 75) hC hR ex_3 sr_14 (Nat.le_of_ble_eq_true rfl) (Nat.le_of_ble_eq_true rfl) (Nat.le_of_ble_eq_true rfl) (Nat.le_of_ble_eq_true rfl) dX9_total_75 dX9_total_78 dX9_total_79 dX9_total_81 dX9_total_84 (jr1 h) (jt3 h)
  · rcases jit_or h with ⟨hq, h⟩ | ⟨hr0, h⟩
    · refine x_tableIn (tgt := 48) (off := 36) (pc := 12) hC dX9_total_12 (by omega) (by omega) (by rw [hq]; rfl) (by decide) ?_
      refine x_aloadA_n (pc := 48) hC dX9_total_48 rfl rfl hk6 (by decide) ?_
      refine x_gi (pc := 49) (ji := 6) hC fl_X9_185 rfl fn8_6 hk6 dX9_total_49 ?_
      exact x_iretT (pc := 52) hC hR dX9_total_52 (Nat.le_of_ble_eq_true rfl) (Nat.le_of_ble_eq_true rfl) (jr1 h) (jt2 h) (jt3 h)
    · rcases jit_or h with ⟨hq, h⟩ | ⟨hr1, h⟩
      · refine x_tableIn (tgt := 53) (off := 41) (pc := 12) hC dX9_total_12 (by omega) (by omega) (by rw [hq]; rfl) (by decide) ?_
        refine x_aloadA_n (pc := 53) hC dX9_total_53 rfl rfl hk6 (by decide) ?_
        refine x_gi (pc := 54) (ji := 7) hC fl_X9_188 rfl fn8_7 hk6 dX9_total_54 ?_
        exact x_iretT (pc := 57) hC hR dX9_total_57 (Nat.le_of_ble_eq_true rfl) (Nat.le_of_ble_eq_true rfl) (jr1 h) (jt2 h) (jt3 h)
      · rcases jit_or h with ⟨hq, h⟩ | ⟨hr2, h⟩
        · refine x_tableIn (tgt := 58) (off := 46) (pc := 12) hC dX9_total_12 (by omega) (by omega) (by rw [hq]; rfl) (by decide) ?_
          refine x_aloadA_n (pc := 58) hC dX9_total_58 rfl rfl hk6 (by decide) ?_
          refine x_gf (pc := 59) (b := (v5 + 4)) hC fl_X9_191 ft8_12 hk6 (by decide) (off := 4) (by decide +kernel) rfl dX9_total_59 ?_
          refine x_iconst (pc := 62) hC dX9_total_62 ?_
          obtain ⟨hb7, h⟩ := jck_some h
          refine x_iald (pc := 63) hC (ko8_12 hk6) (by rw [lo8_12 hk6]; exact hb7) dX9_total_63 ?_
          exact x_iretT (pc := 64) hC hR dX9_total_64 (Nat.le_of_ble_eq_true rfl) (Nat.le_of_ble_eq_true rfl) (jr1 h) (jt2 h) (jt3 h)
        · rcases jit_or h with ⟨hq, h⟩ | ⟨hr3, h⟩
          · refine x_tableIn (tgt := 65) (off := 53) (pc := 12) hC dX9_total_12 (by omega) (by omega) (by rw [hq]; rfl) (by decide) ?_
            refine x_aloadA_n (pc := 65) hC dX9_total_65 rfl rfl hk6 (by decide) ?_
            refine x_gi (pc := 66) (ji := 5) hC fl_X9_196 rfl fn8_5 hk6 dX9_total_66 ?_
            exact x_iretT (pc := 69) hC hR dX9_total_69 (Nat.le_of_ble_eq_true rfl) (Nat.le_of_ble_eq_true rfl) (jr1 h) (jt2 h) (jt3 h)
          · have hq : jw l2 = 4 := by omega
            refine x_tableIn (tgt := 70) (off := 58) (pc := 12) hC dX9_total_12 (by omega) (by omega) (by rw [hq]; rfl) (by decide) ?_
            refine x_aloadA_n (pc := 70) hC dX9_total_70 rfl rfl hk6 (by decide) ?_
            refine x_gi (pc := 71) (ji := 8) hC fl_X9_199 rfl fn8_8 hk6 dX9_total_71 ?_
            exact x_iretT (pc := 74) hC hR dX9_total_74 (Nat.le_of_ble_eq_true rfl) (Nat.le_of_ble_eq_true rfl) (jr1 h) (jt2 h) (jt3 h)

set_option maxHeartbeats 4000000 in
set_option maxRecDepth 20000 in
theorem ok_X9_rule {X : jX} {n : Nat} (hn : 179 ≤ n) {l1 : Int} {l2 : Int} {M : jM} {cz : Int} {rz : Int} {Mz : jM} (h : f_X9_rule l1 l2 M = some (cz, rz, Mz)) : jCtT X n yX9_rule cX9_rule 3 (some .int) 7 2 [jA 1, jI l1, jI l2] M cz (some (jI rz)) Mz := by
  refine jCtT_of (own := RX9) (ls := [jA 1, jI l1, jI l2]) (by decide +kernel) rfl hn (Nat.le_of_ble_eq_true rfl) rfl ?_
  intro C hC hR
  unfold f_X9_rule at h
  refine x_aloadA_n (pc := 0) hC dX9_rule_0 rfl rfl k_1 (by decide) ?_
  refine x_iload_n (pc := 1) hC dX9_rule_1 rfl rfl ?_
  obtain ⟨c1, e2, h⟩ := jbR_some h
  refine x_cVT (pc := 2) hC hR mv_X9_89 (jTB_mem wm_1052 rfl) (ok_X9_wantSkater hn e2) rfl (Nat.le_of_ble_eq_true rfl) k_1 rfl (by decide) (Nat.le_of_ble_eq_true rfl) (Nat.le_of_ble_eq_true rfl) (Nat.le_of_ble_eq_true rfl) dX9_rule_2 rfl (fun hc => have h := jit_neg hc h; ⟨(jr1 h), (jt3 h)⟩) (kc2 := 1) (ks2 := 6) rfl rfl (fun hc => ?_)
  replace h := jit_pos hc h
  refine x_iload_n (pc := 5) hC dX9_rule_5 rfl rfl ?_
  obtain ⟨k3, Hk3, h⟩ := jk_some (P := fun k3 => k3 = some (cz, rz, Mz) → jG C X n 3 1 6 23 [jA 1, jI l1, jI l2] [] M) h (by
    intro h
    exact x_throw3 (pc := 23) hC hR ex_3 sr_15 (Nat.le_of_ble_eq_true rfl) (Nat.le_of_ble_eq_true rfl) (Nat.le_of_ble_eq_true rfl) (Nat.le_of_ble_eq_true rfl) dX9_rule_23 dX9_rule_26 dX9_rule_27 dX9_rule_29 dX9_rule_32 (jr1 h) (jt3 h))
  refine x_if_lt (tgt := 23) (pc := 6) hC dX9_rule_6 (by decide) (fun hc => ?_) (fun hc => ?_)
  · replace h := jit_pos hc h
    exact Hk3 h
  · replace h := jit_neg hc h
    refine x_iload_n (pc := 9) hC dX9_rule_9 rfl rfl ?_
    refine x_aloadA_n (pc := 10) hC dX9_rule_10 rfl rfl k_1 (by decide) ?_
    obtain ⟨hk4, h⟩ := jck_some h
    refine x_gr (pc := 11) (ji := 3) hC fl_X9_23 rfl ft9_3 k_1 dX9_rule_11 ?_
    refine x_gf (pc := 14) (b := ((M 1 3) + 7)) hC fl_X9_204 ft1_5 hk4 (by decide) (off := 7) (by decide +kernel) rfl dX9_rule_14 ?_
    refine x_gi (pc := 17) (ji := 0) hC fl_X9_208 rfl fn5_0 (ko1_5 hk4) dX9_rule_17 ?_
    refine x_icmp_lt (tgt := 33) (pc := 20) hC dX9_rule_20 (by decide) (fun hc => ?_) (fun hc => ?_)
    · replace h := jit_pos hc h
      refine x_aloadA_n (pc := 33) hC dX9_rule_33 rfl rfl k_1 (by decide) ?_
      refine x_gr (pc := 34) (ji := 3) hC fl_X9_23 rfl ft9_3 k_1 dX9_rule_34 ?_
      refine x_gf (pc := 37) (b := ((M 1 3) + 7)) hC fl_X9_204 ft1_5 hk4 (by decide) (off := 7) (by decide +kernel) rfl dX9_rule_37 ?_
      refine x_iload_n (pc := 40) hC dX9_rule_40 rfl rfl ?_
      refine x_aloadA_n (pc := 41) hC dX9_rule_41 rfl rfl k_1 (by decide) ?_
      refine x_iload_n (pc := 42) hC dX9_rule_42 rfl rfl ?_
      obtain ⟨v7, M6, e5, h⟩ := jbW_some h
      refine x_cV (pc := 43) hC mv_X9_121 (ok_X9_tallied hn e5) rfl (Nat.le_of_ble_eq_true rfl) k_1 rfl (by decide) (jRoT hR (Nat.le_of_ble_eq_true rfl) (Nat.le_of_ble_eq_true rfl)) (Nat.le_of_ble_eq_true rfl) dX9_rule_43 rfl ?_
      obtain ⟨hk8, h⟩ := jck_some h
      refine x_gf (pc := 46) (b := (v7 + 4)) hC fl_X9_191 ft8_12 hk8 (by decide) (off := 4) (by decide +kernel) rfl dX9_rule_46 ?_
      obtain ⟨v11, M10, e9, h⟩ := jbW_some h
      refine x_cV (pc := 49) hC mv_X9_211 (ok_X5_amount hn (ko1_5 hk4) (ko8_12 hk8) e9) rfl (Nat.le_of_ble_eq_true rfl) (ko1_5 hk4) rfl (by decide) (jRoT hR (Nat.le_of_ble_eq_true rfl) (Nat.le_of_ble_eq_true rfl)) (Nat.le_of_ble_eq_true rfl) dX9_rule_49 rfl ?_
      exact x_iretT (pc := 52) hC hR dX9_rule_52 (Nat.le_of_ble_eq_true rfl) (Nat.le_of_ble_eq_true rfl) (jr1 h) (jt2 h) (jt3 h)
    · replace h := jit_neg hc h
      exact Hk3 h

set_option maxHeartbeats 4000000 in
set_option maxRecDepth 20000 in
theorem ok_X9_rank {X : jX} {n : Nat} (hn : 179 ≤ n) {l1 : Int} {M : jM} {cz : Int} {rz : Int} {Mz : jM} (h : f_X9_rank l1 M = some (cz, rz, Mz)) : jCtT X n yX9_rank cX9_rank 2 (some .int) 7 1 [jA 1, jI l1] M cz (some (jI rz)) Mz := by
  refine jCtT_of (own := RX9) (ls := [jA 1, jI l1]) (by decide +kernel) rfl hn (Nat.le_of_ble_eq_true rfl) rfl ?_
  intro C hC hR
  unfold f_X9_rank at h
  refine x_aloadA_n (pc := 0) hC dX9_rank_0 rfl rfl k_1 (by decide) ?_
  refine x_iload_n (pc := 1) hC dX9_rank_1 rfl rfl ?_
  obtain ⟨c1, e2, h⟩ := jbR_some h
  refine x_cVT (pc := 2) hC hR mv_X9_89 (jTB_mem wm_1052 rfl) (ok_X9_wantSkater hn e2) rfl (Nat.le_of_ble_eq_true rfl) k_1 rfl (by decide) (Nat.le_of_ble_eq_true rfl) (Nat.le_of_ble_eq_true rfl) (Nat.le_of_ble_eq_true rfl) dX9_rank_2 rfl (fun hc => have h := jit_neg hc h; ⟨(jr1 h), (jt3 h)⟩) (kc2 := 1) (ks2 := 6) rfl rfl (fun hc => ?_)
  replace h := jit_pos hc h
  refine x_aloadA_n (pc := 5) hC dX9_rank_5 rfl rfl k_1 (by decide) ?_
  refine x_gf (pc := 6) (b := 110) hC fl_X9_44 ft9_6 k_1 (by decide) (off := 109) (by decide +kernel) (by decide) dX9_rank_6 ?_
  refine x_aloadA_n (pc := 9) hC dX9_rank_9 rfl rfl k_1 (by decide) ?_
  obtain ⟨hk3, h⟩ := jck_some h
  refine x_gr (pc := 10) (ji := 3) hC fl_X9_23 rfl ft9_3 k_1 dX9_rank_10 ?_
  refine x_sipush (pc := 13) hC dX9_rank_13 rfl ?_
  obtain ⟨M5, e4, h⟩ := jbV_some h
  refine x_cV (pc := 16) hC mv_X9_215 (ok_X7_weigh hn hk3 e4) rfl (Nat.le_of_ble_eq_true rfl) k_110 rfl (by decide) (jRoT hR (Nat.le_of_ble_eq_true rfl) (Nat.le_of_ble_eq_true rfl)) (Nat.le_of_ble_eq_true rfl) dX9_rank_16 rfl ?_
  refine x_aloadA_n (pc := 19) hC dX9_rank_19 rfl rfl k_1 (by decide) ?_
  refine x_gf (pc := 20) (b := 110) hC fl_X9_44 ft9_6 k_1 (by decide) (off := 109) (by decide +kernel) (by decide) dX9_rank_20 ?_
  refine x_iload_n (pc := 23) hC dX9_rank_23 rfl rfl ?_
  obtain ⟨v7, e6, h⟩ := jbR_some h
  refine x_cV (pc := 24) hC mv_X9_219 (ok_X7_rankOf hn e6) rfl (Nat.le_of_ble_eq_true rfl) k_110 rfl (by decide) (jRoT hR (Nat.le_of_ble_eq_true rfl) (Nat.le_of_ble_eq_true rfl)) (Nat.le_of_ble_eq_true rfl) dX9_rank_24 rfl ?_
  exact x_iretT (pc := 27) hC hR dX9_rank_27 (Nat.le_of_ble_eq_true rfl) (Nat.le_of_ble_eq_true rfl) (jr1 h) (jt2 h) (jt3 h)

set_option maxHeartbeats 4000000 in
set_option maxRecDepth 20000 in
theorem ok_X9_tell {X : jX} {n : Nat} (hn : 179 ≤ n) {l1 : Int} {l2 : Int} {l3 : Int} {l4 : Int} {M : jM} {cz : Int} {rz : Int} {Mz : jM} (h : f_X9_tell l1 l2 l3 l4 M = some (cz, rz, Mz)) : jCtT X n yX9_tell cX9_tell 5 (some .int) 8 4 [jA 1, jI l1, jI l2, jI l3, jI l4] M cz (some (jI rz)) Mz := by
  refine jCtT_of (own := RX9) (ls := [jA 1, jI l1, jI l2, jI l3, jI l4]) (by decide +kernel) rfl hn (Nat.le_of_ble_eq_true rfl) rfl ?_
  intro C hC hR
  unfold f_X9_tell at h
  refine x_aloadA_n (pc := 0) hC dX9_tell_0 rfl rfl k_1 (by decide) ?_
  refine x_iload_n (pc := 1) hC dX9_tell_1 rfl rfl ?_
  refine x_iload_n (pc := 2) hC dX9_tell_2 rfl rfl ?_
  obtain ⟨c1, e2, h⟩ := jbR_some h
  refine x_cVT (pc := 3) hC hR mv_X9_113 (jTB_mem wm_1112 rfl) (ok_X9_wantAttempt hn e2) rfl (Nat.le_of_ble_eq_true rfl) k_1 rfl (by decide) (Nat.le_of_ble_eq_true rfl) (Nat.le_of_ble_eq_true rfl) (Nat.le_of_ble_eq_true rfl) dX9_tell_3 rfl (fun hc => have h := jit_neg hc h; ⟨(jr1 h), (jt3 h)⟩) (kc2 := 2) (ks2 := 12) rfl rfl (fun hc => ?_)
  replace h := jit_pos hc h
  refine x_aloadA_n (pc := 6) hC dX9_tell_6 rfl rfl k_1 (by decide) ?_
  refine x_iload_n (pc := 7) hC dX9_tell_7 rfl rfl ?_
  obtain ⟨c3, e4, h⟩ := jbR_some h
  refine x_cVT (pc := 8) hC hR mv_X9_164 (jTB_mem wm_1147 rfl) (ok_X9_wantJudge hn e4) rfl (Nat.le_of_ble_eq_true rfl) k_1 rfl (by decide) (Nat.le_of_ble_eq_true rfl) (Nat.le_of_ble_eq_true rfl) (Nat.le_of_ble_eq_true rfl) dX9_tell_8 rfl (fun hc => have h := jit_neg hc h; ⟨(jr1 h), (jt3 h)⟩) (kc2 := 3) (ks2 := 18) rfl rfl (fun hc => ?_)
  replace h := jit_pos hc h
  refine x_iload (pc := 11) hC dX9_tell_11 rfl ?_
  refine x_bipush (pc := 13) hC dX9_tell_13 rfl ?_
  obtain ⟨k5, Hk5, h⟩ := jk_some (P := fun k5 => k5 = some (cz, rz, Mz) → jG C X n 5 3 18 24 [jA 1, jI l1, jI l2, jI l3, jI l4] [] M) h (by
    intro h
    exact x_throw (pc := 24) hC hR ex_1 sr_16 (Nat.le_of_ble_eq_true rfl) (Nat.le_of_ble_eq_true rfl) (Nat.le_of_ble_eq_true rfl) (Nat.le_of_ble_eq_true rfl) dX9_tell_24 dX9_tell_27 dX9_tell_28 dX9_tell_30 dX9_tell_33 (jr1 h) (jt3 h))
  refine x_icmp_lt (tgt := 24) (pc := 15) hC dX9_tell_15 (by decide) (fun hc => ?_) (fun hc => ?_)
  · replace h := jit_pos hc h
    exact Hk5 h
  · replace h := jit_neg hc h
    refine x_iload (pc := 18) hC dX9_tell_18 rfl ?_
    refine x_iconst (pc := 20) hC dX9_tell_20 ?_
    refine x_icmp_le (tgt := 34) (pc := 21) hC dX9_tell_21 (by decide) (fun hc => ?_) (fun hc => ?_)
    · replace h := jit_pos hc h
      refine x_aloadA_n (pc := 34) hC dX9_tell_34 rfl rfl k_1 (by decide) ?_
      refine x_iload_n (pc := 35) hC dX9_tell_35 rfl rfl ?_
      refine x_iload_n (pc := 36) hC dX9_tell_36 rfl rfl ?_
      refine x_iload_n (pc := 37) hC dX9_tell_37 rfl rfl ?_
      obtain ⟨v7, e6, h⟩ := jbR_some h
      refine x_cS (pc := 38) hC ms_X9_170 (ok_X9_voteOfGrade hn e6) rfl (Nat.le_of_ble_eq_true rfl) (jRoT hR (Nat.le_of_ble_eq_true rfl) (Nat.le_of_ble_eq_true rfl)) (Nat.le_of_ble_eq_true rfl) dX9_tell_38 rfl ?_
      refine x_iload (pc := 41) hC dX9_tell_41 rfl ?_
      obtain ⟨v10, M9, e8, h⟩ := jbW_some h
      refine x_cV (pc := 43) hC mv_X9_227 (ok_X9_tellVote hn e8) rfl (Nat.le_of_ble_eq_true rfl) k_1 rfl (by decide) (jRoT hR (Nat.le_of_ble_eq_true rfl) (Nat.le_of_ble_eq_true rfl)) (Nat.le_of_ble_eq_true rfl) dX9_tell_43 rfl ?_
      exact x_iretT (pc := 46) hC hR dX9_tell_46 (Nat.le_of_ble_eq_true rfl) (Nat.le_of_ble_eq_true rfl) (jr1 h) (jt2 h) (jt3 h)
    · replace h := jit_neg hc h
      exact Hk5 h

set_option maxHeartbeats 4000000 in
set_option maxRecDepth 20000 in
theorem ok_X9_show {X : jX} {n : Nat} (hn : 179 ≤ n) {l1 : Int} {l2 : Int} {l3 : Int} {l4 : Int} {M : jM} {cz : Int} {rz : Int} {Mz : jM} (h : f_X9_show l1 l2 l3 l4 M = some (cz, rz, Mz)) : jCtT X n yX9_show cX9_show 5 (some .int) 7 4 [jA 1, jI l1, jI l2, jI l3, jI l4] M cz (some (jI rz)) Mz := by
  refine jCtT_of (own := RX9) (ls := [jA 1, jI l1, jI l2, jI l3, jI l4]) (by decide +kernel) rfl hn (Nat.le_of_ble_eq_true rfl) rfl ?_
  intro C hC hR
  unfold f_X9_show at h
  refine x_aloadA_n (pc := 0) hC dX9_show_0 rfl rfl k_1 (by decide) ?_
  refine x_iload_n (pc := 1) hC dX9_show_1 rfl rfl ?_
  obtain ⟨c1, e2, h⟩ := jbR_some h
  refine x_cVT (pc := 2) hC hR mv_X9_89 (jTB_mem wm_1052 rfl) (ok_X9_wantSkater hn e2) rfl (Nat.le_of_ble_eq_true rfl) k_1 rfl (by decide) (Nat.le_of_ble_eq_true rfl) (Nat.le_of_ble_eq_true rfl) (Nat.le_of_ble_eq_true rfl) dX9_show_2 rfl (fun hc => have h := jit_neg hc h; ⟨(jr1 h), (jt3 h)⟩) (kc2 := 1) (ks2 := 6) rfl rfl (fun hc => ?_)
  replace h := jit_pos hc h
  refine x_aloadA_n (pc := 5) hC dX9_show_5 rfl rfl k_1 (by decide) ?_
  refine x_iload_n (pc := 6) hC dX9_show_6 rfl rfl ?_
  obtain ⟨c3, e4, h⟩ := jbR_some h
  refine x_cVT (pc := 7) hC hR mv_X9_176 (jTB_mem wm_1168 rfl) (ok_X9_wantComponent hn e4) rfl (Nat.le_of_ble_eq_true rfl) k_1 rfl (by decide) (Nat.le_of_ble_eq_true rfl) (Nat.le_of_ble_eq_true rfl) (Nat.le_of_ble_eq_true rfl) dX9_show_7 rfl (fun hc => have h := jit_neg hc h; ⟨(jr1 h), (jt3 h)⟩) (kc2 := 2) (ks2 := 12) rfl rfl (fun hc => ?_)
  replace h := jit_pos hc h
  refine x_aloadA_n (pc := 10) hC dX9_show_10 rfl rfl k_1 (by decide) ?_
  refine x_iload_n (pc := 11) hC dX9_show_11 rfl rfl ?_
  obtain ⟨c5, e6, h⟩ := jbR_some h
  refine x_cVT (pc := 12) hC hR mv_X9_164 (jTB_mem wm_1147 rfl) (ok_X9_wantJudge hn e6) rfl (Nat.le_of_ble_eq_true rfl) k_1 rfl (by decide) (Nat.le_of_ble_eq_true rfl) (Nat.le_of_ble_eq_true rfl) (Nat.le_of_ble_eq_true rfl) dX9_show_12 rfl (fun hc => have h := jit_neg hc h; ⟨(jr1 h), (jt3 h)⟩) (kc2 := 3) (ks2 := 18) rfl rfl (fun hc => ?_)
  replace h := jit_pos hc h
  refine x_iload (pc := 15) hC dX9_show_15 rfl ?_
  obtain ⟨k7, Hk7, h⟩ := jk_some (P := fun k7 => k7 = some (cz, rz, Mz) → jG C X n 5 3 18 27 [jA 1, jI l1, jI l2, jI l3, jI l4] [] M) h (by
    intro h
    exact x_throw (pc := 27) hC hR ex_1 sr_17 (Nat.le_of_ble_eq_true rfl) (Nat.le_of_ble_eq_true rfl) (Nat.le_of_ble_eq_true rfl) (Nat.le_of_ble_eq_true rfl) dX9_show_27 dX9_show_30 dX9_show_31 dX9_show_33 dX9_show_36 (jr1 h) (jt3 h))
  refine x_if_lt (tgt := 27) (pc := 17) hC dX9_show_17 (by decide) (fun hc => ?_) (fun hc => ?_)
  · replace h := jit_pos hc h
    exact Hk7 h
  · replace h := jit_neg hc h
    refine x_iload (pc := 20) hC dX9_show_20 rfl ?_
    refine x_bipush (pc := 22) hC dX9_show_22 rfl ?_
    refine x_icmp_le (tgt := 37) (pc := 24) hC dX9_show_24 (by decide) (fun hc => ?_) (fun hc => ?_)
    · replace h := jit_pos hc h
      refine x_aloadA_n (pc := 37) hC dX9_show_37 rfl rfl k_1 (by decide) ?_
      refine x_iload_n (pc := 38) hC dX9_show_38 rfl rfl ?_
      refine x_iload_n (pc := 39) hC dX9_show_39 rfl rfl ?_
      refine x_iload_n (pc := 40) hC dX9_show_40 rfl rfl ?_
      obtain ⟨v9, e8, h⟩ := jbR_some h
      refine x_cS (pc := 41) hC ms_X9_179 (ok_X9_voteOfMark hn e8) rfl (Nat.le_of_ble_eq_true rfl) (jRoT hR (Nat.le_of_ble_eq_true rfl) (Nat.le_of_ble_eq_true rfl)) (Nat.le_of_ble_eq_true rfl) dX9_show_41 rfl ?_
      refine x_iload (pc := 44) hC dX9_show_44 rfl ?_
      obtain ⟨v12, M11, e10, h⟩ := jbW_some h
      refine x_cV (pc := 46) hC mv_X9_227 (ok_X9_tellVote hn e10) rfl (Nat.le_of_ble_eq_true rfl) k_1 rfl (by decide) (jRoT hR (Nat.le_of_ble_eq_true rfl) (Nat.le_of_ble_eq_true rfl)) (Nat.le_of_ble_eq_true rfl) dX9_show_46 rfl ?_
      exact x_iretT (pc := 49) hC hR dX9_show_49 (Nat.le_of_ble_eq_true rfl) (Nat.le_of_ble_eq_true rfl) (jr1 h) (jt2 h) (jt3 h)
    · replace h := jit_neg hc h
      exact Hk7 h

set_option maxHeartbeats 4000000 in
set_option maxRecDepth 20000 in
theorem ok_X9_call {X : jX} {n : Nat} (hn : 179 ≤ n) {l1 : Int} {l2 : Int} {l3 : Int} {l4 : Int} {M : jM} {cz : Int} {rz : Int} {Mz : jM} (h : f_X9_call l1 l2 l3 l4 M = some (cz, rz, Mz)) : jCtT X n yX9_call cX9_call 8 (some .boolean) 8 3 [jA 1, jI l1, jI l2, jI l3, jI l4] M cz (some (jI rz)) Mz := by
  refine jCtT_of (own := RX9) (ls := [jA 1, jI l1, jI l2, jI l3, jI l4, jN, jN, jN]) (by decide +kernel) rfl hn (Nat.le_of_ble_eq_true rfl) rfl ?_
  intro C hC hR
  unfold f_X9_call at h
  refine x_aloadA_n (pc := 0) hC dX9_call_0 rfl rfl k_1 (by decide) ?_
  refine x_iload_n (pc := 1) hC dX9_call_1 rfl rfl ?_
  refine x_iload_n (pc := 2) hC dX9_call_2 rfl rfl ?_
  obtain ⟨c1, e2, h⟩ := jbR_some h
  refine x_cVT (pc := 3) hC hR mv_X9_113 (jTB_mem wm_1112 rfl) (ok_X9_wantAttempt hn e2) rfl (Nat.le_of_ble_eq_true rfl) k_1 rfl (by decide) (Nat.le_of_ble_eq_true rfl) (Nat.le_of_ble_eq_true rfl) (Nat.le_of_ble_eq_true rfl) dX9_call_3 rfl (fun hc => have h := jit_neg hc h; ⟨(jr1 h), (jt3 h)⟩) (kc2 := 2) (ks2 := 12) rfl rfl (fun hc => ?_)
  replace h := jit_pos hc h
  refine x_iload_n (pc := 6) hC dX9_call_6 rfl rfl ?_
  obtain ⟨k3, Hk3, h⟩ := jk_some (P := fun k3 => k3 = some (cz, rz, Mz) → jG C X n 8 2 12 15 [jA 1, jI l1, jI l2, jI l3, jI l4, jN, jN, jN] [] M) h (by
    intro h
    exact x_throw (pc := 15) hC hR ex_1 sr_18 (Nat.le_of_ble_eq_true rfl) (Nat.le_of_ble_eq_true rfl) (Nat.le_of_ble_eq_true rfl) (Nat.le_of_ble_eq_true rfl) dX9_call_15 dX9_call_18 dX9_call_19 dX9_call_21 dX9_call_24 (jr1 h) (jt3 h))
  refine x_if_lt (tgt := 15) (pc := 7) hC dX9_call_7 (by decide) (fun hc => ?_) (fun hc => ?_)
  · replace h := jit_pos hc h
    exact Hk3 h
  · replace h := jit_neg hc h
    refine x_iload_n (pc := 10) hC dX9_call_10 rfl rfl ?_
    refine x_iconst (pc := 11) hC dX9_call_11 ?_
    refine x_icmp_lt (tgt := 25) (pc := 12) hC dX9_call_12 (by decide) (fun hc => ?_) (fun hc => ?_)
    · replace h := jit_pos hc h
      refine x_aloadA_n (pc := 25) hC dX9_call_25 rfl rfl k_1 (by decide) ?_
      obtain ⟨hk4, h⟩ := jck_some h
      refine x_gr (pc := 26) (ji := 3) hC fl_X9_23 rfl ft9_3 k_1 dX9_call_26 ?_
      refine x_gf (pc := 29) (b := ((M 1 3) + 16)) hC fl_X9_117 ft1_7 hk4 (by decide) (off := 16) (by decide +kernel) rfl dX9_call_29 ?_
      refine x_iload_n (pc := 32) hC dX9_call_32 rfl rfl ?_
      obtain ⟨hb5, h⟩ := jck_some h
      refine x_aald14 (pc := 33) hC (ko1_7 hk4) hb5 rfl dX9_call_33 ?_
      refine x_gf (pc := 34) (b := ((((M 1 3) + 16) + 1 + 6 * jw l1) + 4)) hC fl_X9_136 ft6_6 (jsk (ko1_7 hk4) hb5.1 hb5.2) (by decide) (off := 4) (by decide +kernel) rfl dX9_call_34 ?_
      refine x_astoreA (ls2 := [jA 1, jI l1, jI l2, jI l3, jI l4, jA ((((M 1 3) + 16) + 1 + 6 * jw l1) + 4), jN, jN]) (pc := 37) hC dX9_call_37 (by decide) rfl (ko6_6 (jsk (ko1_7 hk4) hb5.1 hb5.2)) (by decide) rfl ?_
      refine x_aloadA (pc := 39) hC dX9_call_39 rfl (ko6_6 (jsk (ko1_7 hk4) hb5.1 hb5.2)) (by decide) ?_
      refine x_iload_n (pc := 41) hC dX9_call_41 rfl rfl ?_
      obtain ⟨hb6, h⟩ := jck_some h
      refine x_iald (pc := 42) hC (ko6_6 (jsk (ko1_7 hk4) hb5.1 hb5.2)) (by rw [lo6_6 (jsk (ko1_7 hk4) hb5.1 hb5.2)]; exact hb6) dX9_call_42 ?_
      obtain ⟨l6_7, el6_7, h⟩ := jlet_some h
      refine x_istore (ls2 := [jA 1, jI l1, jI l2, jI l3, jI l4, jA ((((M 1 3) + 16) + 1 + 6 * jw l1) + 4), jI l6_7, jN]) (pc := 43) hC dX9_call_43 (by decide) rfl el6_7 rfl ?_
      refine x_iconst (pc := 45) hC dX9_call_45 ?_
      refine x_iload_n (pc := 46) hC dX9_call_46 rfl rfl ?_
      refine x_ishl (pc := 47) hC dX9_call_47 ?_
      obtain ⟨l7_8, el7_8, h⟩ := jlet_some h
      refine x_istore (ls2 := [jA 1, jI l1, jI l2, jI l3, jI l4, jA ((((M 1 3) + 16) + 1 + 6 * jw l1) + 4), jI l6_7, jI l7_8]) (pc := 48) hC dX9_call_48 (by decide) rfl el7_8 rfl ?_
      refine x_aloadA_n (pc := 50) hC dX9_call_50 rfl rfl k_1 (by decide) ?_
      refine x_gf (pc := 51) (b := 159) hC fl_X9_51 ft9_7 k_1 (by decide) (off := 158) (by decide +kernel) (by decide) dX9_call_51 ?_
      refine x_iconst (pc := 54) hC dX9_call_54 ?_
      refine x_iload_n (pc := 55) hC dX9_call_55 rfl rfl ?_
      refine x_iload_n (pc := 56) hC dX9_call_56 rfl rfl ?_
      refine x_iload (pc := 57) hC dX9_call_57 rfl ?_
      obtain ⟨M10, e9, h⟩ := jbV_some h
      refine x_cV (pc := 59) hC mv_X9_235 (ok_X0_keep hn e9) rfl (Nat.le_of_ble_eq_true rfl) k_159 rfl (by decide) (jRoT hR (Nat.le_of_ble_eq_true rfl) (Nat.le_of_ble_eq_true rfl)) (Nat.le_of_ble_eq_true rfl) dX9_call_59 rfl ?_
      refine x_aloadA (pc := 62) hC dX9_call_62 rfl (ko6_6 (jsk (ko1_7 hk4) hb5.1 hb5.2)) (by decide) ?_
      refine x_iload_n (pc := 64) hC dX9_call_64 rfl rfl ?_
      refine x_iload (pc := 65) hC dX9_call_65 rfl ?_
      obtain ⟨k12, Hk12, h⟩ := jk_some (P := fun k12 => ∀ (s2_11 : Int), k12 s2_11 = some (cz, rz, Mz) → jG C X n 8 2 12 85 [jA 1, jI l1, jI l2, jI l3, jI l4, jA ((((M 1 3) + 16) + 1 + 6 * jw l1) + 4), jI l6_7, jI l7_8] [jI s2_11, jI l2, jA ((((M 1 3) + 16) + 1 + 6 * jw l1) + 4)] M10) h (by
        intro s2_11 h
        obtain ⟨hb13, h⟩ := jck_some h
        obtain ⟨M14, eM14, h⟩ := jlet_some h
        refine x_iast (pc := 85) hC (ko6_6 (jsk (ko1_7 hk4) hb5.1 hb5.2)) (by rw [lo6_6 (jsk (ko1_7 hk4) hb5.1 hb5.2)]; exact hb13) dX9_call_85 eM14 ?_
        refine x_iload (pc := 86) hC dX9_call_86 rfl ?_
        refine x_iload (pc := 88) hC dX9_call_88 rfl ?_
        refine x_iand (pc := 90) hC dX9_call_90 ?_
        refine x_if_eq (tgt := 98) (pc := 91) hC dX9_call_91 (by decide) (fun hc => ?_) (fun hc => ?_)
        · replace h := jit_pos hc h
          refine x_iconst (pc := 98) hC dX9_call_98 ?_
          exact x_zretT (pc := 99) hC hR dX9_call_99 (Nat.le_of_ble_eq_true rfl) (Nat.le_of_ble_eq_true rfl) (Or.inl jw0) (jr1 h) (jt2 h) (jt3 h)
        · replace h := jit_neg hc h
          refine x_iconst (pc := 94) hC dX9_call_94 ?_
          refine x_goto (tgt := 99) (pc := 95) hC dX9_call_95 (by decide) ?_
          exact x_zretT (pc := 99) hC hR dX9_call_99 (Nat.le_of_ble_eq_true rfl) (Nat.le_of_ble_eq_true rfl) (Or.inr jw1) (jr1 h) (jt2 h) (jt3 h))
      refine x_if_eq (tgt := 78) (pc := 67) hC dX9_call_67 (by decide) (fun hc => ?_) (fun hc => ?_)
      · replace h := jit_pos hc h
        refine x_iload (pc := 78) hC dX9_call_78 rfl ?_
        refine x_iload (pc := 80) hC dX9_call_80 rfl ?_
        refine x_iconst (pc := 82) hC dX9_call_82 ?_
        refine x_ixor (pc := 83) hC dX9_call_83 ?_
        refine x_iand (pc := 84) hC dX9_call_84 ?_
        exact Hk12 _ h
      · replace h := jit_neg hc h
        refine x_iload (pc := 70) hC dX9_call_70 rfl ?_
        refine x_iload (pc := 72) hC dX9_call_72 rfl ?_
        refine x_ior (pc := 74) hC dX9_call_74 ?_
        refine x_goto (tgt := 85) (pc := 75) hC dX9_call_75 (by decide) ?_
        exact Hk12 _ h
    · replace h := jit_neg hc h
      exact Hk3 h

set_option maxHeartbeats 4000000 in
set_option maxRecDepth 20000 in
theorem ok_X9_base {X : jX} {n : Nat} (hn : 179 ≤ n) {l1 : Int} {l2 : Int} {M : jM} {cz : Int} {rz : Int} {Mz : jM} (h : f_X9_base l1 l2 M = some (cz, rz, Mz)) : jCtT X n yX9_base cX9_base 4 (some .int) 7 2 [jA 1, jI l1, jI l2] M cz (some (jI rz)) Mz := by
  refine jCtT_of (own := RX9) (ls := [jA 1, jI l1, jI l2, jN]) (by decide +kernel) rfl hn (Nat.le_of_ble_eq_true rfl) rfl ?_
  intro C hC hR
  unfold f_X9_base at h
  refine x_aloadA_n (pc := 0) hC dX9_base_0 rfl rfl k_1 (by decide) ?_
  refine x_iload_n (pc := 1) hC dX9_base_1 rfl rfl ?_
  obtain ⟨c1, e2, h⟩ := jbR_some h
  refine x_cVT (pc := 2) hC hR mv_X9_96 (jTB_mem wm_1076 rfl) (ok_X9_wantElement hn e2) rfl (Nat.le_of_ble_eq_true rfl) k_1 rfl (by decide) (Nat.le_of_ble_eq_true rfl) (Nat.le_of_ble_eq_true rfl) (Nat.le_of_ble_eq_true rfl) dX9_base_2 rfl (fun hc => have h := jit_neg hc h; ⟨(jr1 h), (jt3 h)⟩) (kc2 := 1) (ks2 := 6) rfl rfl (fun hc => ?_)
  replace h := jit_pos hc h
  refine x_iload_n (pc := 5) hC dX9_base_5 rfl rfl ?_
  obtain ⟨k3, Hk3, h⟩ := jk_some (P := fun k3 => k3 = some (cz, rz, Mz) → jG C X n 4 1 6 16 [jA 1, jI l1, jI l2, jN] [] M) h (by
    intro h
    exact x_throw (pc := 16) hC hR ex_1 sr_19 (Nat.le_of_ble_eq_true rfl) (Nat.le_of_ble_eq_true rfl) (Nat.le_of_ble_eq_true rfl) (Nat.le_of_ble_eq_true rfl) dX9_base_16 dX9_base_19 dX9_base_20 dX9_base_22 dX9_base_25 (jr1 h) (jt3 h))
  refine x_if_lt (tgt := 16) (pc := 6) hC dX9_base_6 (by decide) (fun hc => ?_) (fun hc => ?_)
  · replace h := jit_pos hc h
    exact Hk3 h
  · replace h := jit_neg hc h
    refine x_iload_n (pc := 9) hC dX9_base_9 rfl rfl ?_
    refine x_sipush (pc := 10) hC dX9_base_10 rfl ?_
    refine x_icmp_le (tgt := 26) (pc := 13) hC dX9_base_13 (by decide) (fun hc => ?_) (fun hc => ?_)
    · replace h := jit_pos hc h
      refine x_aloadA_n (pc := 26) hC dX9_base_26 rfl rfl k_1 (by decide) ?_
      obtain ⟨hk4, h⟩ := jck_some h
      refine x_gr (pc := 27) (ji := 3) hC fl_X9_23 rfl ft9_3 k_1 dX9_base_27 ?_
      refine x_gf (pc := 30) (b := ((M 1 3) + 5)) hC fl_X9_102 ft1_3 hk4 (by decide) (off := 5) (by decide +kernel) rfl dX9_base_30 ?_
      refine x_iload_n (pc := 33) hC dX9_base_33 rfl rfl ?_
      obtain ⟨hb5, h⟩ := jck_some h
      refine x_iald (pc := 34) hC (ko1_3 hk4) (by rw [lo1_3 hk4]; exact hb5) dX9_base_34 ?_
      obtain ⟨l3_6, el3_6, h⟩ := jlet_some h
      refine x_istore_n (ls2 := [jA 1, jI l1, jI l2, jI l3_6]) (pc := 35) hC dX9_base_35 rfl (by decide) rfl el3_6 rfl ?_
      refine x_aloadA_n (pc := 36) hC dX9_base_36 rfl rfl k_1 (by decide) ?_
      refine x_gf (pc := 37) (b := 159) hC fl_X9_51 ft9_7 k_1 (by decide) (off := 158) (by decide +kernel) (by decide) dX9_base_37 ?_
      refine x_iconst (pc := 40) hC dX9_base_40 ?_
      refine x_iconst (pc := 41) hC dX9_base_41 ?_
      refine x_iload_n (pc := 42) hC dX9_base_42 rfl rfl ?_
      refine x_iload_n (pc := 43) hC dX9_base_43 rfl rfl ?_
      obtain ⟨M8, e7, h⟩ := jbV_some h
      refine x_cV (pc := 44) hC mv_X9_235 (ok_X0_keep hn e7) rfl (Nat.le_of_ble_eq_true rfl) k_159 rfl (by decide) (jRoT hR (Nat.le_of_ble_eq_true rfl) (Nat.le_of_ble_eq_true rfl)) (Nat.le_of_ble_eq_true rfl) dX9_base_44 rfl ?_
      refine x_aloadA_n (pc := 47) hC dX9_base_47 rfl rfl k_1 (by decide) ?_
      obtain ⟨hk9, h⟩ := jck_some h
      refine x_gr (pc := 48) (ji := 3) hC fl_X9_23 rfl ft9_3 k_1 dX9_base_48 ?_
      refine x_gf (pc := 51) (b := ((M8 1 3) + 5)) hC fl_X9_102 ft1_3 hk9 (by decide) (off := 5) (by decide +kernel) rfl dX9_base_51 ?_
      refine x_iload_n (pc := 54) hC dX9_base_54 rfl rfl ?_
      refine x_iload_n (pc := 55) hC dX9_base_55 rfl rfl ?_
      obtain ⟨hb10, h⟩ := jck_some h
      obtain ⟨M11, eM11, h⟩ := jlet_some h
      refine x_iast (pc := 56) hC (ko1_3 hk9) (by rw [lo1_3 hk9]; exact hb10) dX9_base_56 eM11 ?_
      refine x_iload_n (pc := 57) hC dX9_base_57 rfl rfl ?_
      exact x_iretT (pc := 58) hC hR dX9_base_58 (Nat.le_of_ble_eq_true rfl) (Nat.le_of_ble_eq_true rfl) (jr1 h) (jt2 h) (jt3 h)
    · replace h := jit_neg hc h
      exact Hk3 h

set_option maxHeartbeats 4000000 in
set_option maxRecDepth 20000 in
theorem ok_X9_set {X : jX} {n : Nat} (hn : 179 ≤ n) {l1 : Int} {l2 : Int} {M : jM} {cz : Int} {rz : Int} {Mz : jM} (h : f_X9_set l1 l2 M = some (cz, rz, Mz)) : jCtT X n yX9_set cX9_set 4 (some .int) 6 1 [jA 1, jI l1, jI l2] M cz (some (jI rz)) Mz := by
  refine jCtT_of (own := RX9) (ls := [jA 1, jI l1, jI l2, jN]) (by decide +kernel) rfl hn (Nat.le_of_ble_eq_true rfl) rfl ?_
  intro C hC hR
  unfold f_X9_set at h
  refine x_iload_n (pc := 0) hC dX9_set_0 rfl rfl ?_
  obtain ⟨k1, Hk1, h⟩ := jk_some (P := fun k1 => k1 = some (cz, rz, Mz) → jG C X n 4 0 0 10 [jA 1, jI l1, jI l2, jN] [] M) h (by
    intro h
    exact x_throw3 (pc := 10) hC hR ex_3 sr_20 (Nat.le_of_ble_eq_true rfl) (Nat.le_of_ble_eq_true rfl) (Nat.le_of_ble_eq_true rfl) (Nat.le_of_ble_eq_true rfl) dX9_set_10 dX9_set_13 dX9_set_14 dX9_set_16 dX9_set_19 (jr1 h) (jt3 h))
  refine x_if_lt (tgt := 10) (pc := 1) hC dX9_set_1 (by decide) (fun hc => ?_) (fun hc => ?_)
  · replace h := jit_pos hc h
    exact Hk1 h
  · replace h := jit_neg hc h
    refine x_iload_n (pc := 4) hC dX9_set_4 rfl rfl ?_
    refine x_bipush (pc := 5) hC dX9_set_5 rfl ?_
    refine x_icmp_lt (tgt := 20) (pc := 7) hC dX9_set_7 (by decide) (fun hc => ?_) (fun hc => ?_)
    · replace h := jit_pos hc h
      refine x_iload_n (pc := 20) hC dX9_set_20 rfl rfl ?_
      refine x_gst (pc := 21) hC (k := 0) (by decide) sl_X9_243 dX9_set_21 ?_
      refine x_iload_n (pc := 24) hC dX9_set_24 rfl rfl ?_
      obtain ⟨hb2, h⟩ := jck_some h
      refine x_tald (pc := 25) hC (k := 0) (by decide) hb2 dX9_set_25 ?_
      obtain ⟨k3, Hk3, h⟩ := jk_some (P := fun k3 => k3 = some (cz, rz, Mz) → jG C X n 4 0 0 38 [jA 1, jI l1, jI l2, jN] [] M) h (by
        intro h
        exact x_throw (pc := 38) hC hR ex_1 sr_21 (Nat.le_of_ble_eq_true rfl) (Nat.le_of_ble_eq_true rfl) (Nat.le_of_ble_eq_true rfl) (Nat.le_of_ble_eq_true rfl) dX9_set_38 dX9_set_41 dX9_set_42 dX9_set_44 dX9_set_47 (jr1 h) (jt3 h))
      refine x_icmp_lt (tgt := 38) (pc := 26) hC dX9_set_26 (by decide) (fun hc => ?_) (fun hc => ?_)
      · replace h := jit_pos hc h
        exact Hk3 h
      · replace h := jit_neg hc h
        refine x_iload_n (pc := 29) hC dX9_set_29 rfl rfl ?_
        refine x_gst (pc := 30) hC (k := 1) (by decide) sl_X9_246 dX9_set_30 ?_
        refine x_iload_n (pc := 33) hC dX9_set_33 rfl rfl ?_
        obtain ⟨hb4, h⟩ := jck_some h
        refine x_tald (pc := 34) hC (k := 1) (by decide) hb4 dX9_set_34 ?_
        refine x_icmp_le (tgt := 48) (pc := 35) hC dX9_set_35 (by decide) (fun hc => ?_) (fun hc => ?_)
        · replace h := jit_pos hc h
          refine x_aloadA_n (pc := 48) hC dX9_set_48 rfl rfl k_1 (by decide) ?_
          obtain ⟨hk5, h⟩ := jck_some h
          refine x_gr (pc := 49) (ji := 3) hC fl_X9_23 rfl ft9_3 k_1 dX9_set_49 ?_
          refine x_gf (pc := 52) (b := ((M 1 3) + 1)) hC fl_X9_251 ft1_1 hk5 (by decide) (off := 1) (by decide +kernel) rfl dX9_set_52 ?_
          refine x_iload_n (pc := 55) hC dX9_set_55 rfl rfl ?_
          obtain ⟨hb6, h⟩ := jck_some h
          refine x_iald (pc := 56) hC (ko1_1 hk5) (by rw [lo1_1 hk5]; exact hb6) dX9_set_56 ?_
          obtain ⟨l3_7, el3_7, h⟩ := jlet_some h
          refine x_istore_n (ls2 := [jA 1, jI l1, jI l2, jI l3_7]) (pc := 57) hC dX9_set_57 rfl (by decide) rfl el3_7 rfl ?_
          refine x_aloadA_n (pc := 58) hC dX9_set_58 rfl rfl k_1 (by decide) ?_
          refine x_gf (pc := 59) (b := 159) hC fl_X9_51 ft9_7 k_1 (by decide) (off := 158) (by decide +kernel) (by decide) dX9_set_59 ?_
          refine x_iconst (pc := 62) hC dX9_set_62 ?_
          refine x_iconst (pc := 63) hC dX9_set_63 ?_
          refine x_iload_n (pc := 64) hC dX9_set_64 rfl rfl ?_
          refine x_iload_n (pc := 65) hC dX9_set_65 rfl rfl ?_
          obtain ⟨M9, e8, h⟩ := jbV_some h
          refine x_cV (pc := 66) hC mv_X9_235 (ok_X0_keep hn e8) rfl (Nat.le_of_ble_eq_true rfl) k_159 rfl (by decide) (jRoT hR (Nat.le_of_ble_eq_true rfl) (Nat.le_of_ble_eq_true rfl)) (Nat.le_of_ble_eq_true rfl) dX9_set_66 rfl ?_
          refine x_aloadA_n (pc := 69) hC dX9_set_69 rfl rfl k_1 (by decide) ?_
          obtain ⟨hk10, h⟩ := jck_some h
          refine x_gr (pc := 70) (ji := 3) hC fl_X9_23 rfl ft9_3 k_1 dX9_set_70 ?_
          refine x_gf (pc := 73) (b := ((M9 1 3) + 1)) hC fl_X9_251 ft1_1 hk10 (by decide) (off := 1) (by decide +kernel) rfl dX9_set_73 ?_
          refine x_iload_n (pc := 76) hC dX9_set_76 rfl rfl ?_
          refine x_iload_n (pc := 77) hC dX9_set_77 rfl rfl ?_
          obtain ⟨hb11, h⟩ := jck_some h
          obtain ⟨M12, eM12, h⟩ := jlet_some h
          refine x_iast (pc := 78) hC (ko1_1 hk10) (by rw [lo1_1 hk10]; exact hb11) dX9_set_78 eM12 ?_
          refine x_iload_n (pc := 79) hC dX9_set_79 rfl rfl ?_
          exact x_iretT (pc := 80) hC hR dX9_set_80 (Nat.le_of_ble_eq_true rfl) (Nat.le_of_ble_eq_true rfl) (jr1 h) (jt2 h) (jt3 h)
        · replace h := jit_neg hc h
          exact Hk3 h
    · replace h := jit_neg hc h
      exact Hk1 h

set_option maxHeartbeats 4000000 in
set_option maxRecDepth 20000 in
theorem ok_X9_scratch {X : jX} {n : Nat} (hn : 179 ≤ n) {l1 : Int} {l2 : Int} {M : jM} {cz : Int} {rz : Int} {Mz : jM} (h : f_X9_scratch l1 l2 M = some (cz, rz, Mz)) : jCtT X n yX9_scratch cX9_scratch 4 (some .int) 8 2 [jA 1, jI l1, jI l2] M cz (some (jI rz)) Mz := by
  refine jCtT_of (own := RX9) (ls := [jA 1, jI l1, jI l2, jN]) (by decide +kernel) rfl hn (Nat.le_of_ble_eq_true rfl) rfl ?_
  intro C hC hR
  unfold f_X9_scratch at h
  refine x_aloadA_n (pc := 0) hC dX9_scratch_0 rfl rfl k_1 (by decide) ?_
  refine x_iload_n (pc := 1) hC dX9_scratch_1 rfl rfl ?_
  refine x_iload_n (pc := 2) hC dX9_scratch_2 rfl rfl ?_
  obtain ⟨c1, e2, h⟩ := jbR_some h
  refine x_cVT (pc := 3) hC hR mv_X9_113 (jTB_mem wm_1112 rfl) (ok_X9_wantAttempt hn e2) rfl (Nat.le_of_ble_eq_true rfl) k_1 rfl (by decide) (Nat.le_of_ble_eq_true rfl) (Nat.le_of_ble_eq_true rfl) (Nat.le_of_ble_eq_true rfl) dX9_scratch_3 rfl (fun hc => have h := jit_neg hc h; ⟨(jr1 h), (jt3 h)⟩) (kc2 := 2) (ks2 := 12) rfl rfl (fun hc => ?_)
  replace h := jit_pos hc h
  refine x_aloadA_n (pc := 6) hC dX9_scratch_6 rfl rfl k_1 (by decide) ?_
  obtain ⟨hk3, h⟩ := jck_some h
  refine x_gr (pc := 7) (ji := 3) hC fl_X9_23 rfl ft9_3 k_1 dX9_scratch_7 ?_
  refine x_gf (pc := 10) (b := ((M 1 3) + 16)) hC fl_X9_117 ft1_7 hk3 (by decide) (off := 16) (by decide +kernel) rfl dX9_scratch_10 ?_
  refine x_iload_n (pc := 13) hC dX9_scratch_13 rfl rfl ?_
  obtain ⟨hb4, h⟩ := jck_some h
  refine x_aald14 (pc := 14) hC (ko1_7 hk3) hb4 rfl dX9_scratch_14 ?_
  refine x_astoreA_n (ls2 := [jA 1, jI l1, jI l2, jA (((M 1 3) + 16) + 1 + 6 * jw l1)]) (pc := 15) hC dX9_scratch_15 rfl (by decide) rfl (jsk (ko1_7 hk3) hb4.1 hb4.2) (by decide) rfl ?_
  refine x_aloadA_n (pc := 16) hC dX9_scratch_16 rfl rfl k_1 (by decide) ?_
  refine x_gf (pc := 17) (b := 159) hC fl_X9_51 ft9_7 k_1 (by decide) (off := 158) (by decide +kernel) (by decide) dX9_scratch_17 ?_
  refine x_iconst (pc := 20) hC dX9_scratch_20 ?_
  refine x_iload_n (pc := 21) hC dX9_scratch_21 rfl rfl ?_
  refine x_iconst (pc := 22) hC dX9_scratch_22 ?_
  refine x_aloadA_n (pc := 23) hC dX9_scratch_23 rfl rfl (jsk (ko1_7 hk3) hb4.1 hb4.2) (by decide) ?_
  refine x_gi (pc := 24) (ji := 1) hC fl_X9_254 rfl fn6_1 (jsk (ko1_7 hk3) hb4.1 hb4.2) dX9_scratch_24 ?_
  obtain ⟨M6, e5, h⟩ := jbV_some h
  refine x_cV (pc := 27) hC mv_X9_235 (ok_X0_keep hn e5) rfl (Nat.le_of_ble_eq_true rfl) k_159 rfl (by decide) (jRoT hR (Nat.le_of_ble_eq_true rfl) (Nat.le_of_ble_eq_true rfl)) (Nat.le_of_ble_eq_true rfl) dX9_scratch_27 rfl ?_
  refine x_aloadA_n (pc := 30) hC dX9_scratch_30 rfl rfl (jsk (ko1_7 hk3) hb4.1 hb4.2) (by decide) ?_
  refine x_dup (pc := 31) hC dX9_scratch_31 (show (2 : Nat) ≠ 3 by decide) ?_
  refine x_gi (pc := 32) (ji := 1) hC fl_X9_254 rfl fn6_1 (jsk (ko1_7 hk3) hb4.1 hb4.2) dX9_scratch_32 ?_
  refine x_iconst (pc := 35) hC dX9_scratch_35 ?_
  refine x_iload_n (pc := 36) hC dX9_scratch_36 rfl rfl ?_
  refine x_ishl (pc := 37) hC dX9_scratch_37 ?_
  refine x_ior (pc := 38) hC dX9_scratch_38 ?_
  obtain ⟨M7, eM7, h⟩ := jlet_some h
  refine x_pi (pc := 39) (ji := 1) hC fl_X9_254 rfl ft6_1 (jsk (ko1_7 hk3) hb4.1 hb4.2) dX9_scratch_39 eM7 ?_
  refine x_aloadA_n (pc := 42) hC dX9_scratch_42 rfl rfl (jsk (ko1_7 hk3) hb4.1 hb4.2) (by decide) ?_
  obtain ⟨v9, e8, h⟩ := jbR_some h
  refine x_cV (pc := 43) hC mv_X9_257 (ok_X6_left hn (jsk (ko1_7 hk3) hb4.1 hb4.2) e8) rfl (Nat.le_of_ble_eq_true rfl) (jsk (ko1_7 hk3) hb4.1 hb4.2) rfl (by decide) (jRoT hR (Nat.le_of_ble_eq_true rfl) (Nat.le_of_ble_eq_true rfl)) (Nat.le_of_ble_eq_true rfl) dX9_scratch_43 rfl ?_
  exact x_iretT (pc := 46) hC hR dX9_scratch_46 (Nat.le_of_ble_eq_true rfl) (Nat.le_of_ble_eq_true rfl) (jr1 h) (jt2 h) (jt3 h)

set_option maxHeartbeats 4000000 in
set_option maxRecDepth 20000 in
theorem ok_X9_bias {X : jX} {n : Nat} (hn : 179 ≤ n) {l1 : Int} {M : jM} {cz : Int} {rz : Int} {Mz : jM} (h : f_X9_bias l1 M = some (cz, rz, Mz)) : jCtT X n yX9_bias cX9_bias 2 (some .int) 7 1 [jA 1, jI l1] M cz (some (jI rz)) Mz := by
  refine jCtT_of (own := RX9) (ls := [jA 1, jI l1]) (by decide +kernel) rfl hn (Nat.le_of_ble_eq_true rfl) rfl ?_
  intro C hC hR
  unfold f_X9_bias at h
  refine x_aloadA_n (pc := 0) hC dX9_bias_0 rfl rfl k_1 (by decide) ?_
  refine x_iload_n (pc := 1) hC dX9_bias_1 rfl rfl ?_
  obtain ⟨c1, e2, h⟩ := jbR_some h
  refine x_cVT (pc := 2) hC hR mv_X9_164 (jTB_mem wm_1147 rfl) (ok_X9_wantJudge hn e2) rfl (Nat.le_of_ble_eq_true rfl) k_1 rfl (by decide) (Nat.le_of_ble_eq_true rfl) (Nat.le_of_ble_eq_true rfl) (Nat.le_of_ble_eq_true rfl) dX9_bias_2 rfl (fun hc => have h := jit_neg hc h; ⟨(jr1 h), (jt3 h)⟩) (kc2 := 1) (ks2 := 6) rfl rfl (fun hc => ?_)
  replace h := jit_pos hc h
  refine x_aloadA_n (pc := 5) hC dX9_bias_5 rfl rfl k_1 (by decide) ?_
  refine x_gf (pc := 6) (b := 110) hC fl_X9_44 ft9_6 k_1 (by decide) (off := 109) (by decide +kernel) (by decide) dX9_bias_6 ?_
  refine x_aloadA_n (pc := 9) hC dX9_bias_9 rfl rfl k_1 (by decide) ?_
  obtain ⟨hk3, h⟩ := jck_some h
  refine x_gr (pc := 10) (ji := 3) hC fl_X9_23 rfl ft9_3 k_1 dX9_bias_10 ?_
  refine x_sipush (pc := 13) hC dX9_bias_13 rfl ?_
  obtain ⟨M5, e4, h⟩ := jbV_some h
  refine x_cV (pc := 16) hC mv_X9_215 (ok_X7_weigh hn hk3 e4) rfl (Nat.le_of_ble_eq_true rfl) k_110 rfl (by decide) (jRoT hR (Nat.le_of_ble_eq_true rfl) (Nat.le_of_ble_eq_true rfl)) (Nat.le_of_ble_eq_true rfl) dX9_bias_16 rfl ?_
  refine x_aloadA_n (pc := 19) hC dX9_bias_19 rfl rfl k_1 (by decide) ?_
  refine x_gf (pc := 20) (b := 110) hC fl_X9_44 ft9_6 k_1 (by decide) (off := 109) (by decide +kernel) (by decide) dX9_bias_20 ?_
  refine x_iload_n (pc := 23) hC dX9_bias_23 rfl rfl ?_
  obtain ⟨v7, e6, h⟩ := jbR_some h
  refine x_cV (pc := 24) hC mv_X9_265 (ok_X7_leaning hn e6) rfl (Nat.le_of_ble_eq_true rfl) k_110 rfl (by decide) (jRoT hR (Nat.le_of_ble_eq_true rfl) (Nat.le_of_ble_eq_true rfl)) (Nat.le_of_ble_eq_true rfl) dX9_bias_24 rfl ?_
  exact x_iretT (pc := 27) hC hR dX9_bias_27 (Nat.le_of_ble_eq_true rfl) (Nat.le_of_ble_eq_true rfl) (jr1 h) (jt2 h) (jt3 h)

set_option maxHeartbeats 4000000 in
set_option maxRecDepth 20000 in
theorem ok_X9_wantOtherJudge {X : jX} {n : Nat} (hn : 179 ≤ n) {M : jM} {cz : Int} (h : f_X9_wantOtherJudge M = some cz) : jCtT X n yX9_wantOtherJudge cX9_wantOtherJudge 1 (none) 6 1 [jA 1] M cz (none) M := by
  refine jCtT_of (own := RX9) (ls := [jA 1]) (by decide +kernel) rfl hn (Nat.le_of_ble_eq_true rfl) rfl ?_
  intro C hC hR
  unfold f_X9_wantOtherJudge at h
  refine x_aloadA_n (pc := 0) hC dX9_wantOtherJudge_0 rfl rfl k_1 (by decide) ?_
  obtain ⟨hk1, h⟩ := jck_some h
  refine x_gr (pc := 1) (ji := 3) hC fl_X9_23 rfl ft9_3 k_1 dX9_wantOtherJudge_1 ?_
  refine x_gi (pc := 4) (ji := 0) hC fl_X9_295 rfl fn1_0 hk1 dX9_wantOtherJudge_4 ?_
  refine x_iconst (pc := 7) hC dX9_wantOtherJudge_7 ?_
  refine x_icmp_ge (tgt := 22) (pc := 8) hC dX9_wantOtherJudge_8 (by decide) (fun hc => ?_) (fun hc => ?_)
  · replace h := jit_pos hc h
    exact x_vretT (pc := 22) hC hR dX9_wantOtherJudge_22 (Nat.le_of_ble_eq_true rfl) (Nat.le_of_ble_eq_true rfl) (jrR h) rfl
  · replace h := jit_neg hc h
    exact x_throwW (pc := 11) hC hR ex_4 sr_22 (Nat.le_of_ble_eq_true rfl) (Nat.le_of_ble_eq_true rfl) (Nat.le_of_ble_eq_true rfl) (Nat.le_of_ble_eq_true rfl) dX9_wantOtherJudge_11 dX9_wantOtherJudge_14 dX9_wantOtherJudge_15 dX9_wantOtherJudge_18 dX9_wantOtherJudge_21 (jrR h) rfl

set_option maxHeartbeats 4000000 in
set_option maxRecDepth 20000 in
theorem ok_X9_without {X : jX} {n : Nat} (hn : 179 ≤ n) {l1 : Int} {l2 : Int} {M : jM} {cz : Int} {rz : Int} {Mz : jM} (h : f_X9_without l1 l2 M = some (cz, rz, Mz)) : jCtT X n yX9_without cX9_without 3 (some .int) 7 3 [jA 1, jI l1, jI l2] M cz (some (jI rz)) Mz := by
  refine jCtT_of (own := RX9) (ls := [jA 1, jI l1, jI l2]) (by decide +kernel) rfl hn (Nat.le_of_ble_eq_true rfl) rfl ?_
  intro C hC hR
  unfold f_X9_without at h
  refine x_aloadA_n (pc := 0) hC dX9_without_0 rfl rfl k_1 (by decide) ?_
  refine x_iload_n (pc := 1) hC dX9_without_1 rfl rfl ?_
  obtain ⟨c1, e2, h⟩ := jbR_some h
  refine x_cVT (pc := 2) hC hR mv_X9_89 (jTB_mem wm_1052 rfl) (ok_X9_wantSkater hn e2) rfl (Nat.le_of_ble_eq_true rfl) k_1 rfl (by decide) (Nat.le_of_ble_eq_true rfl) (Nat.le_of_ble_eq_true rfl) (Nat.le_of_ble_eq_true rfl) dX9_without_2 rfl (fun hc => have h := jit_neg hc h; ⟨(jr1 h), (jt3 h)⟩) (kc2 := 1) (ks2 := 6) rfl rfl (fun hc => ?_)
  replace h := jit_pos hc h
  refine x_aloadA_n (pc := 5) hC dX9_without_5 rfl rfl k_1 (by decide) ?_
  refine x_iload_n (pc := 6) hC dX9_without_6 rfl rfl ?_
  obtain ⟨c3, e4, h⟩ := jbR_some h
  refine x_cVT (pc := 7) hC hR mv_X9_164 (jTB_mem wm_1147 rfl) (ok_X9_wantJudge hn e4) rfl (Nat.le_of_ble_eq_true rfl) k_1 rfl (by decide) (Nat.le_of_ble_eq_true rfl) (Nat.le_of_ble_eq_true rfl) (Nat.le_of_ble_eq_true rfl) dX9_without_7 rfl (fun hc => have h := jit_neg hc h; ⟨(jr1 h), (jt3 h)⟩) (kc2 := 2) (ks2 := 12) rfl rfl (fun hc => ?_)
  replace h := jit_pos hc h
  refine x_aloadA_n (pc := 10) hC dX9_without_10 rfl rfl k_1 (by decide) ?_
  obtain ⟨c5, e6, h⟩ := jbR_some h
  refine x_cVT (pc := 11) hC hR mv_X9_271 (jTB_mem wm_1289 rfl) (ok_X9_wantOtherJudge hn e6) rfl (Nat.le_of_ble_eq_true rfl) k_1 rfl (by decide) (Nat.le_of_ble_eq_true rfl) (Nat.le_of_ble_eq_true rfl) (Nat.le_of_ble_eq_true rfl) dX9_without_11 rfl (fun hc => have h := jit_neg hc h; ⟨(jr1 h), (jt3 h)⟩) (kc2 := 3) (ks2 := 18) rfl rfl (fun hc => ?_)
  replace h := jit_pos hc h
  refine x_aloadA_n (pc := 14) hC dX9_without_14 rfl rfl k_1 (by decide) ?_
  refine x_iload_n (pc := 15) hC dX9_without_15 rfl rfl ?_
  refine x_aloadA_n (pc := 16) hC dX9_without_16 rfl rfl k_1 (by decide) ?_
  obtain ⟨v8, e7, h⟩ := jbR_some h
  refine x_cV (pc := 17) hC mv_X9_152 (ok_X9_everyJudge hn e7) rfl (Nat.le_of_ble_eq_true rfl) k_1 rfl (by decide) (jRoT hR (Nat.le_of_ble_eq_true rfl) (Nat.le_of_ble_eq_true rfl)) (Nat.le_of_ble_eq_true rfl) dX9_without_17 rfl ?_
  refine x_iconst (pc := 20) hC dX9_without_20 ?_
  refine x_iload_n (pc := 21) hC dX9_without_21 rfl rfl ?_
  refine x_ishl (pc := 22) hC dX9_without_22 ?_
  refine x_iconst (pc := 23) hC dX9_without_23 ?_
  refine x_ixor (pc := 24) hC dX9_without_24 ?_
  refine x_iand (pc := 25) hC dX9_without_25 ?_
  obtain ⟨v11, M10, e9, h⟩ := jbW_some h
  refine x_cV (pc := 26) hC mv_X9_274 (ok_X9_totalBy hn e9) rfl (Nat.le_of_ble_eq_true rfl) k_1 rfl (by decide) (jRoT hR (Nat.le_of_ble_eq_true rfl) (Nat.le_of_ble_eq_true rfl)) (Nat.le_of_ble_eq_true rfl) dX9_without_26 rfl ?_
  exact x_iretT (pc := 29) hC hR dX9_without_29 (Nat.le_of_ble_eq_true rfl) (Nat.le_of_ble_eq_true rfl) (jr1 h) (jt2 h) (jt3 h)

