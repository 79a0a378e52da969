/-! ===== the machine does what the functions say; by program ===== -/
set_option maxHeartbeats 4000000 in
set_option maxRecDepth 20000 in
theorem ok_X10_stoodAhead {X : jX} {n : Nat} (hn : 179 ≤ n) {l1 : Int} {l2 : Int} {l3 : Int} {M : jM} {rz : Int} (h : f_X10_stoodAhead l1 l2 l3 M = some rz) : jCt X n yX10_stoodAhead cX10_stoodAhead 8 (some .int) 2 [jA 166, jI l1, jI l2, jI l3] M (some (jI rz)) M := by
  refine jCt_of (own := RX10) (ls := [jA 166, jI l1, jI l2, jI l3, jN, jN, jN, jN]) (by decide +kernel) rfl hn (Nat.le_of_ble_eq_true rfl) rfl ?_
  intro C hC hR
  unfold f_X10_stoodAhead at h
  refine x_iconst (pc := 0) hC dX10_stoodAhead_0 ?_
  refine x_istore (ls2 := [jA 166, jI l1, jI l2, jI l3, jI 0, jN, jN, jN]) (pc := 1) hC dX10_stoodAhead_1 (by decide) rfl rfl rfl ?_
  refine x_aloadA_n (pc := 3) hC dX10_stoodAhead_3 rfl rfl k_166 (by decide) ?_
  refine x_iload_n (pc := 4) hC dX10_stoodAhead_4 rfl rfl ?_
  refine x_iload_n (pc := 5) hC dX10_stoodAhead_5 rfl rfl ?_
  refine x_iload_n (pc := 6) hC dX10_stoodAhead_6 rfl rfl ?_
  obtain ⟨v2, e1, h⟩ := jbR_some h
  refine x_cV (pc := 7) hC mv_X10_293 (ok_X10_elementOf hn e1) rfl (Nat.le_of_ble_eq_true rfl) k_166 rfl (by decide) (jRo0 C) (Nat.le_of_ble_eq_true rfl) dX10_stoodAhead_7 rfl ?_
  refine x_istore (ls2 := [jA 166, jI l1, jI l2, jI l3, jI 0, jI v2, jN, jN]) (pc := 10) hC dX10_stoodAhead_10 (by decide) rfl rfl rfl ?_
  refine x_iconst (pc := 12) hC dX10_stoodAhead_12 ?_
  refine x_istore (ls2 := [jA 166, jI l1, jI l2, jI l3, jI 0, jI v2, jI 0, jN]) (pc := 13) hC dX10_stoodAhead_13 (by decide) rfl rfl rfl ?_
  refine jlp2_ind (P := fun (l4_3 : Int) (l6_4 : Int) => jG C X n 8 0 0 15 [jA 166, jI l1, jI l2, jI l3, jI l4_3, jI v2, jI l6_4, jN] [] M) ?_ _ _ _ h
  intro self5 l4_3 l6_4 Hself5 h
  refine x_iload (pc := 15) hC dX10_stoodAhead_15 rfl ?_
  refine x_iload_n (pc := 17) hC dX10_stoodAhead_17 rfl rfl ?_
  refine x_icmp_gt (tgt := 95) (pc := 18) hC dX10_stoodAhead_18 (by decide) (fun hc => ?_) (fun hc => ?_)
  · replace h := jit_pos hc h
    refine x_iload (pc := 95) hC dX10_stoodAhead_95 rfl ?_
    exact x_iret (pc := 97) hC hR dX10_stoodAhead_97 (jrR h) rfl
  · replace h := jit_neg hc h
    refine x_aloadA_n (pc := 21) hC dX10_stoodAhead_21 rfl rfl k_166 (by decide) ?_
    refine x_iload_n (pc := 22) hC dX10_stoodAhead_22 rfl rfl ?_
    refine x_iload (pc := 23) hC dX10_stoodAhead_23 rfl ?_
    obtain ⟨v7, e6, h⟩ := jbR_some h
    refine x_cV (pc := 25) hC mv_X10_322 (ok_X10_is hn e6) rfl (Nat.le_of_ble_eq_true rfl) k_166 rfl (by decide) (jRo0 C) (Nat.le_of_ble_eq_true rfl) dX10_stoodAhead_25 rfl ?_
    refine x_if_ne (tgt := 34) (pc := 28) hC dX10_stoodAhead_28 (by decide) (fun hc => ?_) (fun hc => ?_)
    · replace h := jit_neg hc h
      refine x_iconst (pc := 34) hC dX10_stoodAhead_34 ?_
      refine x_istore (ls2 := [jA 166, jI l1, jI l2, jI l3, jI l4_3, jI v2, jI l6_4, jI 0]) (pc := 35) hC dX10_stoodAhead_35 (by decide) rfl rfl rfl ?_
      refine jlp2_ind (P := fun (l4_8 : Int) (l7_9 : Int) => jG C X n 8 0 0 37 [jA 166, jI l1, jI l2, jI l3, jI l4_8, jI v2, jI l6_4, jI l7_9] [] M) ?_ _ _ _ h
      intro self10 l4_8 l7_9 Hself10 h
      refine x_iload (pc := 37) hC dX10_stoodAhead_37 rfl ?_
      refine x_iload (pc := 39) hC dX10_stoodAhead_39 rfl ?_
      refine x_iload_n (pc := 41) hC dX10_stoodAhead_41 rfl rfl ?_
      obtain ⟨k12, Hk12, h⟩ := jk_some (P := fun k12 => ∀ (s1_11 : Int), k12 s1_11 = some rz → jG C X n 8 0 0 56 [jA 166, jI l1, jI l2, jI l3, jI l4_8, jI v2, jI l6_4, jI l7_9] [jI s1_11, jI l7_9] M) h (by
        intro s1_11 h
        refine x_icmp_ge (tgt := 89) (pc := 56) hC dX10_stoodAhead_56 (by decide) (fun hc => ?_) (fun hc => ?_)
        · replace h := jit_pos hc h
          obtain ⟨l6_13, el6_13, h⟩ := jlet_some h
          refine x_iinc (ls2 := [jA 166, jI l1, jI l2, jI l3, jI l4_8, jI v2, jI l6_13, jI l7_9]) (pc := 89) hC dX10_stoodAhead_89 rfl (by decide) rfl el6_13 rfl ?_
          refine x_goto (tgt := 15) (pc := 92) hC dX10_stoodAhead_92 (by decide) ?_
          refine x_kill 7 (ls2 := [jA 166, jI l1, jI l2, jI l3, jI l4_8, jI v2, jI l6_13, jN]) rfl ?_
          exact Hself5 _ _ h
        · replace h := jit_neg hc h
          refine x_iload (pc := 59) hC dX10_stoodAhead_59 rfl ?_
          refine x_aloadA_n (pc := 61) hC dX10_stoodAhead_61 rfl rfl k_166 (by decide) ?_
          refine x_iload_n (pc := 62) hC dX10_stoodAhead_62 rfl rfl ?_
          refine x_iload (pc := 63) hC dX10_stoodAhead_63 rfl ?_
          refine x_iload (pc := 65) hC dX10_stoodAhead_65 rfl ?_
          obtain ⟨v15, e14, h⟩ := jbR_some h
          refine x_cV (pc := 67) hC mv_X10_293 (ok_X10_elementOf hn e14) rfl (Nat.le_of_ble_eq_true rfl) k_166 rfl (by decide) (jRo0 C) (Nat.le_of_ble_eq_true rfl) dX10_stoodAhead_67 rfl ?_
          refine x_iload (pc := 70) hC dX10_stoodAhead_70 rfl ?_
          obtain ⟨k17, Hk17, h⟩ := jk_some (P := fun k17 => ∀ (s1_16 : Int), k17 s1_16 = some rz → jG C X n 8 0 0 80 [jA 166, jI l1, jI l2, jI l3, jI l4_8, jI v2, jI l6_4, jI l7_9] [jI s1_16, jI l4_8] M) h (by
            intro s1_16 h
            refine x_iadd (pc := 80) hC dX10_stoodAhead_80 ?_
            obtain ⟨l4_18, el4_18, h⟩ := jlet_some h
            refine x_istore (ls2 := [jA 166, jI l1, jI l2, jI l3, jI l4_18, jI v2, jI l6_4, jI l7_9]) (pc := 81) hC dX10_stoodAhead_81 (by decide) rfl el4_18 rfl ?_
            obtain ⟨l7_19, el7_19, h⟩ := jlet_some h
            refine x_iinc (ls2 := [jA 166, jI l1, jI l2, jI l3, jI l4_18, jI v2, jI l6_4, jI l7_19]) (pc := 83) hC dX10_stoodAhead_83 rfl (by decide) rfl el7_19 rfl ?_
            refine x_goto (tgt := 37) (pc := 86) hC dX10_stoodAhead_86 (by decide) ?_
            exact Hself10 _ _ h)
          refine x_icmp_ne (tgt := 79) (pc := 72) hC dX10_stoodAhead_72 (by decide) (fun hc => ?_) (fun hc => ?_)
          · replace h := jit_neg hc h
            refine x_iconst (pc := 79) hC dX10_stoodAhead_79 ?_
            exact Hk17 _ h
          · replace h := jit_pos hc h
            refine x_iconst (pc := 75) hC dX10_stoodAhead_75 ?_
            refine x_goto (tgt := 80) (pc := 76) hC dX10_stoodAhead_76 (by decide) ?_
            exact Hk17 _ h)
      refine x_icmp_ne (tgt := 49) (pc := 42) hC dX10_stoodAhead_42 (by decide) (fun hc => ?_) (fun hc => ?_)
      · replace h := jit_neg hc h
        refine x_aloadA_n (pc := 49) hC dX10_stoodAhead_49 rfl rfl k_166 (by decide) ?_
        refine x_iload_n (pc := 50) hC dX10_stoodAhead_50 rfl rfl ?_
        refine x_iload (pc := 51) hC dX10_stoodAhead_51 rfl ?_
        obtain ⟨v21, e20, h⟩ := jbR_some h
        refine x_cV (pc := 53) hC mv_X10_325 (ok_X10_elementsOf hn e20) rfl (Nat.le_of_ble_eq_true rfl) k_166 rfl (by decide) (jRo0 C) (Nat.le_of_ble_eq_true rfl) dX10_stoodAhead_53 rfl ?_
        exact Hk12 _ h
      · replace h := jit_pos hc h
        refine x_iload_n (pc := 45) hC dX10_stoodAhead_45 rfl rfl ?_
        refine x_goto (tgt := 56) (pc := 46) hC dX10_stoodAhead_46 (by decide) ?_
        exact Hk12 _ h
    · replace h := jit_pos hc h
      refine x_goto (tgt := 89) (pc := 31) hC dX10_stoodAhead_31 (by decide) ?_
      obtain ⟨l6_22, el6_22, h⟩ := jlet_some h
      refine x_iinc (ls2 := [jA 166, jI l1, jI l2, jI l3, jI l4_3, jI v2, jI l6_22, jN]) (pc := 89) hC dX10_stoodAhead_89 rfl (by decide) rfl el6_22 rfl ?_
      refine x_goto (tgt := 15) (pc := 92) hC dX10_stoodAhead_92 (by decide) ?_
      exact Hself5 _ _ h

set_option maxHeartbeats 4000000 in
set_option maxRecDepth 20000 in
theorem ok_X10_isStruck {X : jX} {n : Nat} (hn : 179 ≤ n) {l1 : Int} {l2 : Int} {l3 : Int} {M : jM} {rz : Int} (h : f_X10_isStruck l1 l2 l3 M = some rz) : jCt X n yX10_isStruck cX10_isStruck 4 (some .boolean) 3 [jA 166, jI l1, jI l2, jI l3] M (some (jI rz)) M := by
  refine jCt_of (own := RX10) (ls := [jA 166, jI l1, jI l2, jI l3]) (by decide +kernel) rfl hn (Nat.le_of_ble_eq_true rfl) rfl ?_
  intro C hC hR
  unfold f_X10_isStruck at h
  refine x_aloadA_n (pc := 0) hC dX10_isStruck_0 rfl rfl k_166 (by decide) ?_
  refine x_iload_n (pc := 1) hC dX10_isStruck_1 rfl rfl ?_
  refine x_iload_n (pc := 2) hC dX10_isStruck_2 rfl rfl ?_
  refine x_iload_n (pc := 3) hC dX10_isStruck_3 rfl rfl ?_
  obtain ⟨v2, e1, h⟩ := jbR_some h
  refine x_cV (pc := 4) hC mv_X10_328 (ok_X10_stoodAhead hn e1) rfl (Nat.le_of_ble_eq_true rfl) k_166 rfl (by decide) (jRo0 C) (Nat.le_of_ble_eq_true rfl) dX10_isStruck_4 rfl ?_
  refine x_aloadA_n (pc := 7) hC dX10_isStruck_7 rfl rfl k_166 (by decide) ?_
  refine x_aloadA_n (pc := 8) hC dX10_isStruck_8 rfl rfl k_166 (by decide) ?_
  refine x_iload_n (pc := 9) hC dX10_isStruck_9 rfl rfl ?_
  refine x_iload_n (pc := 10) hC dX10_isStruck_10 rfl rfl ?_
  refine x_iload_n (pc := 11) hC dX10_isStruck_11 rfl rfl ?_
  obtain ⟨v4, e3, h⟩ := jbR_some h
  refine x_cV (pc := 12) hC mv_X10_293 (ok_X10_elementOf hn e3) rfl (Nat.le_of_ble_eq_true rfl) k_166 rfl (by decide) (jRo0 C) (Nat.le_of_ble_eq_true rfl) dX10_isStruck_12 rfl ?_
  obtain ⟨v6, e5, h⟩ := jbR_some h
  refine x_cV (pc := 15) hC mv_X10_297 (ok_X10_isJump hn e5) rfl (Nat.le_of_ble_eq_true rfl) k_166 rfl (by decide) (jRo0 C) (Nat.le_of_ble_eq_true rfl) dX10_isStruck_15 rfl ?_
  obtain ⟨k8, Hk8, h⟩ := jk_some (P := fun k8 => ∀ (s1_7 : Int), k8 s1_7 = some rz → jG C X n 4 0 0 33 [jA 166, jI l1, jI l2, jI l3] [jI s1_7, jI v2] M) h (by
    intro s1_7 h
    refine x_icmp_lt (tgt := 40) (pc := 33) hC dX10_isStruck_33 (by decide) (fun hc => ?_) (fun hc => ?_)
    · replace h := jit_pos hc h
      refine x_iconst (pc := 40) hC dX10_isStruck_40 ?_
      exact x_zret (pc := 41) hC hR dX10_isStruck_41 (Or.inl jw0) (jrR h) rfl
    · replace h := jit_neg hc h
      refine x_iconst (pc := 36) hC dX10_isStruck_36 ?_
      refine x_goto (tgt := 41) (pc := 37) hC dX10_isStruck_37 (by decide) ?_
      exact x_zret (pc := 41) hC hR dX10_isStruck_41 (Or.inr jw1) (jrR h) rfl)
  refine x_if_eq (tgt := 32) (pc := 18) hC dX10_isStruck_18 (by decide) (fun hc => ?_) (fun hc => ?_)
  · replace h := jit_pos hc h
    refine x_iconst (pc := 32) hC dX10_isStruck_32 ?_
    exact Hk8 _ h
  · replace h := jit_neg hc h
    refine x_aloadA_n (pc := 21) hC dX10_isStruck_21 rfl rfl k_166 (by decide) ?_
    refine x_gf (pc := 22) (b := 170) hC fl_X10_84 ft10_10 k_166 (by decide) (off := 4) (by decide +kernel) (by decide) dX10_isStruck_22 ?_
    refine x_sipush (pc := 25) hC dX10_isStruck_25 rfl ?_
    obtain ⟨hb9, h⟩ := jck_some h
    refine x_iald (pc := 28) hC k_170 (by rw [l_170]; exact hb9) dX10_isStruck_28 ?_
    refine x_goto (tgt := 33) (pc := 29) hC dX10_isStruck_29 (by decide) ?_
    exact Hk8 _ h

set_option maxHeartbeats 4000000 in
set_option maxRecDepth 20000 in
theorem ok_X10_struckOf {X : jX} {n : Nat} (hn : 179 ≤ n) {l1 : Int} {l2 : Int} {M : jM} {rz : Int} (h : f_X10_struckOf l1 l2 M = some rz) : jCt X n yX10_struckOf cX10_struckOf 5 (some .int) 4 [jA 166, jI l1, jI l2] M (some (jI rz)) M := by
  refine jCt_of (own := RX10) (ls := [jA 166, jI l1, jI l2, jN, jN]) (by decide +kernel) rfl hn (Nat.le_of_ble_eq_true rfl) rfl ?_
  intro C hC hR
  unfold f_X10_struckOf at h
  refine x_iconst (pc := 0) hC dX10_struckOf_0 ?_
  refine x_istore_n (ls2 := [jA 166, jI l1, jI l2, jI 0, jN]) (pc := 1) hC dX10_struckOf_1 rfl (by decide) rfl rfl rfl ?_
  refine x_iconst (pc := 2) hC dX10_struckOf_2 ?_
  refine x_istore (ls2 := [jA 166, jI l1, jI l2, jI 0, jI 0]) (pc := 3) hC dX10_struckOf_3 (by decide) rfl rfl rfl ?_
  refine jlp2_ind (P := fun (l3_1 : Int) (l4_2 : Int) => jG C X n 5 0 0 5 [jA 166, jI l1, jI l2, jI l3_1, jI l4_2] [] M) ?_ _ _ _ h
  intro self3 l3_1 l4_2 Hself3 h
  refine x_iload (pc := 5) hC dX10_struckOf_5 rfl ?_
  refine x_aloadA_n (pc := 7) hC dX10_struckOf_7 rfl rfl k_166 (by decide) ?_
  refine x_iload_n (pc := 8) hC dX10_struckOf_8 rfl rfl ?_
  refine x_iload_n (pc := 9) hC dX10_struckOf_9 rfl rfl ?_
  obtain ⟨v5, e4, h⟩ := jbR_some h
  refine x_cV (pc := 10) hC mv_X10_325 (ok_X10_elementsOf hn e4) rfl (Nat.le_of_ble_eq_true rfl) k_166 rfl (by decide) (jRo0 C) (Nat.le_of_ble_eq_true rfl) dX10_struckOf_10 rfl ?_
  refine x_icmp_ge (tgt := 44) (pc := 13) hC dX10_struckOf_13 (by decide) (fun hc => ?_) (fun hc => ?_)
  · replace h := jit_pos hc h
    refine x_iload_n (pc := 44) hC dX10_struckOf_44 rfl rfl ?_
    exact x_iret (pc := 45) hC hR dX10_struckOf_45 (jrR h) rfl
  · replace h := jit_neg hc h
    refine x_iload_n (pc := 16) hC dX10_struckOf_16 rfl rfl ?_
    refine x_aloadA_n (pc := 17) hC dX10_struckOf_17 rfl rfl k_166 (by decide) ?_
    refine x_iload_n (pc := 18) hC dX10_struckOf_18 rfl rfl ?_
    refine x_iload_n (pc := 19) hC dX10_struckOf_19 rfl rfl ?_
    refine x_iload (pc := 20) hC dX10_struckOf_20 rfl ?_
    obtain ⟨v7, e6, h⟩ := jbR_some h
    refine x_cV (pc := 22) hC mv_X10_331 (ok_X10_isStruck hn e6) rfl (Nat.le_of_ble_eq_true rfl) k_166 rfl (by decide) (jRo0 C) (Nat.le_of_ble_eq_true rfl) dX10_struckOf_22 rfl ?_
    obtain ⟨k9, Hk9, h⟩ := jk_some (P := fun k9 => ∀ (s1_8 : Int), k9 s1_8 = some rz → jG C X n 5 0 0 36 [jA 166, jI l1, jI l2, jI l3_1, jI l4_2] [jI s1_8, jI l3_1] M) h (by
      intro s1_8 h
      refine x_ior (pc := 36) hC dX10_struckOf_36 ?_
      obtain ⟨l3_10, el3_10, h⟩ := jlet_some h
      refine x_istore_n (ls2 := [jA 166, jI l1, jI l2, jI l3_10, jI l4_2]) (pc := 37) hC dX10_struckOf_37 rfl (by decide) rfl el3_10 rfl ?_
      obtain ⟨l4_11, el4_11, h⟩ := jlet_some h
      refine x_iinc (ls2 := [jA 166, jI l1, jI l2, jI l3_10, jI l4_11]) (pc := 38) hC dX10_struckOf_38 rfl (by decide) rfl el4_11 rfl ?_
      refine x_goto (tgt := 5) (pc := 41) hC dX10_struckOf_41 (by decide) ?_
      exact Hself3 _ _ h)
    refine x_if_eq (tgt := 35) (pc := 25) hC dX10_struckOf_25 (by decide) (fun hc => ?_) (fun hc => ?_)
    · replace h := jit_pos hc h
      refine x_iconst (pc := 35) hC dX10_struckOf_35 ?_
      exact Hk9 _ h
    · replace h := jit_neg hc h
      refine x_iconst (pc := 28) hC dX10_struckOf_28 ?_
      refine x_iload (pc := 29) hC dX10_struckOf_29 rfl ?_
      refine x_ishl (pc := 31) hC dX10_struckOf_31 ?_
      refine x_goto (tgt := 36) (pc := 32) hC dX10_struckOf_32 (by decide) ?_
      exact Hk9 _ h

set_option maxHeartbeats 4000000 in
set_option maxRecDepth 20000 in
theorem ok_X10_worthOf {X : jX} {n : Nat} (hn : 179 ≤ n) {l1 : Int} {l2 : Int} {M : jM} {rz : Int} (h : f_X10_worthOf l1 l2 M = some rz) : jCt X n yX10_worthOf cX10_worthOf 5 (some .int) 4 [jA 166, jI l1, jI l2] M (some (jI rz)) M := by
  refine jCt_of (own := RX10) (ls := [jA 166, jI l1, jI l2, jN, jN]) (by decide +kernel) rfl hn (Nat.le_of_ble_eq_true rfl) rfl ?_
  intro C hC hR
  unfold f_X10_worthOf at h
  refine x_iconst (pc := 0) hC dX10_worthOf_0 ?_
  refine x_istore_n (ls2 := [jA 166, jI l1, jI l2, jI 0, jN]) (pc := 1) hC dX10_worthOf_1 rfl (by decide) rfl rfl rfl ?_
  refine x_iconst (pc := 2) hC dX10_worthOf_2 ?_
  refine x_istore (ls2 := [jA 166, jI l1, jI l2, jI 0, jI 0]) (pc := 3) hC dX10_worthOf_3 (by decide) rfl rfl rfl ?_
  refine jlp2_ind (P := fun (l3_1 : Int) (l4_2 : Int) => jG C X n 5 0 0 5 [jA 166, jI l1, jI l2, jI l3_1, jI l4_2] [] M) ?_ _ _ _ h
  intro self3 l3_1 l4_2 Hself3 h
  refine x_iload (pc := 5) hC dX10_worthOf_5 rfl ?_
  refine x_aloadA_n (pc := 7) hC dX10_worthOf_7 rfl rfl k_166 (by decide) ?_
  refine x_iload_n (pc := 8) hC dX10_worthOf_8 rfl rfl ?_
  refine x_iload_n (pc := 9) hC dX10_worthOf_9 rfl rfl ?_
  obtain ⟨v5, e4, h⟩ := jbR_some h
  refine x_cV (pc := 10) hC mv_X10_325 (ok_X10_elementsOf hn e4) rfl (Nat.le_of_ble_eq_true rfl) k_166 rfl (by decide) (jRo0 C) (Nat.le_of_ble_eq_true rfl) dX10_worthOf_10 rfl ?_
  refine x_icmp_ge (tgt := 57) (pc := 13) hC dX10_worthOf_13 (by decide) (fun hc => ?_) (fun hc => ?_)
  · replace h := jit_pos hc h
    refine x_aloadA_n (pc := 57) hC dX10_worthOf_57 rfl rfl k_166 (by decide) ?_
    refine x_iload_n (pc := 58) hC dX10_worthOf_58 rfl rfl ?_
    refine x_iload_n (pc := 59) hC dX10_worthOf_59 rfl rfl ?_
    obtain ⟨v7, e6, h⟩ := jbR_some h
    refine x_cV (pc := 60) hC mv_X10_334 (ok_X10_callsOf hn e6) rfl (Nat.le_of_ble_eq_true rfl) k_166 rfl (by decide) (jRo0 C) (Nat.le_of_ble_eq_true rfl) dX10_worthOf_60 rfl ?_
    refine x_iconst (pc := 63) hC dX10_worthOf_63 ?_
    obtain ⟨v9, e8, h⟩ := jbR_some h
    refine x_cS (pc := 64) hC ms_X10_212 (ok_X10_isIn hn e8) rfl (Nat.le_of_ble_eq_true rfl) (jRo0 C) (Nat.le_of_ble_eq_true rfl) dX10_worthOf_64 rfl ?_
    obtain ⟨k11, Hk11, h⟩ := jk_some (P := fun k11 => ∀ (l3_10 : Int), k11 l3_10 = some rz → jG C X n 5 0 0 78 [jA 166, jI l1, jI l2, jI l3_10, jI l4_2] [] M) h (by
      intro l3_10 h
      refine x_aloadA_n (pc := 78) hC dX10_worthOf_78 rfl rfl k_166 (by decide) ?_
      refine x_iload_n (pc := 79) hC dX10_worthOf_79 rfl rfl ?_
      refine x_iload_n (pc := 80) hC dX10_worthOf_80 rfl rfl ?_
      obtain ⟨v13, e12, h⟩ := jbR_some h
      refine x_cV (pc := 81) hC mv_X10_334 (ok_X10_callsOf hn e12) rfl (Nat.le_of_ble_eq_true rfl) k_166 rfl (by decide) (jRo0 C) (Nat.le_of_ble_eq_true rfl) dX10_worthOf_81 rfl ?_
      refine x_iconst (pc := 84) hC dX10_worthOf_84 ?_
      obtain ⟨v15, e14, h⟩ := jbR_some h
      refine x_cS (pc := 85) hC ms_X10_212 (ok_X10_isIn hn e14) rfl (Nat.le_of_ble_eq_true rfl) (jRo0 C) (Nat.le_of_ble_eq_true rfl) dX10_worthOf_85 rfl ?_
      obtain ⟨k17, Hk17, h⟩ := jk_some (P := fun k17 => ∀ (l3_16 : Int), k17 l3_16 = some rz → jG C X n 5 0 0 99 [jA 166, jI l1, jI l2, jI l3_16, jI l4_2] [] M) h (by
        intro l3_16 h
        refine x_aloadA_n (pc := 99) hC dX10_worthOf_99 rfl rfl k_166 (by decide) ?_
        refine x_iload_n (pc := 100) hC dX10_worthOf_100 rfl rfl ?_
        refine x_iload_n (pc := 101) hC dX10_worthOf_101 rfl rfl ?_
        obtain ⟨v19, e18, h⟩ := jbR_some h
        refine x_cV (pc := 102) hC mv_X10_337 (ok_X10_isLate hn e18) rfl (Nat.le_of_ble_eq_true rfl) k_166 rfl (by decide) (jRo0 C) (Nat.le_of_ble_eq_true rfl) dX10_worthOf_102 rfl ?_
        refine x_if_eq (tgt := 126) (pc := 105) hC dX10_worthOf_105 (by decide) (fun hc => ?_) (fun hc => ?_)
        · replace h := jit_pos hc h
          refine x_iload_n (pc := 126) hC dX10_worthOf_126 rfl rfl ?_
          exact x_iret (pc := 127) hC hR dX10_worthOf_127 (jrR h) rfl
        · replace h := jit_neg hc h
          refine x_iload_n (pc := 108) hC dX10_worthOf_108 rfl rfl ?_
          refine x_iload_n (pc := 109) hC dX10_worthOf_109 rfl rfl ?_
          refine x_aloadA_n (pc := 110) hC dX10_worthOf_110 rfl rfl k_166 (by decide) ?_
          refine x_gf (pc := 111) (b := 170) hC fl_X10_84 ft10_10 k_166 (by decide) (off := 4) (by decide +kernel) (by decide) dX10_worthOf_111 ?_
          refine x_sipush (pc := 114) hC dX10_worthOf_114 rfl ?_
          obtain ⟨hb20, h⟩ := jck_some h
          refine x_iald (pc := 117) hC k_170 (by rw [l_170]; exact hb20) dX10_worthOf_117 ?_
          refine x_imul (pc := 118) hC dX10_worthOf_118 ?_
          refine x_bipush (pc := 119) hC dX10_worthOf_119 rfl ?_
          refine x_idiv (pc := 121) hC dX10_worthOf_121 (by decide) ?_
          refine x_iadd (pc := 122) hC dX10_worthOf_122 ?_
          refine x_goto (tgt := 127) (pc := 123) hC dX10_worthOf_123 (by decide) ?_
          exact x_iret (pc := 127) hC hR dX10_worthOf_127 (jrR h) rfl)
      refine x_if_eq (tgt := 99) (pc := 88) hC dX10_worthOf_88 (by decide) (fun hc => ?_) (fun hc => ?_)
      · replace h := jit_pos hc h
        exact Hk17 _ h
      · replace h := jit_neg hc h
        refine x_iload_n (pc := 91) hC dX10_worthOf_91 rfl rfl ?_
        refine x_bipush (pc := 92) hC dX10_worthOf_92 rfl ?_
        refine x_imul (pc := 94) hC dX10_worthOf_94 ?_
        refine x_bipush (pc := 95) hC dX10_worthOf_95 rfl ?_
        refine x_idiv (pc := 97) hC dX10_worthOf_97 (by decide) ?_
        obtain ⟨l3_21, el3_21, h⟩ := jlet_some h
        refine x_istore_n (ls2 := [jA 166, jI l1, jI l2, jI l3_21, jI l4_2]) (pc := 98) hC dX10_worthOf_98 rfl (by decide) rfl el3_21 rfl ?_
        exact Hk17 _ h)
    refine x_if_eq (tgt := 78) (pc := 67) hC dX10_worthOf_67 (by decide) (fun hc => ?_) (fun hc => ?_)
    · replace h := jit_pos hc h
      exact Hk11 _ h
    · replace h := jit_neg hc h
      refine x_iload_n (pc := 70) hC dX10_worthOf_70 rfl rfl ?_
      refine x_bipush (pc := 71) hC dX10_worthOf_71 rfl ?_
      refine x_imul (pc := 73) hC dX10_worthOf_73 ?_
      refine x_bipush (pc := 74) hC dX10_worthOf_74 rfl ?_
      refine x_idiv (pc := 76) hC dX10_worthOf_76 (by decide) ?_
      obtain ⟨l3_22, el3_22, h⟩ := jlet_some h
      refine x_istore_n (ls2 := [jA 166, jI l1, jI l2, jI l3_22, jI l4_2]) (pc := 77) hC dX10_worthOf_77 rfl (by decide) rfl el3_22 rfl ?_
      exact Hk11 _ h
  · replace h := jit_neg hc h
    refine x_iload_n (pc := 16) hC dX10_worthOf_16 rfl rfl ?_
    refine x_aloadA_n (pc := 17) hC dX10_worthOf_17 rfl rfl k_166 (by decide) ?_
    refine x_iload_n (pc := 18) hC dX10_worthOf_18 rfl rfl ?_
    refine x_iload_n (pc := 19) hC dX10_worthOf_19 rfl rfl ?_
    refine x_iload (pc := 20) hC dX10_worthOf_20 rfl ?_
    obtain ⟨v24, e23, h⟩ := jbR_some h
    refine x_cV (pc := 22) hC mv_X10_331 (ok_X10_isStruck hn e23) rfl (Nat.le_of_ble_eq_true rfl) k_166 rfl (by decide) (jRo0 C) (Nat.le_of_ble_eq_true rfl) dX10_worthOf_22 rfl ?_
    obtain ⟨k26, Hk26, h⟩ := jk_some (P := fun k26 => ∀ (s1_25 : Int), k26 s1_25 = some rz → jG C X n 5 0 0 49 [jA 166, jI l1, jI l2, jI l3_1, jI l4_2] [jI s1_25, jI l3_1] M) h (by
      intro s1_25 h
      refine x_iadd (pc := 49) hC dX10_worthOf_49 ?_
      obtain ⟨l3_27, el3_27, h⟩ := jlet_some h
      refine x_istore_n (ls2 := [jA 166, jI l1, jI l2, jI l3_27, jI l4_2]) (pc := 50) hC dX10_worthOf_50 rfl (by decide) rfl el3_27 rfl ?_
      obtain ⟨l4_28, el4_28, h⟩ := jlet_some h
      refine x_iinc (ls2 := [jA 166, jI l1, jI l2, jI l3_27, jI l4_28]) (pc := 51) hC dX10_worthOf_51 rfl (by decide) rfl el4_28 rfl ?_
      refine x_goto (tgt := 5) (pc := 54) hC dX10_worthOf_54 (by decide) ?_
      exact Hself3 _ _ h)
    refine x_if_eq (tgt := 32) (pc := 25) hC dX10_worthOf_25 (by decide) (fun hc => ?_) (fun hc => ?_)
    · replace h := jit_pos hc h
      refine x_aloadA_n (pc := 32) hC dX10_worthOf_32 rfl rfl k_166 (by decide) ?_
      refine x_gf (pc := 33) (b := 170) hC fl_X10_84 ft10_10 k_166 (by decide) (off := 4) (by decide +kernel) (by decide) dX10_worthOf_33 ?_
      refine x_sipush (pc := 36) hC dX10_worthOf_36 rfl ?_
      refine x_aloadA_n (pc := 39) hC dX10_worthOf_39 rfl rfl k_166 (by decide) ?_
      refine x_iload_n (pc := 40) hC dX10_worthOf_40 rfl rfl ?_
      refine x_iload_n (pc := 41) hC dX10_worthOf_41 rfl rfl ?_
      refine x_iload (pc := 42) hC dX10_worthOf_42 rfl ?_
      obtain ⟨v30, e29, h⟩ := jbR_some h
      refine x_cV (pc := 44) hC mv_X10_293 (ok_X10_elementOf hn e29) rfl (Nat.le_of_ble_eq_true rfl) k_166 rfl (by decide) (jRo0 C) (Nat.le_of_ble_eq_true rfl) dX10_worthOf_44 rfl ?_
      refine x_iadd (pc := 47) hC dX10_worthOf_47 ?_
      obtain ⟨hb31, h⟩ := jck_some h
      refine x_iald (pc := 48) hC k_170 (by rw [l_170]; exact hb31) dX10_worthOf_48 ?_
      exact Hk26 _ h
    · replace h := jit_neg hc h
      refine x_iconst (pc := 28) hC dX10_worthOf_28 ?_
      refine x_goto (tgt := 49) (pc := 29) hC dX10_worthOf_29 (by decide) ?_
      exact Hk26 _ h

set_option maxHeartbeats 4000000 in
set_option maxRecDepth 20000 in
theorem ok_X10_gainOf {X : jX} {n : Nat} (hn : 179 ≤ n) {l1 : Int} {l2 : Int} {M : jM} {rz : Int} {Mz : jM} (h : f_X10_gainOf l1 l2 M = some (rz, Mz)) : jCt X n yX10_gainOf cX10_gainOf 5 (some .int) 4 [jA 166, jI l1, jI l2] M (some (jI rz)) Mz := by
  refine jCt_of (own := RX10) (ls := [jA 166, jI l1, jI l2, jN, jN]) (by decide +kernel) rfl hn (Nat.le_of_ble_eq_true rfl) rfl ?_
  intro C hC hR
  unfold f_X10_gainOf at h
  refine x_iconst (pc := 0) hC dX10_gainOf_0 ?_
  refine x_istore_n (ls2 := [jA 166, jI l1, jI l2, jI 0, jN]) (pc := 1) hC dX10_gainOf_1 rfl (by decide) rfl rfl rfl ?_
  refine x_iconst (pc := 2) hC dX10_gainOf_2 ?_
  refine x_istore (ls2 := [jA 166, jI l1, jI l2, jI 0, jI 0]) (pc := 3) hC dX10_gainOf_3 (by decide) rfl rfl rfl ?_
  refine jlp2_ind (P := fun (l3_1 : Int) (l4_2 : Int) => jG C X n 5 0 0 5 [jA 166, jI l1, jI l2, jI l3_1, jI l4_2] [] M) ?_ _ _ _ h
  intro self3 l3_1 l4_2 Hself3 h
  refine x_iload (pc := 5) hC dX10_gainOf_5 rfl ?_
  refine x_aloadA_n (pc := 7) hC dX10_gainOf_7 rfl rfl k_166 (by decide) ?_
  refine x_iload_n (pc := 8) hC dX10_gainOf_8 rfl rfl ?_
  refine x_iload_n (pc := 9) hC dX10_gainOf_9 rfl rfl ?_
  obtain ⟨v5, e4, h⟩ := jbR_some h
  refine x_cV (pc := 10) hC mv_X10_325 (ok_X10_elementsOf hn e4) rfl (Nat.le_of_ble_eq_true rfl) k_166 rfl (by decide) (jRo0 C) (Nat.le_of_ble_eq_true rfl) dX10_gainOf_10 rfl ?_
  refine x_icmp_ge (tgt := 59) (pc := 13) hC dX10_gainOf_13 (by decide) (fun hc => ?_) (fun hc => ?_)
  · replace h := jit_pos hc h
    refine x_iload_n (pc := 59) hC dX10_gainOf_59 rfl rfl ?_
    refine x_aloadA_n (pc := 60) hC dX10_gainOf_60 rfl rfl k_166 (by decide) ?_
    refine x_iload_n (pc := 61) hC dX10_gainOf_61 rfl rfl ?_
    refine x_iload_n (pc := 62) hC dX10_gainOf_62 rfl rfl ?_
    obtain ⟨v8, M7, e6, h⟩ := jbW_some h
    refine x_cV (pc := 63) hC mv_X10_340 (ok_X10_meanOf hn e6) rfl (Nat.le_of_ble_eq_true rfl) k_166 rfl (by decide) (jRo0 C) (Nat.le_of_ble_eq_true rfl) dX10_gainOf_63 rfl ?_
    refine x_imul (pc := 66) hC dX10_gainOf_66 ?_
    refine x_sipush (pc := 67) hC dX10_gainOf_67 rfl ?_
    obtain ⟨v10, e9, h⟩ := jbR_some h
    refine x_cS (pc := 70) hC ms_X10_309 (ok_J9_floorDiv_7cf53 hn e9) rfl (Nat.le_of_ble_eq_true rfl) (jRo0 C) (Nat.le_of_ble_eq_true rfl) dX10_gainOf_70 rfl ?_
    exact x_iret (pc := 73) hC hR dX10_gainOf_73 (jr1 h) (jr2 h)
  · replace h := jit_neg hc h
    refine x_aloadA_n (pc := 16) hC dX10_gainOf_16 rfl rfl k_166 (by decide) ?_
    refine x_iload_n (pc := 17) hC dX10_gainOf_17 rfl rfl ?_
    refine x_iload_n (pc := 18) hC dX10_gainOf_18 rfl rfl ?_
    refine x_iload (pc := 19) hC dX10_gainOf_19 rfl ?_
    obtain ⟨v12, e11, h⟩ := jbR_some h
    refine x_cV (pc := 21) hC mv_X10_331 (ok_X10_isStruck hn e11) rfl (Nat.le_of_ble_eq_true rfl) k_166 rfl (by decide) (jRo0 C) (Nat.le_of_ble_eq_true rfl) dX10_gainOf_21 rfl ?_
    obtain ⟨k14, Hk14, h⟩ := jk_some (P := fun k14 => ∀ (s0_13 : Int), k14 s0_13 = some (rz, Mz) → jG C X n 5 0 0 52 [jA 166, jI l1, jI l2, jI l3_1, jI l4_2] [jI s0_13] M) h (by
      intro s0_13 h
      refine x_istore_n (ls2 := [jA 166, jI l1, jI l2, jI s0_13, jI l4_2]) (pc := 52) hC dX10_gainOf_52 rfl (by decide) rfl rfl rfl ?_
      obtain ⟨l4_15, el4_15, h⟩ := jlet_some h
      refine x_iinc (ls2 := [jA 166, jI l1, jI l2, jI s0_13, jI l4_15]) (pc := 53) hC dX10_gainOf_53 rfl (by decide) rfl el4_15 rfl ?_
      refine x_goto (tgt := 5) (pc := 56) hC dX10_gainOf_56 (by decide) ?_
      exact Hself3 _ _ h)
    refine x_if_eq (tgt := 31) (pc := 24) hC dX10_gainOf_24 (by decide) (fun hc => ?_) (fun hc => ?_)
    · replace h := jit_pos hc h
      refine x_iload_n (pc := 31) hC dX10_gainOf_31 rfl rfl ?_
      refine x_aloadA_n (pc := 32) hC dX10_gainOf_32 rfl rfl k_166 (by decide) ?_
      refine x_gf (pc := 33) (b := 170) hC fl_X10_84 ft10_10 k_166 (by decide) (off := 4) (by decide +kernel) (by decide) dX10_gainOf_33 ?_
      refine x_sipush (pc := 36) hC dX10_gainOf_36 rfl ?_
      refine x_aloadA_n (pc := 39) hC dX10_gainOf_39 rfl rfl k_166 (by decide) ?_
      refine x_iload_n (pc := 40) hC dX10_gainOf_40 rfl rfl ?_
      refine x_iload_n (pc := 41) hC dX10_gainOf_41 rfl rfl ?_
      refine x_iload (pc := 42) hC dX10_gainOf_42 rfl ?_
      obtain ⟨v17, e16, h⟩ := jbR_some h
      refine x_cV (pc := 44) hC mv_X10_293 (ok_X10_elementOf hn e16) rfl (Nat.le_of_ble_eq_true rfl) k_166 rfl (by decide) (jRo0 C) (Nat.le_of_ble_eq_true rfl) dX10_gainOf_44 rfl ?_
      refine x_iadd (pc := 47) hC dX10_gainOf_47 ?_
      obtain ⟨hb18, h⟩ := jck_some h
      refine x_iald (pc := 48) hC k_170 (by rw [l_170]; exact hb18) dX10_gainOf_48 ?_
      obtain ⟨v20, e19, h⟩ := jbR_some h
      refine x_cS (pc := 49) hC ms_X10_253 (ok_J9_max_7cf53 hn e19) rfl (Nat.le_of_ble_eq_true rfl) (jRo0 C) (Nat.le_of_ble_eq_true rfl) dX10_gainOf_49 rfl ?_
      exact Hk14 _ h
    · replace h := jit_neg hc h
      refine x_iload_n (pc := 27) hC dX10_gainOf_27 rfl rfl ?_
      refine x_goto (tgt := 52) (pc := 28) hC dX10_gainOf_28 (by decide) ?_
      exact Hk14 _ h

set_option maxHeartbeats 4000000 in
set_option maxRecDepth 20000 in
theorem ok_X10_pointsAt {X : jX} {n : Nat} (hn : 179 ≤ n) {l1 : Int} {l2 : Int} {M : jM} {rz : Int} {Mz : jM} (h : f_X10_pointsAt l1 l2 M = some (rz, Mz)) : jCt X n yX10_pointsAt cX10_pointsAt 3 (some .int) 5 [jA 166, jI l1, jI l2] M (some (jI rz)) Mz := by
  refine jCt_of (own := RX10) (ls := [jA 166, jI l1, jI l2]) (by decide +kernel) rfl hn (Nat.le_of_ble_eq_true rfl) rfl ?_
  intro C hC hR
  unfold f_X10_pointsAt at h
  refine x_aloadA_n (pc := 0) hC dX10_pointsAt_0 rfl rfl k_166 (by decide) ?_
  refine x_iload_n (pc := 1) hC dX10_pointsAt_1 rfl rfl ?_
  refine x_iload_n (pc := 2) hC dX10_pointsAt_2 rfl rfl ?_
  obtain ⟨v2, e1, h⟩ := jbR_some h
  refine x_cV (pc := 3) hC mv_X10_343 (ok_X10_worthOf hn e1) rfl (Nat.le_of_ble_eq_true rfl) k_166 rfl (by decide) (jRo0 C) (Nat.le_of_ble_eq_true rfl) dX10_pointsAt_3 rfl ?_
  refine x_aloadA_n (pc := 6) hC dX10_pointsAt_6 rfl rfl k_166 (by decide) ?_
  refine x_iload_n (pc := 7) hC dX10_pointsAt_7 rfl rfl ?_
  refine x_iload_n (pc := 8) hC dX10_pointsAt_8 rfl rfl ?_
  obtain ⟨v5, M4, e3, h⟩ := jbW_some h
  refine x_cV (pc := 9) hC mv_X10_346 (ok_X10_gainOf hn e3) rfl (Nat.le_of_ble_eq_true rfl) k_166 rfl (by decide) (jRo0 C) (Nat.le_of_ble_eq_true rfl) dX10_pointsAt_9 rfl ?_
  refine x_iadd (pc := 12) hC dX10_pointsAt_12 ?_
  exact x_iret (pc := 13) hC hR dX10_pointsAt_13 (jr1 h) (jr2 h)

set_option maxHeartbeats 4000000 in
set_option maxRecDepth 20000 in
theorem ok_X10_pointsOf {X : jX} {n : Nat} (hn : 179 ≤ n) {l1 : Int} {M : jM} {rz : Int} {Mz : jM} (h : f_X10_pointsOf l1 M = some (rz, Mz)) : jCt X n yX10_pointsOf cX10_pointsOf 4 (some .int) 6 [jA 166, jI l1] M (some (jI rz)) Mz := by
  refine jCt_of (own := RX10) (ls := [jA 166, jI l1, jN, jN]) (by decide +kernel) rfl hn (Nat.le_of_ble_eq_true rfl) rfl ?_
  intro C hC hR
  unfold f_X10_pointsOf at h
  refine x_iconst (pc := 0) hC dX10_pointsOf_0 ?_
  refine x_istore_n (ls2 := [jA 166, jI l1, jI 0, jN]) (pc := 1) hC dX10_pointsOf_1 rfl (by decide) rfl rfl rfl ?_
  refine x_iconst (pc := 2) hC dX10_pointsOf_2 ?_
  refine x_istore_n (ls2 := [jA 166, jI l1, jI 0, jI 0]) (pc := 3) hC dX10_pointsOf_3 rfl (by decide) rfl rfl rfl ?_
  refine jlp3_ind (P := fun (l2_1 : Int) (l3_2 : Int) (M3 : jM) => jG C X n 4 0 0 4 [jA 166, jI l1, jI l2_1, jI l3_2] [] M3) ?_ _ _ _ _ h
  intro self4 l2_1 l3_2 M3 Hself4 h
  refine x_iload_n (pc := 4) hC dX10_pointsOf_4 rfl rfl ?_
  refine x_aloadA_n (pc := 5) hC dX10_pointsOf_5 rfl rfl k_166 (by decide) ?_
  refine x_gf (pc := 6) (b := 169) hC fl_X10_81 ft10_9 k_166 (by decide) (off := 3) (by decide +kernel) (by decide) dX10_pointsOf_6 ?_
  refine x_bipush (pc := 9) hC dX10_pointsOf_9 rfl ?_
  refine x_iload_n (pc := 11) hC dX10_pointsOf_11 rfl rfl ?_
  refine x_iadd (pc := 12) hC dX10_pointsOf_12 ?_
  obtain ⟨hb5, h⟩ := jck_some h
  refine x_iald (pc := 13) hC k_169 (by rw [l_169]; exact hb5) dX10_pointsOf_13 ?_
  refine x_icmp_ge (tgt := 45) (pc := 14) hC dX10_pointsOf_14 (by decide) (fun hc => ?_) (fun hc => ?_)
  · replace h := jit_pos hc h
    refine x_iload_n (pc := 45) hC dX10_pointsOf_45 rfl rfl ?_
    exact x_iret (pc := 46) hC hR dX10_pointsOf_46 (jr1 h) (jr2 h)
  · replace h := jit_neg hc h
    refine x_iload_n (pc := 17) hC dX10_pointsOf_17 rfl rfl ?_
    refine x_aloadA_n (pc := 18) hC dX10_pointsOf_18 rfl rfl k_166 (by decide) ?_
    refine x_iload_n (pc := 19) hC dX10_pointsOf_19 rfl rfl ?_
    refine x_iload_n (pc := 20) hC dX10_pointsOf_20 rfl rfl ?_
    obtain ⟨v7, e6, h⟩ := jbR_some h
    refine x_cV (pc := 21) hC mv_X10_322 (ok_X10_is hn e6) rfl (Nat.le_of_ble_eq_true rfl) k_166 rfl (by decide) (jRo0 C) (Nat.le_of_ble_eq_true rfl) dX10_pointsOf_21 rfl ?_
    obtain ⟨k10, Hk10, h⟩ := jk_some (P := fun k10 => ∀ (s1_8 : Int) (M9 : jM), k10 s1_8 M9 = some (rz, Mz) → jG C X n 4 0 0 37 [jA 166, jI l1, jI l2_1, jI l3_2] [jI s1_8, jI l2_1] M9) h (by
      intro s1_8 M9 h
      refine x_iadd (pc := 37) hC dX10_pointsOf_37 ?_
      obtain ⟨l2_11, el2_11, h⟩ := jlet_some h
      refine x_istore_n (ls2 := [jA 166, jI l1, jI l2_11, jI l3_2]) (pc := 38) hC dX10_pointsOf_38 rfl (by decide) rfl el2_11 rfl ?_
      obtain ⟨l3_12, el3_12, h⟩ := jlet_some h
      refine x_iinc (ls2 := [jA 166, jI l1, jI l2_11, jI l3_12]) (pc := 39) hC dX10_pointsOf_39 rfl (by decide) rfl el3_12 rfl ?_
      refine x_goto (tgt := 4) (pc := 42) hC dX10_pointsOf_42 (by decide) ?_
      exact Hself4 _ _ _ h)
    refine x_if_eq (tgt := 36) (pc := 24) hC dX10_pointsOf_24 (by decide) (fun hc => ?_) (fun hc => ?_)
    · replace h := jit_pos hc h
      refine x_iconst (pc := 36) hC dX10_pointsOf_36 ?_
      exact Hk10 _ _ h
    · replace h := jit_neg hc h
      refine x_aloadA_n (pc := 27) hC dX10_pointsOf_27 rfl rfl k_166 (by decide) ?_
      refine x_iload_n (pc := 28) hC dX10_pointsOf_28 rfl rfl ?_
      refine x_iload_n (pc := 29) hC dX10_pointsOf_29 rfl rfl ?_
      obtain ⟨v15, M14, e13, h⟩ := jbW_some h
      refine x_cV (pc := 30) hC mv_X10_349 (ok_X10_pointsAt hn e13) rfl (Nat.le_of_ble_eq_true rfl) k_166 rfl (by decide) (jRo0 C) (Nat.le_of_ble_eq_true rfl) dX10_pointsOf_30 rfl ?_
      refine x_goto (tgt := 37) (pc := 33) hC dX10_pointsOf_33 (by decide) ?_
      exact Hk10 _ _ h

set_option maxHeartbeats 4000000 in
set_option maxRecDepth 20000 in
theorem ok_X10_shownOf {X : jX} {n : Nat} (hn : 179 ≤ n) {l1 : Int} {M : jM} {rz : Int} {Mz : jM} (h : f_X10_shownOf l1 M = some (rz, Mz)) : jCt X n yX10_shownOf cX10_shownOf 4 (some .int) 3 [jA 166, jI l1] M (some (jI rz)) Mz := by
  refine jCt_of (own := RX10) (ls := [jA 166, jI l1, jN, jN]) (by decide +kernel) rfl hn (Nat.le_of_ble_eq_true rfl) rfl ?_
  intro C hC hR
  unfold f_X10_shownOf at h
  refine x_iconst (pc := 0) hC dX10_shownOf_0 ?_
  refine x_istore_n (ls2 := [jA 166, jI l1, jI 0, jN]) (pc := 1) hC dX10_shownOf_1 rfl (by decide) rfl rfl rfl ?_
  refine x_iconst (pc := 2) hC dX10_shownOf_2 ?_
  refine x_istore_n (ls2 := [jA 166, jI l1, jI 0, jI 0]) (pc := 3) hC dX10_shownOf_3 rfl (by decide) rfl rfl rfl ?_
  refine jlp3_ind (P := fun (l2_1 : Int) (l3_2 : Int) (M3 : jM) => jG C X n 4 0 0 4 [jA 166, jI l1, jI l2_1, jI l3_2] [] M3) ?_ _ _ _ _ h
  intro self4 l2_1 l3_2 M3 Hself4 h
  refine x_iload_n (pc := 4) hC dX10_shownOf_4 rfl rfl ?_
  refine x_iconst (pc := 5) hC dX10_shownOf_5 ?_
  refine x_icmp_ge (tgt := 24) (pc := 6) hC dX10_shownOf_6 (by decide) (fun hc => ?_) (fun hc => ?_)
  · replace h := jit_pos hc h
    refine x_iload_n (pc := 24) hC dX10_shownOf_24 rfl rfl ?_
    exact x_iret (pc := 25) hC hR dX10_shownOf_25 (jr1 h) (jr2 h)
  · replace h := jit_neg hc h
    refine x_iload_n (pc := 9) hC dX10_shownOf_9 rfl rfl ?_
    refine x_aloadA_n (pc := 10) hC dX10_shownOf_10 rfl rfl k_166 (by decide) ?_
    refine x_iload_n (pc := 11) hC dX10_shownOf_11 rfl rfl ?_
    refine x_iload_n (pc := 12) hC dX10_shownOf_12 rfl rfl ?_
    obtain ⟨v7, M6, e5, h⟩ := jbW_some h
    refine x_cV (pc := 13) hC mv_X10_352 (ok_X10_componentOf hn e5) rfl (Nat.le_of_ble_eq_true rfl) k_166 rfl (by decide) (jRo0 C) (Nat.le_of_ble_eq_true rfl) dX10_shownOf_13 rfl ?_
    refine x_iadd (pc := 16) hC dX10_shownOf_16 ?_
    obtain ⟨l2_8, el2_8, h⟩ := jlet_some h
    refine x_istore_n (ls2 := [jA 166, jI l1, jI l2_8, jI l3_2]) (pc := 17) hC dX10_shownOf_17 rfl (by decide) rfl el2_8 rfl ?_
    obtain ⟨l3_9, el3_9, h⟩ := jlet_some h
    refine x_iinc (ls2 := [jA 166, jI l1, jI l2_8, jI l3_9]) (pc := 18) hC dX10_shownOf_18 rfl (by decide) rfl el3_9 rfl ?_
    refine x_goto (tgt := 4) (pc := 21) hC dX10_shownOf_21 (by decide) ?_
    exact Hself4 _ _ _ h

set_option maxHeartbeats 4000000 in
set_option maxRecDepth 20000 in
theorem ok_X10_calledOf {X : jX} {n : Nat} (hn : 179 ≤ n) {l1 : Int} {l2 : Int} {M : jM} {rz : Int} (h : f_X10_calledOf l1 l2 M = some rz) : jCt X n yX10_calledOf cX10_calledOf 5 (some .int) 2 [jA 166, jI l1, jI l2] M (some (jI rz)) M := by
  refine jCt_of (own := RX10) (ls := [jA 166, jI l1, jI l2, jN, jN]) (by decide +kernel) rfl hn (Nat.le_of_ble_eq_true rfl) rfl ?_
  intro C hC hR
  unfold f_X10_calledOf at h
  refine x_iconst (pc := 0) hC dX10_calledOf_0 ?_
  refine x_istore_n (ls2 := [jA 166, jI l1, jI l2, jI 0, jN]) (pc := 1) hC dX10_calledOf_1 rfl (by decide) rfl rfl rfl ?_
  refine x_iconst (pc := 2) hC dX10_calledOf_2 ?_
  refine x_istore (ls2 := [jA 166, jI l1, jI l2, jI 0, jI 0]) (pc := 3) hC dX10_calledOf_3 (by decide) rfl rfl rfl ?_
  refine jlp2_ind (P := fun (l3_1 : Int) (l4_2 : Int) => jG C X n 5 0 0 5 [jA 166, jI l1, jI l2, jI l3_1, jI l4_2] [] M) ?_ _ _ _ h
  intro self3 l3_1 l4_2 Hself3 h
  refine x_iload (pc := 5) hC dX10_calledOf_5 rfl ?_
  refine x_aloadA_n (pc := 7) hC dX10_calledOf_7 rfl rfl k_166 (by decide) ?_
  refine x_gf (pc := 8) (b := 169) hC fl_X10_81 ft10_9 k_166 (by decide) (off := 3) (by decide +kernel) (by decide) dX10_calledOf_8 ?_
  refine x_bipush (pc := 11) hC dX10_calledOf_11 rfl ?_
  refine x_iload_n (pc := 13) hC dX10_calledOf_13 rfl rfl ?_
  refine x_iadd (pc := 14) hC dX10_calledOf_14 ?_
  obtain ⟨hb4, h⟩ := jck_some h
  refine x_iald (pc := 15) hC k_169 (by rw [l_169]; exact hb4) dX10_calledOf_15 ?_
  refine x_icmp_ge (tgt := 57) (pc := 16) hC dX10_calledOf_16 (by decide) (fun hc => ?_) (fun hc => ?_)
  · replace h := jit_pos hc h
    refine x_iload_n (pc := 57) hC dX10_calledOf_57 rfl rfl ?_
    exact x_iret (pc := 58) hC hR dX10_calledOf_58 (jrR h) rfl
  · replace h := jit_neg hc h
    refine x_iload_n (pc := 19) hC dX10_calledOf_19 rfl rfl ?_
    refine x_aloadA_n (pc := 20) hC dX10_calledOf_20 rfl rfl k_166 (by decide) ?_
    refine x_iload_n (pc := 21) hC dX10_calledOf_21 rfl rfl ?_
    refine x_iload (pc := 22) hC dX10_calledOf_22 rfl ?_
    obtain ⟨v6, e5, h⟩ := jbR_some h
    refine x_cV (pc := 24) hC mv_X10_322 (ok_X10_is hn e5) rfl (Nat.le_of_ble_eq_true rfl) k_166 rfl (by decide) (jRo0 C) (Nat.le_of_ble_eq_true rfl) dX10_calledOf_24 rfl ?_
    obtain ⟨k8, Hk8, h⟩ := jk_some (P := fun k8 => ∀ (s1_7 : Int), k8 s1_7 = some rz → jG C X n 5 0 0 49 [jA 166, jI l1, jI l2, jI l3_1, jI l4_2] [jI s1_7, jI l3_1] M) h (by
      intro s1_7 h
      refine x_iadd (pc := 49) hC dX10_calledOf_49 ?_
      obtain ⟨l3_9, el3_9, h⟩ := jlet_some h
      refine x_istore_n (ls2 := [jA 166, jI l1, jI l2, jI l3_9, jI l4_2]) (pc := 50) hC dX10_calledOf_50 rfl (by decide) rfl el3_9 rfl ?_
      obtain ⟨l4_10, el4_10, h⟩ := jlet_some h
      refine x_iinc (ls2 := [jA 166, jI l1, jI l2, jI l3_9, jI l4_10]) (pc := 51) hC dX10_calledOf_51 rfl (by decide) rfl el4_10 rfl ?_
      refine x_goto (tgt := 5) (pc := 54) hC dX10_calledOf_54 (by decide) ?_
      exact Hself3 _ _ h)
    obtain ⟨k11, Hk11, h⟩ := jk_some (P := fun k11 => k11 = some rz → jG C X n 5 0 0 48 [jA 166, jI l1, jI l2, jI l3_1, jI l4_2] [jI l3_1] M) h (by
      intro h
      refine x_iconst (pc := 48) hC dX10_calledOf_48 ?_
      exact Hk8 _ h)
    refine x_if_eq (tgt := 48) (pc := 27) hC dX10_calledOf_27 (by decide) (fun hc => ?_) (fun hc => ?_)
    · replace h := jit_pos hc h
      exact Hk11 h
    · replace h := jit_neg hc h
      refine x_aloadA_n (pc := 30) hC dX10_calledOf_30 rfl rfl k_166 (by decide) ?_
      refine x_iload_n (pc := 31) hC dX10_calledOf_31 rfl rfl ?_
      refine x_iload (pc := 32) hC dX10_calledOf_32 rfl ?_
      obtain ⟨v13, e12, h⟩ := jbR_some h
      refine x_cV (pc := 34) hC mv_X10_334 (ok_X10_callsOf hn e12) rfl (Nat.le_of_ble_eq_true rfl) k_166 rfl (by decide) (jRo0 C) (Nat.le_of_ble_eq_true rfl) dX10_calledOf_34 rfl ?_
      refine x_iload_n (pc := 37) hC dX10_calledOf_37 rfl rfl ?_
      obtain ⟨v15, e14, h⟩ := jbR_some h
      refine x_cS (pc := 38) hC ms_X10_212 (ok_X10_isIn hn e14) rfl (Nat.le_of_ble_eq_true rfl) (jRo0 C) (Nat.le_of_ble_eq_true rfl) dX10_calledOf_38 rfl ?_
      refine x_if_eq (tgt := 48) (pc := 41) hC dX10_calledOf_41 (by decide) (fun hc => ?_) (fun hc => ?_)
      · replace h := jit_pos hc h
        exact Hk11 h
      · replace h := jit_neg hc h
        refine x_iconst (pc := 44) hC dX10_calledOf_44 ?_
        refine x_goto (tgt := 49) (pc := 45) hC dX10_calledOf_45 (by decide) ?_
        exact Hk8 _ h

set_option maxHeartbeats 4000000 in
set_option maxRecDepth 20000 in
theorem ok_X10_elementsBy {X : jX} {n : Nat} (hn : 179 ≤ n) {l1 : Int} {l2 : Int} {M : jM} {rz : Int} (h : f_X10_elementsBy l1 l2 M = some rz) : jCt X n yX10_elementsBy cX10_elementsBy 6 (some .int) 4 [jA 166, jI l1, jI l2] M (some (jI rz)) M := by
  refine jCt_of (own := RX10) (ls := [jA 166, jI l1, jI l2, jN, jN, jN]) (by decide +kernel) rfl hn (Nat.le_of_ble_eq_true rfl) rfl ?_
  intro C hC hR
  unfold f_X10_elementsBy at h
  refine x_iconst (pc := 0) hC dX10_elementsBy_0 ?_
  refine x_istore_n (ls2 := [jA 166, jI l1, jI l2, jI 0, jN, jN]) (pc := 1) hC dX10_elementsBy_1 rfl (by decide) rfl rfl rfl ?_
  refine x_iconst (pc := 2) hC dX10_elementsBy_2 ?_
  refine x_istore (ls2 := [jA 166, jI l1, jI l2, jI 0, jI 0, jN]) (pc := 3) hC dX10_elementsBy_3 (by decide) rfl rfl rfl ?_
  refine jlp2_ind (P := fun (l3_1 : Int) (l4_2 : Int) => jG C X n 6 0 0 5 [jA 166, jI l1, jI l2, jI l3_1, jI l4_2, jN] [] M) ?_ _ _ _ h
  intro self3 l3_1 l4_2 Hself3 h
  refine x_iload (pc := 5) hC dX10_elementsBy_5 rfl ?_
  refine x_aloadA_n (pc := 7) hC dX10_elementsBy_7 rfl rfl k_166 (by decide) ?_
  refine x_gf (pc := 8) (b := 169) hC fl_X10_81 ft10_9 k_166 (by decide) (off := 3) (by decide +kernel) (by decide) dX10_elementsBy_8 ?_
  refine x_bipush (pc := 11) hC dX10_elementsBy_11 rfl ?_
  refine x_iload_n (pc := 13) hC dX10_elementsBy_13 rfl rfl ?_
  refine x_iadd (pc := 14) hC dX10_elementsBy_14 ?_
  obtain ⟨hb4, h⟩ := jck_some h
  refine x_iald (pc := 15) hC k_169 (by rw [l_169]; exact hb4) dX10_elementsBy_15 ?_
  refine x_icmp_ge (tgt := 112) (pc := 16) hC dX10_elementsBy_16 (by decide) (fun hc => ?_) (fun hc => ?_)
  · replace h := jit_pos hc h
    refine x_iload_n (pc := 112) hC dX10_elementsBy_112 rfl rfl ?_
    exact x_iret (pc := 113) hC hR dX10_elementsBy_113 (jrR h) rfl
  · replace h := jit_neg hc h
    refine x_aloadA_n (pc := 19) hC dX10_elementsBy_19 rfl rfl k_166 (by decide) ?_
    refine x_iload_n (pc := 20) hC dX10_elementsBy_20 rfl rfl ?_
    refine x_iload (pc := 21) hC dX10_elementsBy_21 rfl ?_
    obtain ⟨v6, e5, h⟩ := jbR_some h
    refine x_cV (pc := 23) hC mv_X10_322 (ok_X10_is hn e5) rfl (Nat.le_of_ble_eq_true rfl) k_166 rfl (by decide) (jRo0 C) (Nat.le_of_ble_eq_true rfl) dX10_elementsBy_23 rfl ?_
    refine x_if_ne (tgt := 32) (pc := 26) hC dX10_elementsBy_26 (by decide) (fun hc => ?_) (fun hc => ?_)
    · replace h := jit_neg hc h
      refine x_iconst (pc := 32) hC dX10_elementsBy_32 ?_
      refine x_istore (ls2 := [jA 166, jI l1, jI l2, jI l3_1, jI l4_2, jI 0]) (pc := 33) hC dX10_elementsBy_33 (by decide) rfl rfl rfl ?_
      refine jlp2_ind (P := fun (l3_7 : Int) (l5_8 : Int) => jG C X n 6 0 0 35 [jA 166, jI l1, jI l2, jI l3_7, jI l4_2, jI l5_8] [] M) ?_ _ _ _ h
      intro self9 l3_7 l5_8 Hself9 h
      refine x_iload (pc := 35) hC dX10_elementsBy_35 rfl ?_
      refine x_aloadA_n (pc := 37) hC dX10_elementsBy_37 rfl rfl k_166 (by decide) ?_
      refine x_iload_n (pc := 38) hC dX10_elementsBy_38 rfl rfl ?_
      refine x_iload (pc := 39) hC dX10_elementsBy_39 rfl ?_
      obtain ⟨v11, e10, h⟩ := jbR_some h
      refine x_cV (pc := 41) hC mv_X10_325 (ok_X10_elementsOf hn e10) rfl (Nat.le_of_ble_eq_true rfl) k_166 rfl (by decide) (jRo0 C) (Nat.le_of_ble_eq_true rfl) dX10_elementsBy_41 rfl ?_
      refine x_icmp_ge (tgt := 106) (pc := 44) hC dX10_elementsBy_44 (by decide) (fun hc => ?_) (fun hc => ?_)
      · replace h := jit_pos hc h
        obtain ⟨l4_12, el4_12, h⟩ := jlet_some h
        refine x_iinc (ls2 := [jA 166, jI l1, jI l2, jI l3_7, jI l4_12, jI l5_8]) (pc := 106) hC dX10_elementsBy_106 rfl (by decide) rfl el4_12 rfl ?_
        refine x_goto (tgt := 5) (pc := 109) hC dX10_elementsBy_109 (by decide) ?_
        refine x_kill 5 (ls2 := [jA 166, jI l1, jI l2, jI l3_7, jI l4_12, jN]) rfl ?_
        exact Hself3 _ _ h
      · replace h := jit_neg hc h
        refine x_iload_n (pc := 47) hC dX10_elementsBy_47 rfl rfl ?_
        refine x_iload_n (pc := 48) hC dX10_elementsBy_48 rfl rfl ?_
        refine x_iconst (pc := 49) hC dX10_elementsBy_49 ?_
        obtain ⟨k14, Hk14, h⟩ := jk_some (P := fun k14 => ∀ (s1_13 : Int), k14 s1_13 = some rz → jG C X n 6 0 0 98 [jA 166, jI l1, jI l2, jI l3_7, jI l4_2, jI l5_8] [jI s1_13, jI l3_7] M) h (by
          intro s1_13 h
          refine x_iadd (pc := 98) hC dX10_elementsBy_98 ?_
          obtain ⟨l3_15, el3_15, h⟩ := jlet_some h
          refine x_istore_n (ls2 := [jA 166, jI l1, jI l2, jI l3_15, jI l4_2, jI l5_8]) (pc := 99) hC dX10_elementsBy_99 rfl (by decide) rfl el3_15 rfl ?_
          obtain ⟨l5_16, el5_16, h⟩ := jlet_some h
          refine x_iinc (ls2 := [jA 166, jI l1, jI l2, jI l3_15, jI l4_2, jI l5_16]) (pc := 100) hC dX10_elementsBy_100 rfl (by decide) rfl el5_16 rfl ?_
          refine x_goto (tgt := 35) (pc := 103) hC dX10_elementsBy_103 (by decide) ?_
          exact Hself9 _ _ h)
        refine x_icmp_ne (tgt := 73) (pc := 50) hC dX10_elementsBy_50 (by decide) (fun hc => ?_) (fun hc => ?_)
        · replace h := jit_neg hc h
          refine x_aloadA_n (pc := 73) hC dX10_elementsBy_73 rfl rfl k_166 (by decide) ?_
          refine x_gf (pc := 74) (b := 169) hC fl_X10_81 ft10_9 k_166 (by decide) (off := 3) (by decide +kernel) (by decide) dX10_elementsBy_74 ?_
          refine x_iconst (pc := 77) hC dX10_elementsBy_77 ?_
          refine x_aloadA_n (pc := 78) hC dX10_elementsBy_78 rfl rfl k_166 (by decide) ?_
          refine x_iload_n (pc := 79) hC dX10_elementsBy_79 rfl rfl ?_
          refine x_iload (pc := 80) hC dX10_elementsBy_80 rfl ?_
          refine x_iload (pc := 82) hC dX10_elementsBy_82 rfl ?_
          obtain ⟨v18, e17, h⟩ := jbR_some h
          refine x_cV (pc := 84) hC mv_X10_293 (ok_X10_elementOf hn e17) rfl (Nat.le_of_ble_eq_true rfl) k_166 rfl (by decide) (jRo0 C) (Nat.le_of_ble_eq_true rfl) dX10_elementsBy_84 rfl ?_
          refine x_iadd (pc := 87) hC dX10_elementsBy_87 ?_
          obtain ⟨hb19, h⟩ := jck_some h
          refine x_iald (pc := 88) hC k_169 (by rw [l_169]; exact hb19) dX10_elementsBy_88 ?_
          refine x_iload_n (pc := 89) hC dX10_elementsBy_89 rfl rfl ?_
          refine x_icmp_ne (tgt := 97) (pc := 90) hC dX10_elementsBy_90 (by decide) (fun hc => ?_) (fun hc => ?_)
          · replace h := jit_neg hc h
            refine x_iconst (pc := 97) hC dX10_elementsBy_97 ?_
            exact Hk14 _ h
          · replace h := jit_pos hc h
            refine x_iconst (pc := 93) hC dX10_elementsBy_93 ?_
            refine x_goto (tgt := 98) (pc := 94) hC dX10_elementsBy_94 (by decide) ?_
            exact Hk14 _ h
        · replace h := jit_pos hc h
          refine x_aloadA_n (pc := 53) hC dX10_elementsBy_53 rfl rfl k_166 (by decide) ?_
          refine x_iload_n (pc := 54) hC dX10_elementsBy_54 rfl rfl ?_
          refine x_iload (pc := 55) hC dX10_elementsBy_55 rfl ?_
          refine x_iload (pc := 57) hC dX10_elementsBy_57 rfl ?_
          obtain ⟨v21, e20, h⟩ := jbR_some h
          refine x_cV (pc := 59) hC mv_X10_331 (ok_X10_isStruck hn e20) rfl (Nat.le_of_ble_eq_true rfl) k_166 rfl (by decide) (jRo0 C) (Nat.le_of_ble_eq_true rfl) dX10_elementsBy_59 rfl ?_
          refine x_if_eq (tgt := 69) (pc := 62) hC dX10_elementsBy_62 (by decide) (fun hc => ?_) (fun hc => ?_)
          · replace h := jit_pos hc h
            refine x_iconst (pc := 69) hC dX10_elementsBy_69 ?_
            refine x_goto (tgt := 98) (pc := 70) hC dX10_elementsBy_70 (by decide) ?_
            exact Hk14 _ h
          · replace h := jit_neg hc h
            refine x_iconst (pc := 65) hC dX10_elementsBy_65 ?_
            refine x_goto (tgt := 98) (pc := 66) hC dX10_elementsBy_66 (by decide) ?_
            exact Hk14 _ h
    · replace h := jit_pos hc h
      refine x_goto (tgt := 106) (pc := 29) hC dX10_elementsBy_29 (by decide) ?_
      obtain ⟨l4_22, el4_22, h⟩ := jlet_some h
      refine x_iinc (ls2 := [jA 166, jI l1, jI l2, jI l3_1, jI l4_22, jN]) (pc := 106) hC dX10_elementsBy_106 rfl (by decide) rfl el4_22 rfl ?_
      refine x_goto (tgt := 5) (pc := 109) hC dX10_elementsBy_109 (by decide) ?_
      exact Hself3 _ _ h

set_option maxHeartbeats 4000000 in
set_option maxRecDepth 20000 in
theorem ok_X10_triesOf {X : jX} {n : Nat} (hn : 179 ≤ n) {l1 : Int} {l2 : Int} {M : jM} {rz : Int} (h : f_X10_triesOf l1 l2 M = some rz) : jCt X n yX10_triesOf cX10_triesOf 5 (some .int) 3 [jA 166, jI l1, jI l2] M (some (jI rz)) M := by
  refine jCt_of (own := RX10) (ls := [jA 166, jI l1, jI l2, jN, jN]) (by decide +kernel) rfl hn (Nat.le_of_ble_eq_true rfl) rfl ?_
  intro C hC hR
  unfold f_X10_triesOf at h
  refine x_iconst (pc := 0) hC dX10_triesOf_0 ?_
  refine x_istore_n (ls2 := [jA 166, jI l1, jI l2, jI 0, jN]) (pc := 1) hC dX10_triesOf_1 rfl (by decide) rfl rfl rfl ?_
  refine x_iconst (pc := 2) hC dX10_triesOf_2 ?_
  refine x_istore (ls2 := [jA 166, jI l1, jI l2, jI 0, jI 0]) (pc := 3) hC dX10_triesOf_3 (by decide) rfl rfl rfl ?_
  refine jlp2_ind (P := fun (l3_1 : Int) (l4_2 : Int) => jG C X n 5 0 0 5 [jA 166, jI l1, jI l2, jI l3_1, jI l4_2] [] M) ?_ _ _ _ h
  intro self3 l3_1 l4_2 Hself3 h
  refine x_iload (pc := 5) hC dX10_triesOf_5 rfl ?_
  refine x_aloadA_n (pc := 7) hC dX10_triesOf_7 rfl rfl k_166 (by decide) ?_
  refine x_gf (pc := 8) (b := 169) hC fl_X10_81 ft10_9 k_166 (by decide) (off := 3) (by decide +kernel) (by decide) dX10_triesOf_8 ?_
  refine x_bipush (pc := 11) hC dX10_triesOf_11 rfl ?_
  refine x_iload_n (pc := 13) hC dX10_triesOf_13 rfl rfl ?_
  refine x_iadd (pc := 14) hC dX10_triesOf_14 ?_
  obtain ⟨hb4, h⟩ := jck_some h
  refine x_iald (pc := 15) hC k_169 (by rw [l_169]; exact hb4) dX10_triesOf_15 ?_
  refine x_icmp_ge (tgt := 57) (pc := 16) hC dX10_triesOf_16 (by decide) (fun hc => ?_) (fun hc => ?_)
  · replace h := jit_pos hc h
    refine x_iload_n (pc := 57) hC dX10_triesOf_57 rfl rfl ?_
    exact x_iret (pc := 58) hC hR dX10_triesOf_58 (jrR h) rfl
  · replace h := jit_neg hc h
    refine x_iload_n (pc := 19) hC dX10_triesOf_19 rfl rfl ?_
    refine x_aloadA_n (pc := 20) hC dX10_triesOf_20 rfl rfl k_166 (by decide) ?_
    refine x_iload_n (pc := 21) hC dX10_triesOf_21 rfl rfl ?_
    refine x_iload (pc := 22) hC dX10_triesOf_22 rfl ?_
    obtain ⟨v6, e5, h⟩ := jbR_some h
    refine x_cV (pc := 24) hC mv_X10_322 (ok_X10_is hn e5) rfl (Nat.le_of_ble_eq_true rfl) k_166 rfl (by decide) (jRo0 C) (Nat.le_of_ble_eq_true rfl) dX10_triesOf_24 rfl ?_
    obtain ⟨k8, Hk8, h⟩ := jk_some (P := fun k8 => ∀ (s1_7 : Int), k8 s1_7 = some rz → jG C X n 5 0 0 49 [jA 166, jI l1, jI l2, jI l3_1, jI l4_2] [jI s1_7, jI l3_1] M) h (by
      intro s1_7 h
      refine x_iadd (pc := 49) hC dX10_triesOf_49 ?_
      obtain ⟨l3_9, el3_9, h⟩ := jlet_some h
      refine x_istore_n (ls2 := [jA 166, jI l1, jI l2, jI l3_9, jI l4_2]) (pc := 50) hC dX10_triesOf_50 rfl (by decide) rfl el3_9 rfl ?_
      obtain ⟨l4_10, el4_10, h⟩ := jlet_some h
      refine x_iinc (ls2 := [jA 166, jI l1, jI l2, jI l3_9, jI l4_10]) (pc := 51) hC dX10_triesOf_51 rfl (by decide) rfl el4_10 rfl ?_
      refine x_goto (tgt := 5) (pc := 54) hC dX10_triesOf_54 (by decide) ?_
      exact Hself3 _ _ h)
    obtain ⟨k11, Hk11, h⟩ := jk_some (P := fun k11 => k11 = some rz → jG C X n 5 0 0 48 [jA 166, jI l1, jI l2, jI l3_1, jI l4_2] [jI l3_1] M) h (by
      intro h
      refine x_iconst (pc := 48) hC dX10_triesOf_48 ?_
      exact Hk8 _ h)
    refine x_if_eq (tgt := 48) (pc := 27) hC dX10_triesOf_27 (by decide) (fun hc => ?_) (fun hc => ?_)
    · replace h := jit_pos hc h
      exact Hk11 h
    · replace h := jit_neg hc h
      refine x_iload_n (pc := 30) hC dX10_triesOf_30 rfl rfl ?_
      obtain ⟨k12, Hk12, h⟩ := jk_some (P := fun k12 => k12 = some rz → jG C X n 5 0 0 44 [jA 166, jI l1, jI l2, jI l3_1, jI l4_2] [jI l3_1] M) h (by
        intro h
        refine x_iconst (pc := 44) hC dX10_triesOf_44 ?_
        refine x_goto (tgt := 49) (pc := 45) hC dX10_triesOf_45 (by decide) ?_
        exact Hk8 _ h)
      refine x_if_eq (tgt := 44) (pc := 31) hC dX10_triesOf_31 (by decide) (fun hc => ?_) (fun hc => ?_)
      · replace h := jit_pos hc h
        exact Hk12 h
      · replace h := jit_neg hc h
        refine x_aloadA_n (pc := 34) hC dX10_triesOf_34 rfl rfl k_166 (by decide) ?_
        refine x_iload_n (pc := 35) hC dX10_triesOf_35 rfl rfl ?_
        refine x_iload (pc := 36) hC dX10_triesOf_36 rfl ?_
        obtain ⟨v14, e13, h⟩ := jbR_some h
        refine x_cV (pc := 38) hC mv_X10_337 (ok_X10_isLate hn e13) rfl (Nat.le_of_ble_eq_true rfl) k_166 rfl (by decide) (jRo0 C) (Nat.le_of_ble_eq_true rfl) dX10_triesOf_38 rfl ?_
        refine x_if_eq (tgt := 48) (pc := 41) hC dX10_triesOf_41 (by decide) (fun hc => ?_) (fun hc => ?_)
        · replace h := jit_pos hc h
          exact Hk11 h
        · replace h := jit_neg hc h
          exact Hk12 h

set_option maxHeartbeats 4000000 in
set_option maxRecDepth 20000 in
theorem ok_X10_wordBy {X : jX} {n : Nat} (hn : 179 ≤ n) {l1 : Int} {l2 : Int} {M : jM} {rz : Int} (h : f_X10_wordBy l1 l2 M = some rz) : jCt X n yX10_wordBy cX10_wordBy 3 (some .int) 5 [jA 166, jI l1, jI l2] M (some (jI rz)) M := by
  refine jCt_of (own := RX10) (ls := [jA 166, jI l1, jI l2]) (by decide +kernel) rfl hn (Nat.le_of_ble_eq_true rfl) rfl ?_
  intro C hC hR
  unfold f_X10_wordBy at h
  refine x_iload_n (pc := 0) hC dX10_wordBy_0 rfl rfl ?_
  rcases jit_or h with ⟨hc, h⟩ | ⟨hc, h⟩
  · refine x_tableOut (tgt := 95) (pc := 1) hC dX10_wordBy_1 hc (by decide) ?_
    refine x_aloadA_n (pc := 95) hC dX10_wordBy_95 rfl rfl k_166 (by decide) ?_
    refine x_iload_n (pc := 96) hC dX10_wordBy_96 rfl rfl ?_
    refine x_iload_n (pc := 97) hC dX10_wordBy_97 rfl rfl ?_
    refine x_bipush (pc := 98) hC dX10_wordBy_98 rfl ?_
    refine x_isub (pc := 100) hC dX10_wordBy_100 ?_
    obtain ⟨v2, e1, h⟩ := jbR_some h
    refine x_cV (pc := 101) hC mv_X10_355 (ok_X10_calledOf hn e1) rfl (Nat.le_of_ble_eq_true rfl) k_166 rfl (by decide) (jRo0 C) (Nat.le_of_ble_eq_true rfl) dX10_wordBy_101 rfl ?_
    exact x_iret (pc := 104) hC hR dX10_wordBy_104 (jrR h) rfl
  · rcases jit_or h with ⟨hq, h⟩ | ⟨hr0, h⟩
    · refine x_tableIn (tgt := 48) (off := 47) (pc := 1) hC dX10_wordBy_1 (by omega) (by omega) (by rw [hq]; rfl) (by decide) ?_
      refine x_aloadA_n (pc := 48) hC dX10_wordBy_48 rfl rfl k_166 (by decide) ?_
      refine x_iload_n (pc := 49) hC dX10_wordBy_49 rfl rfl ?_
      refine x_iconst (pc := 50) hC dX10_wordBy_50 ?_
      obtain ⟨v4, e3, h⟩ := jbR_some h
      refine x_cV (pc := 51) hC mv_X10_355 (ok_X10_calledOf hn e3) rfl (Nat.le_of_ble_eq_true rfl) k_166 rfl (by decide) (jRo0 C) (Nat.le_of_ble_eq_true rfl) dX10_wordBy_51 rfl ?_
      exact x_iret (pc := 54) hC hR dX10_wordBy_54 (jrR h) rfl
    · rcases jit_or h with ⟨hq, h⟩ | ⟨hr1, h⟩
      · refine x_tableIn (tgt := 55) (off := 54) (pc := 1) hC dX10_wordBy_1 (by omega) (by omega) (by rw [hq]; rfl) (by decide) ?_
        refine x_aloadA_n (pc := 55) hC dX10_wordBy_55 rfl rfl k_166 (by decide) ?_
        refine x_gf (pc := 56) (b := 169) hC fl_X10_81 ft10_9 k_166 (by decide) (off := 3) (by decide +kernel) (by decide) dX10_wordBy_56 ?_
        refine x_bipush (pc := 59) hC dX10_wordBy_59 rfl ?_
        refine x_iload_n (pc := 61) hC dX10_wordBy_61 rfl rfl ?_
        refine x_iadd (pc := 62) hC dX10_wordBy_62 ?_
        obtain ⟨hb5, h⟩ := jck_some h
        refine x_iald (pc := 63) hC k_169 (by rw [l_169]; exact hb5) dX10_wordBy_63 ?_
        exact x_iret (pc := 64) hC hR dX10_wordBy_64 (jrR h) rfl
      · rcases jit_or h with ⟨hq, h⟩ | ⟨hr2, h⟩
        · refine x_tableIn (tgt := 65) (off := 64) (pc := 1) hC dX10_wordBy_1 (by omega) (by omega) (by rw [hq]; rfl) (by decide) ?_
          refine x_aloadA_n (pc := 65) hC dX10_wordBy_65 rfl rfl k_166 (by decide) ?_
          refine x_iload_n (pc := 66) hC dX10_wordBy_66 rfl rfl ?_
          refine x_iconst (pc := 67) hC dX10_wordBy_67 ?_
          obtain ⟨v7, e6, h⟩ := jbR_some h
          refine x_cV (pc := 68) hC mv_X10_358 (ok_X10_triesOf hn e6) rfl (Nat.le_of_ble_eq_true rfl) k_166 rfl (by decide) (jRo0 C) (Nat.le_of_ble_eq_true rfl) dX10_wordBy_68 rfl ?_
          exact x_iret (pc := 71) hC hR dX10_wordBy_71 (jrR h) rfl
        · rcases jit_or h with ⟨hq, h⟩ | ⟨hr3, h⟩
          · refine x_tableIn (tgt := 72) (off := 71) (pc := 1) hC dX10_wordBy_1 (by omega) (by omega) (by rw [hq]; rfl) (by decide) ?_
            refine x_aloadA_n (pc := 72) hC dX10_wordBy_72 rfl rfl k_166 (by decide) ?_
            refine x_iload_n (pc := 73) hC dX10_wordBy_73 rfl rfl ?_
            refine x_iload_n (pc := 74) hC dX10_wordBy_74 rfl rfl ?_
            refine x_iconst (pc := 75) hC dX10_wordBy_75 ?_
            refine x_isub (pc := 76) hC dX10_wordBy_76 ?_
            obtain ⟨v9, e8, h⟩ := jbR_some h
            refine x_cV (pc := 77) hC mv_X10_362 (ok_X10_elementsBy hn e8) rfl (Nat.le_of_ble_eq_true rfl) k_166 rfl (by decide) (jRo0 C) (Nat.le_of_ble_eq_true rfl) dX10_wordBy_77 rfl ?_
            exact x_iret (pc := 80) hC hR dX10_wordBy_80 (jrR h) rfl
          · rcases jit_or h with ⟨hq, h⟩ | ⟨hr4, h⟩
            · refine x_tableIn (tgt := 72) (off := 71) (pc := 1) hC dX10_wordBy_1 (by omega) (by omega) (by rw [hq]; rfl) (by decide) ?_
              refine x_aloadA_n (pc := 72) hC dX10_wordBy_72 rfl rfl k_166 (by decide) ?_
              refine x_iload_n (pc := 73) hC dX10_wordBy_73 rfl rfl ?_
              refine x_iload_n (pc := 74) hC dX10_wordBy_74 rfl rfl ?_
              refine x_iconst (pc := 75) hC dX10_wordBy_75 ?_
              refine x_isub (pc := 76) hC dX10_wordBy_76 ?_
              obtain ⟨v11, e10, h⟩ := jbR_some h
              refine x_cV (pc := 77) hC mv_X10_362 (ok_X10_elementsBy hn e10) rfl (Nat.le_of_ble_eq_true rfl) k_166 rfl (by decide) (jRo0 C) (Nat.le_of_ble_eq_true rfl) dX10_wordBy_77 rfl ?_
              exact x_iret (pc := 80) hC hR dX10_wordBy_80 (jrR h) rfl
            · rcases jit_or h with ⟨hq, h⟩ | ⟨hr5, h⟩
              · refine x_tableIn (tgt := 72) (off := 71) (pc := 1) hC dX10_wordBy_1 (by omega) (by omega) (by rw [hq]; rfl) (by decide) ?_
                refine x_aloadA_n (pc := 72) hC dX10_wordBy_72 rfl rfl k_166 (by decide) ?_
                refine x_iload_n (pc := 73) hC dX10_wordBy_73 rfl rfl ?_
                refine x_iload_n (pc := 74) hC dX10_wordBy_74 rfl rfl ?_
                refine x_iconst (pc := 75) hC dX10_wordBy_75 ?_
                refine x_isub (pc := 76) hC dX10_wordBy_76 ?_
                obtain ⟨v13, e12, h⟩ := jbR_some h
                refine x_cV (pc := 77) hC mv_X10_362 (ok_X10_elementsBy hn e12) rfl (Nat.le_of_ble_eq_true rfl) k_166 rfl (by decide) (jRo0 C) (Nat.le_of_ble_eq_true rfl) dX10_wordBy_77 rfl ?_
                exact x_iret (pc := 80) hC hR dX10_wordBy_80 (jrR h) rfl
              · rcases jit_or h with ⟨hq, h⟩ | ⟨hr6, h⟩
                · refine x_tableIn (tgt := 81) (off := 80) (pc := 1) hC dX10_wordBy_1 (by omega) (by omega) (by rw [hq]; rfl) (by decide) ?_
                  refine x_aloadA_n (pc := 81) hC dX10_wordBy_81 rfl rfl k_166 (by decide) ?_
                  refine x_iload_n (pc := 82) hC dX10_wordBy_82 rfl rfl ?_
                  refine x_iconst (pc := 83) hC dX10_wordBy_83 ?_
                  obtain ⟨v15, e14, h⟩ := jbR_some h
                  refine x_cV (pc := 84) hC mv_X10_358 (ok_X10_triesOf hn e14) rfl (Nat.le_of_ble_eq_true rfl) k_166 rfl (by decide) (jRo0 C) (Nat.le_of_ble_eq_true rfl) dX10_wordBy_84 rfl ?_
                  exact x_iret (pc := 87) hC hR dX10_wordBy_87 (jrR h) rfl
                · have hq : jw l2 = 7 := by omega
                  refine x_tableIn (tgt := 88) (off := 87) (pc := 1) hC dX10_wordBy_1 (by omega) (by omega) (by rw [hq]; rfl) (by decide) ?_
                  refine x_aloadA_n (pc := 88) hC dX10_wordBy_88 rfl rfl k_166 (by decide) ?_
                  refine x_iload_n (pc := 89) hC dX10_wordBy_89 rfl rfl ?_
                  refine x_iconst (pc := 90) hC dX10_wordBy_90 ?_
                  obtain ⟨v17, e16, h⟩ := jbR_some h
                  refine x_cV (pc := 91) hC mv_X10_362 (ok_X10_elementsBy hn e16) rfl (Nat.le_of_ble_eq_true rfl) k_166 rfl (by decide) (jRo0 C) (Nat.le_of_ble_eq_true rfl) dX10_wordBy_91 rfl ?_
                  exact x_iret (pc := 94) hC hR dX10_wordBy_94 (jrR h) rfl

set_option maxHeartbeats 4000000 in
set_option maxRecDepth 20000 in
theorem ok_X10_held {X : jX} {n : Nat} (hn : 179 ≤ n) {l0 : Int} {M : jM} {rz : Int} (h : f_X10_held l0 = some rz) : jCt X n yX10_held cX10_held 2 (some .long) 1 [jJ l0] M (some (jJ rz)) M := by
  refine jCt_of (own := RX10) (ls := [jJ l0, jN]) (by decide +kernel) rfl hn (Nat.le_of_ble_eq_true rfl) rfl ?_
  intro C hC hR
  unfold f_X10_held at h
  refine x_ldc2 (pc := 0) hC cl_X10_365 dX10_held_0 ?_
  refine x_ldc2 (pc := 3) hC cl_X10_367 dX10_held_3 ?_
  refine x_lload_n (pc := 6) hC dX10_held_6 rfl rfl ?_
  obtain ⟨v2, e1, h⟩ := jbR_some h
  refine x_cS (pc := 7) hC ms_X10_369 (ok_J9_min_f86c9 hn e1) rfl (Nat.le_of_ble_eq_true rfl) (jRo0 C) (Nat.le_of_ble_eq_true rfl) dX10_held_7 rfl ?_
  obtain ⟨v4, e3, h⟩ := jbR_some h
  refine x_cS (pc := 10) hC ms_X10_372 (ok_J9_max_f86c9 hn e3) rfl (Nat.le_of_ble_eq_true rfl) (jRo0 C) (Nat.le_of_ble_eq_true rfl) dX10_held_10 rfl ?_
  exact x_lret (pc := 13) hC hR dX10_held_13 (jrR h) rfl

set_option maxHeartbeats 4000000 in
set_option maxRecDepth 20000 in
theorem ok_X10_worked {X : jX} {n : Nat} (hn : 179 ≤ n) {l0 : Int} {l1 : Int} {l3 : Int} {M : jM} {rz : Int} (h : f_X10_worked l0 l1 l3 = some rz) : jCt X n yX10_worked cX10_worked 5 (some .long) 2 [jI l0, jJ l1, jJ l3] M (some (jJ rz)) M := by
  refine jCt_of (own := RX10) (ls := [jI l0, jJ l1, jN, jJ l3, jN]) (by decide +kernel) rfl hn (Nat.le_of_ble_eq_true rfl) rfl ?_
  intro C hC hR
  unfold f_X10_worked at h
  refine x_iload_n (pc := 0) hC dX10_worked_0 rfl rfl ?_
  rcases jit_or h with ⟨hc, h⟩ | ⟨hc, h⟩
  · refine x_tableOut (tgt := 115) (pc := 1) hC dX10_worked_1 hc (by decide) ?_
    refine x_lload_n (pc := 115) hC dX10_worked_115 rfl rfl ?_
    refine x_lconst (z := 1) (pc := 116) hC dX10_worked_116 rfl ?_
    refine x_lcmp (pc := 117) hC dX10_worked_117 ?_
    refine x_if_ne (tgt := 125) (pc := 118) hC dX10_worked_118 (by decide) (fun hc => ?_) (fun hc => ?_)
    · replace h := jit_neg hc h
      refine x_lconst (z := 0) (pc := 125) hC dX10_worked_125 rfl ?_
      exact x_lret (pc := 126) hC hR dX10_worked_126 (jrR h) rfl
    · replace h := jit_pos hc h
      refine x_lload_n (pc := 121) hC dX10_worked_121 rfl rfl ?_
      refine x_goto (tgt := 126) (pc := 122) hC dX10_worked_122 (by decide) ?_
      exact x_lret (pc := 126) hC hR dX10_worked_126 (jrR h) rfl
  · rcases jit_or h with ⟨hq, h⟩ | ⟨hr0, h⟩
    · refine x_tableIn (tgt := 48) (off := 47) (pc := 1) hC dX10_worked_1 (by omega) (by omega) (by rw [hq]; rfl) (by decide) ?_
      refine x_lload_n (pc := 48) hC dX10_worked_48 rfl rfl ?_
      refine x_lload_n (pc := 49) hC dX10_worked_49 rfl rfl ?_
      refine x_ladd (pc := 50) hC dX10_worked_50 ?_
      obtain ⟨v2, e1, h⟩ := jbR_some h
      refine x_cS (pc := 51) hC ms_X10_374 (ok_X10_held hn e1) rfl (Nat.le_of_ble_eq_true rfl) (jRo0 C) (Nat.le_of_ble_eq_true rfl) dX10_worked_51 rfl ?_
      exact x_lret (pc := 54) hC hR dX10_worked_54 (jrR h) rfl
    · rcases jit_or h with ⟨hq, h⟩ | ⟨hr1, h⟩
      · refine x_tableIn (tgt := 55) (off := 54) (pc := 1) hC dX10_worked_1 (by omega) (by omega) (by rw [hq]; rfl) (by decide) ?_
        refine x_lload_n (pc := 55) hC dX10_worked_55 rfl rfl ?_
        refine x_lload_n (pc := 56) hC dX10_worked_56 rfl rfl ?_
        refine x_lsub (pc := 57) hC dX10_worked_57 ?_
        obtain ⟨v4, e3, h⟩ := jbR_some h
        refine x_cS (pc := 58) hC ms_X10_374 (ok_X10_held hn e3) rfl (Nat.le_of_ble_eq_true rfl) (jRo0 C) (Nat.le_of_ble_eq_true rfl) dX10_worked_58 rfl ?_
        exact x_lret (pc := 61) hC hR dX10_worked_61 (jrR h) rfl
      · rcases jit_or h with ⟨hq, h⟩ | ⟨hr2, h⟩
        · refine x_tableIn (tgt := 62) (off := 61) (pc := 1) hC dX10_worked_1 (by omega) (by omega) (by rw [hq]; rfl) (by decide) ?_
          refine x_lload_n (pc := 62) hC dX10_worked_62 rfl rfl ?_
          refine x_lload_n (pc := 63) hC dX10_worked_63 rfl rfl ?_
          refine x_lmul (pc := 64) hC dX10_worked_64 ?_
          obtain ⟨v6, e5, h⟩ := jbR_some h
          refine x_cS (pc := 65) hC ms_X10_374 (ok_X10_held hn e5) rfl (Nat.le_of_ble_eq_true rfl) (jRo0 C) (Nat.le_of_ble_eq_true rfl) dX10_worked_65 rfl ?_
          exact x_lret (pc := 68) hC hR dX10_worked_68 (jrR h) rfl
        · rcases jit_or h with ⟨hq, h⟩ | ⟨hr3, h⟩
          · refine x_tableIn (tgt := 69) (off := 68) (pc := 1) hC dX10_worked_1 (by omega) (by omega) (by rw [hq]; rfl) (by decide) ?_
            refine x_lload_n (pc := 69) hC dX10_worked_69 rfl rfl ?_
            refine x_lload_n (pc := 70) hC dX10_worked_70 rfl rfl ?_
            refine x_lcmp (pc := 71) hC dX10_worked_71 ?_
            refine x_if_ge (tgt := 79) (pc := 72) hC dX10_worked_72 (by decide) (fun hc => ?_) (fun hc => ?_)
            · replace h := jit_pos hc h
              refine x_lconst (z := 0) (pc := 79) hC dX10_worked_79 rfl ?_
              exact x_lret (pc := 80) hC hR dX10_worked_80 (jrR h) rfl
            · replace h := jit_neg hc h
              refine x_lconst (z := 1) (pc := 75) hC dX10_worked_75 rfl ?_
              refine x_goto (tgt := 80) (pc := 76) hC dX10_worked_76 (by decide) ?_
              exact x_lret (pc := 80) hC hR dX10_worked_80 (jrR h) rfl
          · rcases jit_or h with ⟨hq, h⟩ | ⟨hr4, h⟩
            · refine x_tableIn (tgt := 81) (off := 80) (pc := 1) hC dX10_worked_1 (by omega) (by omega) (by rw [hq]; rfl) (by decide) ?_
              refine x_lload_n (pc := 81) hC dX10_worked_81 rfl rfl ?_
              refine x_lload_n (pc := 82) hC dX10_worked_82 rfl rfl ?_
              refine x_lcmp (pc := 83) hC dX10_worked_83 ?_
              refine x_if_ne (tgt := 91) (pc := 84) hC dX10_worked_84 (by decide) (fun hc => ?_) (fun hc => ?_)
              · replace h := jit_neg hc h
                refine x_lconst (z := 0) (pc := 91) hC dX10_worked_91 rfl ?_
                exact x_lret (pc := 92) hC hR dX10_worked_92 (jrR h) rfl
              · replace h := jit_pos hc h
                refine x_lconst (z := 1) (pc := 87) hC dX10_worked_87 rfl ?_
                refine x_goto (tgt := 92) (pc := 88) hC dX10_worked_88 (by decide) ?_
                exact x_lret (pc := 92) hC hR dX10_worked_92 (jrR h) rfl
            · rcases jit_or h with ⟨hq, h⟩ | ⟨hr5, h⟩
              · refine x_tableIn (tgt := 93) (off := 92) (pc := 1) hC dX10_worked_1 (by omega) (by omega) (by rw [hq]; rfl) (by decide) ?_
                refine x_lload_n (pc := 93) hC dX10_worked_93 rfl rfl ?_
                refine x_lload_n (pc := 94) hC dX10_worked_94 rfl rfl ?_
                refine x_lcmp (pc := 95) hC dX10_worked_95 ?_
                refine x_if_le (tgt := 103) (pc := 96) hC dX10_worked_96 (by decide) (fun hc => ?_) (fun hc => ?_)
                · replace h := jit_pos hc h
                  refine x_lconst (z := 0) (pc := 103) hC dX10_worked_103 rfl ?_
                  exact x_lret (pc := 104) hC hR dX10_worked_104 (jrR h) rfl
                · replace h := jit_neg hc h
                  refine x_lconst (z := 1) (pc := 99) hC dX10_worked_99 rfl ?_
                  refine x_goto (tgt := 104) (pc := 100) hC dX10_worked_100 (by decide) ?_
                  exact x_lret (pc := 104) hC hR dX10_worked_104 (jrR h) rfl
              · rcases jit_or h with ⟨hq, h⟩ | ⟨hr6, h⟩
                · refine x_tableIn (tgt := 105) (off := 104) (pc := 1) hC dX10_worked_1 (by omega) (by omega) (by rw [hq]; rfl) (by decide) ?_
                  refine x_lload_n (pc := 105) hC dX10_worked_105 rfl rfl ?_
                  refine x_lload_n (pc := 106) hC dX10_worked_106 rfl rfl ?_
                  refine x_lmul (pc := 107) hC dX10_worked_107 ?_
                  exact x_lret (pc := 108) hC hR dX10_worked_108 (jrR h) rfl
                · have hq : jw l0 = 10008 := by omega
                  refine x_tableIn (tgt := 109) (off := 108) (pc := 1) hC dX10_worked_1 (by omega) (by omega) (by rw [hq]; rfl) (by decide) ?_
                  refine x_lload_n (pc := 109) hC dX10_worked_109 rfl rfl ?_
                  refine x_lload_n (pc := 110) hC dX10_worked_110 rfl rfl ?_
                  obtain ⟨v8, e7, h⟩ := jbR_some h
                  refine x_cS (pc := 111) hC ms_X10_372 (ok_J9_max_f86c9 hn e7) rfl (Nat.le_of_ble_eq_true rfl) (jRo0 C) (Nat.le_of_ble_eq_true rfl) dX10_worked_111 rfl ?_
                  exact x_lret (pc := 114) hC hR dX10_worked_114 (jrR h) rfl

set_option maxHeartbeats 4000000 in
set_option maxRecDepth 20000 in
theorem ok_X10_ruleOf {X : jX} {n : Nat} (hn : 179 ≤ n) {l1 : Int} {l2 : Int} {M : jM} {rz : Int} {Mz : jM} (h : f_X10_ruleOf l1 l2 M = some (rz, Mz)) : jCt X n yX10_ruleOf cX10_ruleOf 6 (some .int) 6 [jA 166, jI l1, jI l2] M (some (jI rz)) Mz := by
  refine jCt_of (own := RX10) (ls := [jA 166, jI l1, jI l2, jN, jN, jN]) (by decide +kernel) rfl hn (Nat.le_of_ble_eq_true rfl) rfl ?_
  intro C hC hR
  unfold f_X10_ruleOf at h
  refine x_iconst (pc := 0) hC dX10_ruleOf_0 ?_
  refine x_istore_n (ls2 := [jA 166, jI l1, jI l2, jI 0, jN, jN]) (pc := 1) hC dX10_ruleOf_1 rfl (by decide) rfl rfl rfl ?_
  refine x_aloadA_n (pc := 2) hC dX10_ruleOf_2 rfl rfl k_166 (by decide) ?_
  refine x_gf (pc := 3) (b := 169) hC fl_X10_81 ft10_9 k_166 (by decide) (off := 3) (by decide +kernel) (by decide) dX10_ruleOf_3 ?_
  refine x_sipush (pc := 6) hC dX10_ruleOf_6 rfl ?_
  refine x_iload_n (pc := 9) hC dX10_ruleOf_9 rfl rfl ?_
  refine x_iadd (pc := 10) hC dX10_ruleOf_10 ?_
  obtain ⟨hb1, h⟩ := jck_some h
  refine x_iald (pc := 11) hC k_169 (by rw [l_169]; exact hb1) dX10_ruleOf_11 ?_
  obtain ⟨l4_2, el4_2, h⟩ := jlet_some h
  refine x_istore (ls2 := [jA 166, jI l1, jI l2, jI 0, jI l4_2, jN]) (pc := 12) hC dX10_ruleOf_12 (by decide) rfl el4_2 rfl ?_
  refine jlp3_ind (P := fun (l3_3 : Int) (l4_4 : Int) (M5 : jM) => jG C X n 6 0 0 14 [jA 166, jI l1, jI l2, jI l3_3, jI l4_4, jN] [] M5) ?_ _ _ _ _ h
  intro self6 l3_3 l4_4 M5 Hself6 h
  refine x_iload (pc := 14) hC dX10_ruleOf_14 rfl ?_
  refine x_aloadA_n (pc := 16) hC dX10_ruleOf_16 rfl rfl k_166 (by decide) ?_
  refine x_gf (pc := 17) (b := 169) hC fl_X10_81 ft10_9 k_166 (by decide) (off := 3) (by decide +kernel) (by decide) dX10_ruleOf_17 ?_
  refine x_sipush (pc := 20) hC dX10_ruleOf_20 rfl ?_
  refine x_iload_n (pc := 23) hC dX10_ruleOf_23 rfl rfl ?_
  refine x_iadd (pc := 24) hC dX10_ruleOf_24 ?_
  refine x_iconst (pc := 25) hC dX10_ruleOf_25 ?_
  refine x_iadd (pc := 26) hC dX10_ruleOf_26 ?_
  obtain ⟨hb7, h⟩ := jck_some h
  refine x_iald (pc := 27) hC k_169 (by rw [l_169]; exact hb7) dX10_ruleOf_27 ?_
  refine x_icmp_ge (tgt := 134) (pc := 28) hC dX10_ruleOf_28 (by decide) (fun hc => ?_) (fun hc => ?_)
  · replace h := jit_pos hc h
    refine x_lconst (z := 0) (pc := 134) hC dX10_ruleOf_134 rfl ?_
    refine x_ldc2 (pc := 135) hC cl_X10_385 dX10_ruleOf_135 ?_
    refine x_aloadA_n (pc := 138) hC dX10_ruleOf_138 rfl rfl k_166 (by decide) ?_
    refine x_gf (pc := 139) (b := 174) hC fl_X10_96 ft10_24 k_166 (by decide) (off := 8) (by decide +kernel) (by decide) dX10_ruleOf_139 ?_
    refine x_iconst (pc := 142) hC dX10_ruleOf_142 ?_
    obtain ⟨hb8, h⟩ := jck_some h
    refine x_lald (pc := 143) hC k_174 (by omega) (by rw [l_174]; exact hb8) dX10_ruleOf_143 ?_
    obtain ⟨v10, e9, h⟩ := jbR_some h
    refine x_cS (pc := 144) hC ms_X10_369 (ok_J9_min_f86c9 hn e9) rfl (Nat.le_of_ble_eq_true rfl) (jRo0 C) (Nat.le_of_ble_eq_true rfl) dX10_ruleOf_144 rfl ?_
    obtain ⟨v12, e11, h⟩ := jbR_some h
    refine x_cS (pc := 147) hC ms_X10_372 (ok_J9_max_f86c9 hn e11) rfl (Nat.le_of_ble_eq_true rfl) (jRo0 C) (Nat.le_of_ble_eq_true rfl) dX10_ruleOf_147 rfl ?_
    refine x_l2i (pc := 150) hC dX10_ruleOf_150 ?_
    exact x_iret (pc := 151) hC hR dX10_ruleOf_151 (jr1 h) (jr2 h)
  · replace h := jit_neg hc h
    refine x_aloadA_n (pc := 31) hC dX10_ruleOf_31 rfl rfl k_166 (by decide) ?_
    refine x_gf (pc := 32) (b := 169) hC fl_X10_81 ft10_9 k_166 (by decide) (off := 3) (by decide +kernel) (by decide) dX10_ruleOf_32 ?_
    refine x_sipush (pc := 35) hC dX10_ruleOf_35 rfl ?_
    refine x_iload (pc := 38) hC dX10_ruleOf_38 rfl ?_
    refine x_iadd (pc := 40) hC dX10_ruleOf_40 ?_
    obtain ⟨hb13, h⟩ := jck_some h
    refine x_iald (pc := 41) hC k_169 (by rw [l_169]; exact hb13) dX10_ruleOf_41 ?_
    obtain ⟨l5_14, el5_14, h⟩ := jlet_some h
    refine x_istore (ls2 := [jA 166, jI l1, jI l2, jI l3_3, jI l4_4, jI l5_14]) (pc := 42) hC dX10_ruleOf_42 (by decide) rfl el5_14 rfl ?_
    refine x_iload (pc := 44) hC dX10_ruleOf_44 rfl ?_
    refine x_sipush (pc := 46) hC dX10_ruleOf_46 rfl ?_
    obtain ⟨k15, Hk15, h⟩ := jk_some (P := fun k15 => k15 = some (rz, Mz) → jG C X n 6 0 0 60 [jA 166, jI l1, jI l2, jI l3_3, jI l4_4, jI l5_14] [] M5) h (by
      intro h
      refine x_aloadA_n (pc := 60) hC dX10_ruleOf_60 rfl rfl k_166 (by decide) ?_
      refine x_gf (pc := 61) (b := 174) hC fl_X10_96 ft10_24 k_166 (by decide) (off := 8) (by decide +kernel) (by decide) dX10_ruleOf_61 ?_
      refine x_iload_n (pc := 64) hC dX10_ruleOf_64 rfl rfl ?_
      refine x_iload (pc := 65) hC dX10_ruleOf_65 rfl ?_
      refine x_sipush (pc := 67) hC dX10_ruleOf_67 rfl ?_
      obtain ⟨k17, Hk17, h⟩ := jk_some (P := fun k17 => ∀ (s2_16 : Int), k17 s2_16 = some (rz, Mz) → jG C X n 6 0 0 91 [jA 166, jI l1, jI l2, jI l3_3, jI l4_4, jI l5_14] [jJ s2_16, jI l3_3, jA 174] M5) h (by
        intro s2_16 h
        obtain ⟨hb18, h⟩ := jck_some h
        obtain ⟨M19, eM19, h⟩ := jlet_some h
        refine x_last (pc := 91) hC k_174 (by omega) (by rw [l_174]; exact hb18) dX10_ruleOf_91 eM19 ?_
        obtain ⟨l3_20, el3_20, h⟩ := jlet_some h
        refine x_iinc (ls2 := [jA 166, jI l1, jI l2, jI l3_20, jI l4_4, jI l5_14]) (pc := 92) hC dX10_ruleOf_92 rfl (by decide) rfl el3_20 rfl ?_
        refine x_goto (tgt := 128) (pc := 95) hC dX10_ruleOf_95 (by decide) ?_
        obtain ⟨l4_21, el4_21, h⟩ := jlet_some h
        refine x_iinc (ls2 := [jA 166, jI l1, jI l2, jI l3_20, jI l4_21, jI l5_14]) (pc := 128) hC dX10_ruleOf_128 rfl (by decide) rfl el4_21 rfl ?_
        refine x_goto (tgt := 14) (pc := 131) hC dX10_ruleOf_131 (by decide) ?_
        refine x_kill 5 (ls2 := [jA 166, jI l1, jI l2, jI l3_20, jI l4_21, jN]) rfl ?_
        exact Hself6 _ _ _ h)
      refine x_icmp_lt (tgt := 88) (pc := 70) hC dX10_ruleOf_70 (by decide) (fun hc => ?_) (fun hc => ?_)
      · replace h := jit_pos hc h
        refine x_iload (pc := 88) hC dX10_ruleOf_88 rfl ?_
        refine x_i2l (pc := 90) hC dX10_ruleOf_90 ?_
        exact Hk17 _ h
      · replace h := jit_neg hc h
        refine x_aloadA_n (pc := 73) hC dX10_ruleOf_73 rfl rfl k_166 (by decide) ?_
        refine x_iload_n (pc := 74) hC dX10_ruleOf_74 rfl rfl ?_
        refine x_iload (pc := 75) hC dX10_ruleOf_75 rfl ?_
        refine x_sipush (pc := 77) hC dX10_ruleOf_77 rfl ?_
        refine x_isub (pc := 80) hC dX10_ruleOf_80 ?_
        obtain ⟨v23, e22, h⟩ := jbR_some h
        refine x_cV (pc := 81) hC mv_X10_378 (ok_X10_wordBy hn e22) rfl (Nat.le_of_ble_eq_true rfl) k_166 rfl (by decide) (jRo0 C) (Nat.le_of_ble_eq_true rfl) dX10_ruleOf_81 rfl ?_
        refine x_i2l (pc := 84) hC dX10_ruleOf_84 ?_
        refine x_goto (tgt := 91) (pc := 85) hC dX10_ruleOf_85 (by decide) ?_
        exact Hk17 _ h)
    refine x_icmp_le (tgt := 60) (pc := 49) hC dX10_ruleOf_49 (by decide) (fun hc => ?_) (fun hc => ?_)
    · replace h := jit_pos hc h
      exact Hk15 h
    · replace h := jit_neg hc h
      refine x_iload (pc := 52) hC dX10_ruleOf_52 rfl ?_
      refine x_sipush (pc := 54) hC dX10_ruleOf_54 rfl ?_
      refine x_icmp_lt (tgt := 98) (pc := 57) hC dX10_ruleOf_57 (by decide) (fun hc => ?_) (fun hc => ?_)
      · replace h := jit_pos hc h
        obtain ⟨l3_24, el3_24, h⟩ := jlet_some h
        refine x_iinc (ls2 := [jA 166, jI l1, jI l2, jI l3_24, jI l4_4, jI l5_14]) (pc := 98) hC dX10_ruleOf_98 rfl (by decide) rfl el3_24 rfl ?_
        refine x_aloadA_n (pc := 101) hC dX10_ruleOf_101 rfl rfl k_166 (by decide) ?_
        refine x_gf (pc := 102) (b := 174) hC fl_X10_96 ft10_24 k_166 (by decide) (off := 8) (by decide +kernel) (by decide) dX10_ruleOf_102 ?_
        refine x_iload_n (pc := 105) hC dX10_ruleOf_105 rfl rfl ?_
        refine x_iconst (pc := 106) hC dX10_ruleOf_106 ?_
        refine x_isub (pc := 107) hC dX10_ruleOf_107 ?_
        refine x_iload (pc := 108) hC dX10_ruleOf_108 rfl ?_
        refine x_aloadA_n (pc := 110) hC dX10_ruleOf_110 rfl rfl k_166 (by decide) ?_
        refine x_gf (pc := 111) (b := 174) hC fl_X10_96 ft10_24 k_166 (by decide) (off := 8) (by decide +kernel) (by decide) dX10_ruleOf_111 ?_
        refine x_iload_n (pc := 114) hC dX10_ruleOf_114 rfl rfl ?_
        refine x_iconst (pc := 115) hC dX10_ruleOf_115 ?_
        refine x_isub (pc := 116) hC dX10_ruleOf_116 ?_
        obtain ⟨hb25, h⟩ := jck_some h
        refine x_lald (pc := 117) hC k_174 (by omega) (by rw [l_174]; exact hb25) dX10_ruleOf_117 ?_
        refine x_aloadA_n (pc := 118) hC dX10_ruleOf_118 rfl rfl k_166 (by decide) ?_
        refine x_gf (pc := 119) (b := 174) hC fl_X10_96 ft10_24 k_166 (by decide) (off := 8) (by decide +kernel) (by decide) dX10_ruleOf_119 ?_
        refine x_iload_n (pc := 122) hC dX10_ruleOf_122 rfl rfl ?_
        obtain ⟨hb26, h⟩ := jck_some h
        refine x_lald (pc := 123) hC k_174 (by omega) (by rw [l_174]; exact hb26) dX10_ruleOf_123 ?_
        obtain ⟨v28, e27, h⟩ := jbR_some h
        refine x_cS (pc := 124) hC ms_X10_381 (ok_X10_worked hn e27) rfl (Nat.le_of_ble_eq_true rfl) (jRo0 C) (Nat.le_of_ble_eq_true rfl) dX10_ruleOf_124 rfl ?_
        obtain ⟨hb29, h⟩ := jck_some h
        obtain ⟨M30, eM30, h⟩ := jlet_some h
        refine x_last (pc := 127) hC k_174 (by omega) (by rw [l_174]; exact hb29) dX10_ruleOf_127 eM30 ?_
        obtain ⟨l4_31, el4_31, h⟩ := jlet_some h
        refine x_iinc (ls2 := [jA 166, jI l1, jI l2, jI l3_24, jI l4_31, jI l5_14]) (pc := 128) hC dX10_ruleOf_128 rfl (by decide) rfl el4_31 rfl ?_
        refine x_goto (tgt := 14) (pc := 131) hC dX10_ruleOf_131 (by decide) ?_
        refine x_kill 5 (ls2 := [jA 166, jI l1, jI l2, jI l3_24, jI l4_31, jN]) rfl ?_
        exact Hself6 _ _ _ h
      · replace h := jit_neg hc h
        exact Hk15 h

set_option maxHeartbeats 4000000 in
set_option maxRecDepth 20000 in
theorem ok_X10_deductedOf {X : jX} {n : Nat} (hn : 179 ≤ n) {l1 : Int} {M : jM} {rz : Int} {Mz : jM} (h : f_X10_deductedOf l1 M = some (rz, Mz)) : jCt X n yX10_deductedOf cX10_deductedOf 4 (some .int) 7 [jA 166, jI l1] M (some (jI rz)) Mz := by
  refine jCt_of (own := RX10) (ls := [jA 166, jI l1, jN, jN]) (by decide +kernel) rfl hn (Nat.le_of_ble_eq_true rfl) rfl ?_
  intro C hC hR
  unfold f_X10_deductedOf at h
  refine x_iconst (pc := 0) hC dX10_deductedOf_0 ?_
  refine x_istore_n (ls2 := [jA 166, jI l1, jI 0, jN]) (pc := 1) hC dX10_deductedOf_1 rfl (by decide) rfl rfl rfl ?_
  refine x_iconst (pc := 2) hC dX10_deductedOf_2 ?_
  refine x_istore_n (ls2 := [jA 166, jI l1, jI 0, jI 0]) (pc := 3) hC dX10_deductedOf_3 rfl (by decide) rfl rfl rfl ?_
  refine jlp3_ind (P := fun (l2_1 : Int) (l3_2 : Int) (M3 : jM) => jG C X n 4 0 0 4 [jA 166, jI l1, jI l2_1, jI l3_2] [] M3) ?_ _ _ _ _ h
  intro self4 l2_1 l3_2 M3 Hself4 h
  refine x_iload_n (pc := 4) hC dX10_deductedOf_4 rfl rfl ?_
  refine x_aloadA_n (pc := 5) hC dX10_deductedOf_5 rfl rfl k_166 (by decide) ?_
  refine x_gf (pc := 6) (b := 169) hC fl_X10_81 ft10_9 k_166 (by decide) (off := 3) (by decide +kernel) (by decide) dX10_deductedOf_6 ?_
  refine x_iconst (pc := 9) hC dX10_deductedOf_9 ?_
  obtain ⟨hb5, h⟩ := jck_some h
  refine x_iald (pc := 10) hC k_169 (by rw [l_169]; exact hb5) dX10_deductedOf_10 ?_
  refine x_icmp_ge (tgt := 29) (pc := 11) hC dX10_deductedOf_11 (by decide) (fun hc => ?_) (fun hc => ?_)
  · replace h := jit_pos hc h
    refine x_iload_n (pc := 29) hC dX10_deductedOf_29 rfl rfl ?_
    exact x_iret (pc := 30) hC hR dX10_deductedOf_30 (jr1 h) (jr2 h)
  · replace h := jit_neg hc h
    refine x_iload_n (pc := 14) hC dX10_deductedOf_14 rfl rfl ?_
    refine x_aloadA_n (pc := 15) hC dX10_deductedOf_15 rfl rfl k_166 (by decide) ?_
    refine x_iload_n (pc := 16) hC dX10_deductedOf_16 rfl rfl ?_
    refine x_iload_n (pc := 17) hC dX10_deductedOf_17 rfl rfl ?_
    obtain ⟨v8, M7, e6, h⟩ := jbW_some h
    refine x_cV (pc := 18) hC mv_X10_387 (ok_X10_ruleOf hn e6) rfl (Nat.le_of_ble_eq_true rfl) k_166 rfl (by decide) (jRo0 C) (Nat.le_of_ble_eq_true rfl) dX10_deductedOf_18 rfl ?_
    refine x_iadd (pc := 21) hC dX10_deductedOf_21 ?_
    obtain ⟨l2_9, el2_9, h⟩ := jlet_some h
    refine x_istore_n (ls2 := [jA 166, jI l1, jI l2_9, jI l3_2]) (pc := 22) hC dX10_deductedOf_22 rfl (by decide) rfl el2_9 rfl ?_
    obtain ⟨l3_10, el3_10, h⟩ := jlet_some h
    refine x_iinc (ls2 := [jA 166, jI l1, jI l2_9, jI l3_10]) (pc := 23) hC dX10_deductedOf_23 rfl (by decide) rfl el3_10 rfl ?_
    refine x_goto (tgt := 4) (pc := 26) hC dX10_deductedOf_26 (by decide) ?_
    exact Hself4 _ _ _ h

set_option maxHeartbeats 4000000 in
set_option maxRecDepth 20000 in
theorem ok_X10_totalOf {X : jX} {n : Nat} (hn : 179 ≤ n) {l1 : Int} {M : jM} {rz : Int} {Mz : jM} (h : f_X10_totalOf l1 M = some (rz, Mz)) : jCt X n yX10_totalOf cX10_totalOf 2 (some .int) 8 [jA 166, jI l1] M (some (jI rz)) Mz := by
  refine jCt_of (own := RX10) (ls := [jA 166, jI l1]) (by decide +kernel) rfl hn (Nat.le_of_ble_eq_true rfl) rfl ?_
  intro C hC hR
  unfold f_X10_totalOf at h
  refine x_iconst (pc := 0) hC dX10_totalOf_0 ?_
  refine x_aloadA_n (pc := 1) hC dX10_totalOf_1 rfl rfl k_166 (by decide) ?_
  refine x_iload_n (pc := 2) hC dX10_totalOf_2 rfl rfl ?_
  obtain ⟨v3, M2, e1, h⟩ := jbW_some h
  refine x_cV (pc := 3) hC mv_X10_390 (ok_X10_pointsOf hn e1) rfl (Nat.le_of_ble_eq_true rfl) k_166 rfl (by decide) (jRo0 C) (Nat.le_of_ble_eq_true rfl) dX10_totalOf_3 rfl ?_
  refine x_aloadA_n (pc := 6) hC dX10_totalOf_6 rfl rfl k_166 (by decide) ?_
  refine x_iload_n (pc := 7) hC dX10_totalOf_7 rfl rfl ?_
  obtain ⟨v6, M5, e4, h⟩ := jbW_some h
  refine x_cV (pc := 8) hC mv_X10_393 (ok_X10_shownOf hn e4) rfl (Nat.le_of_ble_eq_true rfl) k_166 rfl (by decide) (jRo0 C) (Nat.le_of_ble_eq_true rfl) dX10_totalOf_8 rfl ?_
  refine x_iadd (pc := 11) hC dX10_totalOf_11 ?_
  refine x_bipush (pc := 12) hC dX10_totalOf_12 rfl ?_
  refine x_aloadA_n (pc := 14) hC dX10_totalOf_14 rfl rfl k_166 (by decide) ?_
  refine x_iload_n (pc := 15) hC dX10_totalOf_15 rfl rfl ?_
  refine x_iconst (pc := 16) hC dX10_totalOf_16 ?_
  obtain ⟨v8, e7, h⟩ := jbR_some h
  refine x_cV (pc := 17) hC mv_X10_355 (ok_X10_calledOf hn e7) rfl (Nat.le_of_ble_eq_true rfl) k_166 rfl (by decide) (jRo0 C) (Nat.le_of_ble_eq_true rfl) dX10_totalOf_17 rfl ?_
  refine x_imul (pc := 20) hC dX10_totalOf_20 ?_
  refine x_isub (pc := 21) hC dX10_totalOf_21 ?_
  refine x_aloadA_n (pc := 22) hC dX10_totalOf_22 rfl rfl k_166 (by decide) ?_
  refine x_iload_n (pc := 23) hC dX10_totalOf_23 rfl rfl ?_
  obtain ⟨v11, M10, e9, h⟩ := jbW_some h
  refine x_cV (pc := 24) hC mv_X10_396 (ok_X10_deductedOf hn e9) rfl (Nat.le_of_ble_eq_true rfl) k_166 rfl (by decide) (jRo0 C) (Nat.le_of_ble_eq_true rfl) dX10_totalOf_24 rfl ?_
  refine x_isub (pc := 27) hC dX10_totalOf_27 ?_
  obtain ⟨v13, e12, h⟩ := jbR_some h
  refine x_cS (pc := 28) hC ms_X10_253 (ok_J9_max_7cf53 hn e12) rfl (Nat.le_of_ble_eq_true rfl) (jRo0 C) (Nat.le_of_ble_eq_true rfl) dX10_totalOf_28 rfl ?_
  exact x_iret (pc := 31) hC hR dX10_totalOf_31 (jr1 h) (jr2 h)

set_option maxHeartbeats 4000000 in
set_option maxRecDepth 20000 in
theorem ok_X10_laysTotals {X : jX} {n : Nat} (hn : 179 ≤ n) {M : jM} {Mz : jM} (h : f_X10_laysTotals M = some Mz) : jCt X n yX10_laysTotals cX10_laysTotals 2 (none) 9 [jA 166] M (none) Mz := by
  refine jCt_of (own := RX10) (ls := [jA 166, jN]) (by decide +kernel) rfl hn (Nat.le_of_ble_eq_true rfl) rfl ?_
  intro C hC hR
  unfold f_X10_laysTotals at h
  refine x_iconst (pc := 0) hC dX10_laysTotals_0 ?_
  refine x_istore_n (ls2 := [jA 166, jI 0]) (pc := 1) hC dX10_laysTotals_1 rfl (by decide) rfl rfl rfl ?_
  refine jlp2_ind (P := fun (l1_1 : Int) (M2 : jM) => jG C X n 2 0 0 2 [jA 166, jI l1_1] [] M2) ?_ _ _ _ h
  intro self3 l1_1 M2 Hself3 h
  refine x_iload_n (pc := 2) hC dX10_laysTotals_2 rfl rfl ?_
  refine x_aloadA_n (pc := 3) hC dX10_laysTotals_3 rfl rfl k_166 (by decide) ?_
  refine x_gf (pc := 4) (b := 169) hC fl_X10_81 ft10_9 k_166 (by decide) (off := 3) (by decide +kernel) (by decide) dX10_laysTotals_4 ?_
  refine x_iconst (pc := 7) hC dX10_laysTotals_7 ?_
  obtain ⟨hb4, h⟩ := jck_some h
  refine x_iald (pc := 8) hC k_169 (by rw [l_169]; exact hb4) dX10_laysTotals_8 ?_
  refine x_icmp_ge (tgt := 40) (pc := 9) hC dX10_laysTotals_9 (by decide) (fun hc => ?_) (fun hc => ?_)
  · replace h := jit_pos hc h
    exact x_vret (pc := 40) hC hR dX10_laysTotals_40 (jrR h)
  · replace h := jit_neg hc h
    refine x_aloadA_n (pc := 12) hC dX10_laysTotals_12 rfl rfl k_166 (by decide) ?_
    refine x_gf (pc := 13) (b := 175) hC fl_X10_100 ft10_25 k_166 (by decide) (off := 9) (by decide +kernel) (by decide) dX10_laysTotals_13 ?_
    refine x_iload_n (pc := 16) hC dX10_laysTotals_16 rfl rfl ?_
    refine x_aloadA_n (pc := 17) hC dX10_laysTotals_17 rfl rfl k_166 (by decide) ?_
    refine x_iload_n (pc := 18) hC dX10_laysTotals_18 rfl rfl ?_
    obtain ⟨v7, M6, e5, h⟩ := jbW_some h
    refine x_cV (pc := 19) hC mv_X10_399 (ok_X10_totalOf hn e5) rfl (Nat.le_of_ble_eq_true rfl) k_166 rfl (by decide) (jRo0 C) (Nat.le_of_ble_eq_true rfl) dX10_laysTotals_19 rfl ?_
    obtain ⟨hb8, h⟩ := jck_some h
    obtain ⟨M9, eM9, h⟩ := jlet_some h
    refine x_iast (pc := 22) hC k_175 (by rw [l_175]; exact hb8) dX10_laysTotals_22 eM9 ?_
    refine x_aloadA_n (pc := 23) hC dX10_laysTotals_23 rfl rfl k_166 (by decide) ?_
    refine x_gf (pc := 24) (b := 176) hC fl_X10_103 ft10_26 k_166 (by decide) (off := 10) (by decide +kernel) (by decide) dX10_laysTotals_24 ?_
    refine x_iload_n (pc := 27) hC dX10_laysTotals_27 rfl rfl ?_
    refine x_aloadA_n (pc := 28) hC dX10_laysTotals_28 rfl rfl k_166 (by decide) ?_
    refine x_iload_n (pc := 29) hC dX10_laysTotals_29 rfl rfl ?_
    obtain ⟨v12, M11, e10, h⟩ := jbW_some h
    refine x_cV (pc := 30) hC mv_X10_390 (ok_X10_pointsOf hn e10) rfl (Nat.le_of_ble_eq_true rfl) k_166 rfl (by decide) (jRo0 C) (Nat.le_of_ble_eq_true rfl) dX10_laysTotals_30 rfl ?_
    obtain ⟨hb13, h⟩ := jck_some h
    obtain ⟨M14, eM14, h⟩ := jlet_some h
    refine x_iast (pc := 33) hC k_176 (by rw [l_176]; exact hb13) dX10_laysTotals_33 eM14 ?_
    obtain ⟨l1_15, el1_15, h⟩ := jlet_some h
    refine x_iinc (ls2 := [jA 166, jI l1_15]) (pc := 34) hC dX10_laysTotals_34 rfl (by decide) rfl el1_15 rfl ?_
    refine x_goto (tgt := 2) (pc := 37) hC dX10_laysTotals_37 (by decide) ?_
    exact Hself3 _ _ h

set_option maxHeartbeats 4000000 in
set_option maxRecDepth 20000 in
theorem ok_X10_isAhead {X : jX} {n : Nat} (hn : 179 ≤ n) {l1 : Int} {l2 : Int} {M : jM} {rz : Int} (h : f_X10_isAhead l1 l2 M = some rz) : jCt X n yX10_isAhead cX10_isAhead 3 (some .boolean) 0 [jA 166, jI l1, jI l2] M (some (jI rz)) M := by
  refine jCt_of (own := RX10) (ls := [jA 166, jI l1, jI l2]) (by decide +kernel) rfl hn (Nat.le_of_ble_eq_true rfl) rfl ?_
  intro C hC hR
  unfold f_X10_isAhead at h
  refine x_aloadA_n (pc := 0) hC dX10_isAhead_0 rfl rfl k_166 (by decide) ?_
  refine x_gf (pc := 1) (b := 175) hC fl_X10_100 ft10_25 k_166 (by decide) (off := 9) (by decide +kernel) (by decide) dX10_isAhead_1 ?_
  refine x_iload_n (pc := 4) hC dX10_isAhead_4 rfl rfl ?_
  obtain ⟨hb1, h⟩ := jck_some h
  refine x_iald (pc := 5) hC k_175 (by rw [l_175]; exact hb1) dX10_isAhead_5 ?_
  refine x_aloadA_n (pc := 6) hC dX10_isAhead_6 rfl rfl k_166 (by decide) ?_
  refine x_gf (pc := 7) (b := 175) hC fl_X10_100 ft10_25 k_166 (by decide) (off := 9) (by decide +kernel) (by decide) dX10_isAhead_7 ?_
  refine x_iload_n (pc := 10) hC dX10_isAhead_10 rfl rfl ?_
  obtain ⟨hb2, h⟩ := jck_some h
  refine x_iald (pc := 11) hC k_175 (by rw [l_175]; exact hb2) dX10_isAhead_11 ?_
  refine x_icmp_eq (tgt := 38) (pc := 12) hC dX10_isAhead_12 (by decide) (fun hc => ?_) (fun hc => ?_)
  · replace h := jit_pos hc h
    refine x_aloadA_n (pc := 38) hC dX10_isAhead_38 rfl rfl k_166 (by decide) ?_
    refine x_gf (pc := 39) (b := 176) hC fl_X10_103 ft10_26 k_166 (by decide) (off := 10) (by decide +kernel) (by decide) dX10_isAhead_39 ?_
    refine x_iload_n (pc := 42) hC dX10_isAhead_42 rfl rfl ?_
    obtain ⟨hb3, h⟩ := jck_some h
    refine x_iald (pc := 43) hC k_176 (by rw [l_176]; exact hb3) dX10_isAhead_43 ?_
    refine x_aloadA_n (pc := 44) hC dX10_isAhead_44 rfl rfl k_166 (by decide) ?_
    refine x_gf (pc := 45) (b := 176) hC fl_X10_103 ft10_26 k_166 (by decide) (off := 10) (by decide +kernel) (by decide) dX10_isAhead_45 ?_
    refine x_iload_n (pc := 48) hC dX10_isAhead_48 rfl rfl ?_
    obtain ⟨hb4, h⟩ := jck_some h
    refine x_iald (pc := 49) hC k_176 (by rw [l_176]; exact hb4) dX10_isAhead_49 ?_
    refine x_icmp_eq (tgt := 76) (pc := 50) hC dX10_isAhead_50 (by decide) (fun hc => ?_) (fun hc => ?_)
    · replace h := jit_pos hc h
      refine x_iload_n (pc := 76) hC dX10_isAhead_76 rfl rfl ?_
      refine x_iload_n (pc := 77) hC dX10_isAhead_77 rfl rfl ?_
      refine x_icmp_ge (tgt := 85) (pc := 78) hC dX10_isAhead_78 (by decide) (fun hc => ?_) (fun hc => ?_)
      · replace h := jit_pos hc h
        refine x_iconst (pc := 85) hC dX10_isAhead_85 ?_
        exact x_zret (pc := 86) hC hR dX10_isAhead_86 (Or.inl jw0) (jrR h) rfl
      · replace h := jit_neg hc h
        refine x_iconst (pc := 81) hC dX10_isAhead_81 ?_
        refine x_goto (tgt := 86) (pc := 82) hC dX10_isAhead_82 (by decide) ?_
        exact x_zret (pc := 86) hC hR dX10_isAhead_86 (Or.inr jw1) (jrR h) rfl
    · replace h := jit_neg hc h
      refine x_aloadA_n (pc := 53) hC dX10_isAhead_53 rfl rfl k_166 (by decide) ?_
      refine x_gf (pc := 54) (b := 176) hC fl_X10_103 ft10_26 k_166 (by decide) (off := 10) (by decide +kernel) (by decide) dX10_isAhead_54 ?_
      refine x_iload_n (pc := 57) hC dX10_isAhead_57 rfl rfl ?_
      obtain ⟨hb5, h⟩ := jck_some h
      refine x_iald (pc := 58) hC k_176 (by rw [l_176]; exact hb5) dX10_isAhead_58 ?_
      refine x_aloadA_n (pc := 59) hC dX10_isAhead_59 rfl rfl k_166 (by decide) ?_
      refine x_gf (pc := 60) (b := 176) hC fl_X10_103 ft10_26 k_166 (by decide) (off := 10) (by decide +kernel) (by decide) dX10_isAhead_60 ?_
      refine x_iload_n (pc := 63) hC dX10_isAhead_63 rfl rfl ?_
      obtain ⟨hb6, h⟩ := jck_some h
      refine x_iald (pc := 64) hC k_176 (by rw [l_176]; exact hb6) dX10_isAhead_64 ?_
      refine x_icmp_le (tgt := 72) (pc := 65) hC dX10_isAhead_65 (by decide) (fun hc => ?_) (fun hc => ?_)
      · replace h := jit_pos hc h
        refine x_iconst (pc := 72) hC dX10_isAhead_72 ?_
        refine x_goto (tgt := 86) (pc := 73) hC dX10_isAhead_73 (by decide) ?_
        exact x_zret (pc := 86) hC hR dX10_isAhead_86 (Or.inl jw0) (jrR h) rfl
      · replace h := jit_neg hc h
        refine x_iconst (pc := 68) hC dX10_isAhead_68 ?_
        refine x_goto (tgt := 86) (pc := 69) hC dX10_isAhead_69 (by decide) ?_
        exact x_zret (pc := 86) hC hR dX10_isAhead_86 (Or.inr jw1) (jrR h) rfl
  · replace h := jit_neg hc h
    refine x_aloadA_n (pc := 15) hC dX10_isAhead_15 rfl rfl k_166 (by decide) ?_
    refine x_gf (pc := 16) (b := 175) hC fl_X10_100 ft10_25 k_166 (by decide) (off := 9) (by decide +kernel) (by decide) dX10_isAhead_16 ?_
    refine x_iload_n (pc := 19) hC dX10_isAhead_19 rfl rfl ?_
    obtain ⟨hb7, h⟩ := jck_some h
    refine x_iald (pc := 20) hC k_175 (by rw [l_175]; exact hb7) dX10_isAhead_20 ?_
    refine x_aloadA_n (pc := 21) hC dX10_isAhead_21 rfl rfl k_166 (by decide) ?_
    refine x_gf (pc := 22) (b := 175) hC fl_X10_100 ft10_25 k_166 (by decide) (off := 9) (by decide +kernel) (by decide) dX10_isAhead_22 ?_
    refine x_iload_n (pc := 25) hC dX10_isAhead_25 rfl rfl ?_
    obtain ⟨hb8, h⟩ := jck_some h
    refine x_iald (pc := 26) hC k_175 (by rw [l_175]; exact hb8) dX10_isAhead_26 ?_
    refine x_icmp_le (tgt := 34) (pc := 27) hC dX10_isAhead_27 (by decide) (fun hc => ?_) (fun hc => ?_)
    · replace h := jit_pos hc h
      refine x_iconst (pc := 34) hC dX10_isAhead_34 ?_
      refine x_goto (tgt := 86) (pc := 35) hC dX10_isAhead_35 (by decide) ?_
      exact x_zret (pc := 86) hC hR dX10_isAhead_86 (Or.inl jw0) (jrR h) rfl
    · replace h := jit_neg hc h
      refine x_iconst (pc := 30) hC dX10_isAhead_30 ?_
      refine x_goto (tgt := 86) (pc := 31) hC dX10_isAhead_31 (by decide) ?_
      exact x_zret (pc := 86) hC hR dX10_isAhead_86 (Or.inr jw1) (jrR h) rfl

set_option maxHeartbeats 4000000 in
set_option maxRecDepth 20000 in
theorem ok_X10_rankOf {X : jX} {n : Nat} (hn : 179 ≤ n) {l1 : Int} {M : jM} {rz : Int} (h : f_X10_rankOf l1 M = some rz) : jCt X n yX10_rankOf cX10_rankOf 4 (some .int) 1 [jA 166, jI l1] M (some (jI rz)) M := by
  refine jCt_of (own := RX10) (ls := [jA 166, jI l1, jN, jN]) (by decide +kernel) rfl hn (Nat.le_of_ble_eq_true rfl) rfl ?_
  intro C hC hR
  unfold f_X10_rankOf at h
  refine x_iconst (pc := 0) hC dX10_rankOf_0 ?_
  refine x_istore_n (ls2 := [jA 166, jI l1, jI 0, jN]) (pc := 1) hC dX10_rankOf_1 rfl (by decide) rfl rfl rfl ?_
  refine x_iconst (pc := 2) hC dX10_rankOf_2 ?_
  refine x_istore_n (ls2 := [jA 166, jI l1, jI 0, jI 0]) (pc := 3) hC dX10_rankOf_3 rfl (by decide) rfl rfl rfl ?_
  refine jlp2_ind (P := fun (l2_1 : Int) (l3_2 : Int) => jG C X n 4 0 0 4 [jA 166, jI l1, jI l2_1, jI l3_2] [] M) ?_ _ _ _ h
  intro self3 l2_1 l3_2 Hself3 h
  refine x_iload_n (pc := 4) hC dX10_rankOf_4 rfl rfl ?_
  refine x_aloadA_n (pc := 5) hC dX10_rankOf_5 rfl rfl k_166 (by decide) ?_
  refine x_gf (pc := 6) (b := 169) hC fl_X10_81 ft10_9 k_166 (by decide) (off := 3) (by decide +kernel) (by decide) dX10_rankOf_6 ?_
  refine x_iconst (pc := 9) hC dX10_rankOf_9 ?_
  obtain ⟨hb4, h⟩ := jck_some h
  refine x_iald (pc := 10) hC k_169 (by rw [l_169]; exact hb4) dX10_rankOf_10 ?_
  refine x_icmp_ge (tgt := 42) (pc := 11) hC dX10_rankOf_11 (by decide) (fun hc => ?_) (fun hc => ?_)
  · replace h := jit_pos hc h
    refine x_iload_n (pc := 42) hC dX10_rankOf_42 rfl rfl ?_
    exact x_iret (pc := 43) hC hR dX10_rankOf_43 (jrR h) rfl
  · replace h := jit_neg hc h
    refine x_iload_n (pc := 14) hC dX10_rankOf_14 rfl rfl ?_
    refine x_iload_n (pc := 15) hC dX10_rankOf_15 rfl rfl ?_
    refine x_iload_n (pc := 16) hC dX10_rankOf_16 rfl rfl ?_
    obtain ⟨k6, Hk6, h⟩ := jk_some (P := fun k6 => ∀ (s1_5 : Int), k6 s1_5 = some rz → jG C X n 4 0 0 34 [jA 166, jI l1, jI l2_1, jI l3_2] [jI s1_5, jI l2_1] M) h (by
      intro s1_5 h
      refine x_iadd (pc := 34) hC dX10_rankOf_34 ?_
      obtain ⟨l2_7, el2_7, h⟩ := jlet_some h
      refine x_istore_n (ls2 := [jA 166, jI l1, jI l2_7, jI l3_2]) (pc := 35) hC dX10_rankOf_35 rfl (by decide) rfl el2_7 rfl ?_
      obtain ⟨l3_8, el3_8, h⟩ := jlet_some h
      refine x_iinc (ls2 := [jA 166, jI l1, jI l2_7, jI l3_8]) (pc := 36) hC dX10_rankOf_36 rfl (by decide) rfl el3_8 rfl ?_
      refine x_goto (tgt := 4) (pc := 39) hC dX10_rankOf_39 (by decide) ?_
      exact Hself3 _ _ h)
    obtain ⟨k9, Hk9, h⟩ := jk_some (P := fun k9 => k9 = some rz → jG C X n 4 0 0 33 [jA 166, jI l1, jI l2_1, jI l3_2] [jI l2_1] M) h (by
      intro h
      refine x_iconst (pc := 33) hC dX10_rankOf_33 ?_
      exact Hk6 _ h)
    refine x_icmp_eq (tgt := 33) (pc := 17) hC dX10_rankOf_17 (by decide) (fun hc => ?_) (fun hc => ?_)
    · replace h := jit_pos hc h
      exact Hk9 h
    · replace h := jit_neg hc h
      refine x_aloadA_n (pc := 20) hC dX10_rankOf_20 rfl rfl k_166 (by decide) ?_
      refine x_iload_n (pc := 21) hC dX10_rankOf_21 rfl rfl ?_
      refine x_iload_n (pc := 22) hC dX10_rankOf_22 rfl rfl ?_
      obtain ⟨v11, e10, h⟩ := jbR_some h
      refine x_cV (pc := 23) hC mv_X10_402 (ok_X10_isAhead hn e10) rfl (Nat.le_of_ble_eq_true rfl) k_166 rfl (by decide) (jRo0 C) (Nat.le_of_ble_eq_true rfl) dX10_rankOf_23 rfl ?_
      refine x_if_eq (tgt := 33) (pc := 26) hC dX10_rankOf_26 (by decide) (fun hc => ?_) (fun hc => ?_)
      · replace h := jit_pos hc h
        exact Hk9 h
      · replace h := jit_neg hc h
        refine x_iconst (pc := 29) hC dX10_rankOf_29 ?_
        refine x_goto (tgt := 34) (pc := 30) hC dX10_rankOf_30 (by decide) ?_
        exact Hk6 _ h

set_option maxHeartbeats 4000000 in
set_option maxRecDepth 20000 in
theorem ok_X10_rankedAt {X : jX} {n : Nat} (hn : 179 ≤ n) {l1 : Int} {M : jM} {rz : Int} (h : f_X10_rankedAt l1 M = some rz) : jCt X n yX10_rankedAt cX10_rankedAt 3 (some .int) 2 [jA 166, jI l1] M (some (jI rz)) M := by
  refine jCt_of (own := RX10) (ls := [jA 166, jI l1, jN]) (by decide +kernel) rfl hn (Nat.le_of_ble_eq_true rfl) rfl ?_
  intro C hC hR
  unfold f_X10_rankedAt at h
  refine x_iconst (pc := 0) hC dX10_rankedAt_0 ?_
  refine x_istore_n (ls2 := [jA 166, jI l1, jI 0]) (pc := 1) hC dX10_rankedAt_1 rfl (by decide) rfl rfl rfl ?_
  refine jlp1_ind (P := fun (l2_1 : Int) => jG C X n 3 0 0 2 [jA 166, jI l1, jI l2_1] [] M) ?_ _ _ h
  intro self2 l2_1 Hself2 h
  refine x_iload_n (pc := 2) hC dX10_rankedAt_2 rfl rfl ?_
  refine x_aloadA_n (pc := 3) hC dX10_rankedAt_3 rfl rfl k_166 (by decide) ?_
  refine x_gf (pc := 4) (b := 169) hC fl_X10_81 ft10_9 k_166 (by decide) (off := 3) (by decide +kernel) (by decide) dX10_rankedAt_4 ?_
  refine x_iconst (pc := 7) hC dX10_rankedAt_7 ?_
  obtain ⟨hb3, h⟩ := jck_some h
  refine x_iald (pc := 8) hC k_169 (by rw [l_169]; exact hb3) dX10_rankedAt_8 ?_
  refine x_icmp_ge (tgt := 29) (pc := 9) hC dX10_rankedAt_9 (by decide) (fun hc => ?_) (fun hc => ?_)
  · replace h := jit_pos hc h
    refine x_iconst (pc := 29) hC dX10_rankedAt_29 ?_
    exact x_iret (pc := 30) hC hR dX10_rankedAt_30 (jrR h) rfl
  · replace h := jit_neg hc h
    refine x_aloadA_n (pc := 12) hC dX10_rankedAt_12 rfl rfl k_166 (by decide) ?_
    refine x_iload_n (pc := 13) hC dX10_rankedAt_13 rfl rfl ?_
    obtain ⟨v5, e4, h⟩ := jbR_some h
    refine x_cV (pc := 14) hC mv_X10_405 (ok_X10_rankOf hn e4) rfl (Nat.le_of_ble_eq_true rfl) k_166 rfl (by decide) (jRo0 C) (Nat.le_of_ble_eq_true rfl) dX10_rankedAt_14 rfl ?_
    refine x_iload_n (pc := 17) hC dX10_rankedAt_17 rfl rfl ?_
    refine x_icmp_ne (tgt := 23) (pc := 18) hC dX10_rankedAt_18 (by decide) (fun hc => ?_) (fun hc => ?_)
    · replace h := jit_neg hc h
      obtain ⟨l2_6, el2_6, h⟩ := jlet_some h
      refine x_iinc (ls2 := [jA 166, jI l1, jI l2_6]) (pc := 23) hC dX10_rankedAt_23 rfl (by decide) rfl el2_6 rfl ?_
      refine x_goto (tgt := 2) (pc := 26) hC dX10_rankedAt_26 (by decide) ?_
      exact Hself2 _ h
    · replace h := jit_pos hc h
      refine x_iload_n (pc := 21) hC dX10_rankedAt_21 rfl rfl ?_
      exact x_iret (pc := 22) hC hR dX10_rankedAt_22 (jrR h) rfl

set_option maxHeartbeats 4000000 in
set_option maxRecDepth 20000 in
theorem ok_X10_noSkater {X : jX} {n : Nat} (hn : 179 ≤ n) {l1 : Int} {M : jM} {rz : Int} {Mz : jM} (h : f_X10_noSkater l1 M = some (rz, Mz)) : jCt X n yX10_noSkater cX10_noSkater 2 (some .boolean) 1 [jA 166, jI l1] M (some (jI rz)) Mz := by
  refine jCt_of (own := RX10) (ls := [jA 166, jI l1]) (by decide +kernel) rfl hn (Nat.le_of_ble_eq_true rfl) rfl ?_
  intro C hC hR
  unfold f_X10_noSkater at h
  refine x_aloadA_n (pc := 0) hC dX10_noSkater_0 rfl rfl k_166 (by decide) ?_
  refine x_iload_n (pc := 1) hC dX10_noSkater_1 rfl rfl ?_
  refine x_iconst (pc := 2) hC dX10_noSkater_2 ?_
  refine x_aloadA_n (pc := 3) hC dX10_noSkater_3 rfl rfl k_166 (by decide) ?_
  refine x_gf (pc := 4) (b := 169) hC fl_X10_81 ft10_9 k_166 (by decide) (off := 3) (by decide +kernel) (by decide) dX10_noSkater_4 ?_
  refine x_iconst (pc := 7) hC dX10_noSkater_7 ?_
  obtain ⟨hb1, h⟩ := jck_some h
  refine x_iald (pc := 8) hC k_169 (by rw [l_169]; exact hb1) dX10_noSkater_8 ?_
  refine x_iconst (pc := 9) hC dX10_noSkater_9 ?_
  refine x_isub (pc := 10) hC dX10_noSkater_10 ?_
  obtain ⟨v3, e2, h⟩ := jbR_some h
  refine x_cS (pc := 11) hC ms_X10_69 (ok_X10_in hn e2) rfl (Nat.le_of_ble_eq_true rfl) (jRo0 C) (Nat.le_of_ble_eq_true rfl) dX10_noSkater_11 rfl ?_
  obtain ⟨k5, Hk5, h⟩ := jk_some (P := fun k5 => ∀ (s1_4 : Int), k5 s1_4 = some (rz, Mz) → jG C X n 2 0 0 22 [jA 166, jI l1] [jI s1_4, jA 166] M) h (by
    intro s1_4 h
    refine x_iconst (pc := 22) hC dX10_noSkater_22 ?_
    obtain ⟨v8, M7, e6, h⟩ := jbW_some h
    refine x_cV (pc := 23) hC mv_X10_268 (ok_X10_throwsIf hn e6) rfl (Nat.le_of_ble_eq_true rfl) k_166 rfl (by decide) (jRo0 C) (Nat.le_of_ble_eq_true rfl) dX10_noSkater_23 rfl ?_
    obtain ⟨hz9, h⟩ := jck_some h
    exact x_zret (pc := 26) hC hR dX10_noSkater_26 hz9 (jr1 h) (jr2 h))
  refine x_if_ne (tgt := 21) (pc := 14) hC dX10_noSkater_14 (by decide) (fun hc => ?_) (fun hc => ?_)
  · replace h := jit_neg hc h
    refine x_iconst (pc := 21) hC dX10_noSkater_21 ?_
    exact Hk5 _ h
  · replace h := jit_pos hc h
    refine x_iconst (pc := 17) hC dX10_noSkater_17 ?_
    refine x_goto (tgt := 22) (pc := 18) hC dX10_noSkater_18 (by decide) ?_
    exact Hk5 _ h

set_option maxHeartbeats 4000000 in
set_option maxRecDepth 20000 in
theorem ok_X10_noTry {X : jX} {n : Nat} (hn : 179 ≤ n) {l1 : Int} {l2 : Int} {M : jM} {rz : Int} {Mz : jM} (h : f_X10_noTry l1 l2 M = some (rz, Mz)) : jCt X n yX10_noTry cX10_noTry 3 (some .boolean) 2 [jA 166, jI l1, jI l2] M (some (jI rz)) Mz := by
  refine jCt_of (own := RX10) (ls := [jA 166, jI l1, jI l2]) (by decide +kernel) rfl hn (Nat.le_of_ble_eq_true rfl) rfl ?_
  intro C hC hR
  unfold f_X10_noTry at h
  refine x_aloadA_n (pc := 0) hC dX10_noTry_0 rfl rfl k_166 (by decide) ?_
  obtain ⟨M2, e1, h⟩ := jbV_some h
  refine x_cV (pc := 1) hC mv_X10_408 (ok_X10_all hn e1) rfl (Nat.le_of_ble_eq_true rfl) k_166 rfl (by decide) (jRo0 C) (Nat.le_of_ble_eq_true rfl) dX10_noTry_1 rfl ?_
  refine x_aloadA_n (pc := 4) hC dX10_noTry_4 rfl rfl k_166 (by decide) ?_
  refine x_iload_n (pc := 5) hC dX10_noTry_5 rfl rfl ?_
  obtain ⟨v5, M4, e3, h⟩ := jbW_some h
  refine x_cV (pc := 6) hC mv_X10_411 (ok_X10_noSkater hn e3) rfl (Nat.le_of_ble_eq_true rfl) k_166 rfl (by decide) (jRo0 C) (Nat.le_of_ble_eq_true rfl) dX10_noTry_6 rfl ?_
  refine x_if_ne (tgt := 34) (pc := 9) hC dX10_noTry_9 (by decide) (fun hc => ?_) (fun hc => ?_)
  · replace h := jit_neg hc h
    refine x_iconst (pc := 34) hC dX10_noTry_34 ?_
    refine x_goto (tgt := 39) (pc := 35) hC dX10_noTry_35 (by decide) ?_
    exact x_zret (pc := 39) hC hR dX10_noTry_39 (Or.inr jw1) (jr1 h) (jr2 h)
  · replace h := jit_pos hc h
    refine x_aloadA_n (pc := 12) hC dX10_noTry_12 rfl rfl k_166 (by decide) ?_
    refine x_aloadA_n (pc := 13) hC dX10_noTry_13 rfl rfl k_166 (by decide) ?_
    refine x_iload_n (pc := 14) hC dX10_noTry_14 rfl rfl ?_
    refine x_iload_n (pc := 15) hC dX10_noTry_15 rfl rfl ?_
    obtain ⟨v7, e6, h⟩ := jbR_some h
    refine x_cV (pc := 16) hC mv_X10_322 (ok_X10_is hn e6) rfl (Nat.le_of_ble_eq_true rfl) k_166 rfl (by decide) (jRo0 C) (Nat.le_of_ble_eq_true rfl) dX10_noTry_16 rfl ?_
    obtain ⟨k9, Hk9, h⟩ := jk_some (P := fun k9 => ∀ (s1_8 : Int), k9 s1_8 = some (rz, Mz) → jG C X n 3 0 0 27 [jA 166, jI l1, jI l2] [jI s1_8, jA 166] M4) h (by
      intro s1_8 h
      refine x_iconst (pc := 27) hC dX10_noTry_27 ?_
      obtain ⟨v12, M11, e10, h⟩ := jbW_some h
      refine x_cV (pc := 28) hC mv_X10_268 (ok_X10_throwsIf hn e10) rfl (Nat.le_of_ble_eq_true rfl) k_166 rfl (by decide) (jRo0 C) (Nat.le_of_ble_eq_true rfl) dX10_noTry_28 rfl ?_
      refine x_if_eq (tgt := 38) (pc := 31) hC dX10_noTry_31 (by decide) (fun hc => ?_) (fun hc => ?_)
      · replace h := jit_pos hc h
        refine x_iconst (pc := 38) hC dX10_noTry_38 ?_
        exact x_zret (pc := 39) hC hR dX10_noTry_39 (Or.inl jw0) (jr1 h) (jr2 h)
      · replace h := jit_neg hc h
        refine x_iconst (pc := 34) hC dX10_noTry_34 ?_
        refine x_goto (tgt := 39) (pc := 35) hC dX10_noTry_35 (by decide) ?_
        exact x_zret (pc := 39) hC hR dX10_noTry_39 (Or.inr jw1) (jr1 h) (jr2 h))
    refine x_if_ne (tgt := 26) (pc := 19) hC dX10_noTry_19 (by decide) (fun hc => ?_) (fun hc => ?_)
    · replace h := jit_neg hc h
      refine x_iconst (pc := 26) hC dX10_noTry_26 ?_
      exact Hk9 _ h
    · replace h := jit_pos hc h
      refine x_iconst (pc := 22) hC dX10_noTry_22 ?_
      refine x_goto (tgt := 27) (pc := 23) hC dX10_noTry_23 (by decide) ?_
      exact Hk9 _ h

set_option maxHeartbeats 4000000 in
set_option maxRecDepth 20000 in
theorem ok_X10_noElement {X : jX} {n : Nat} (hn : 179 ≤ n) {l1 : Int} {M : jM} {rz : Int} {Mz : jM} (h : f_X10_noElement l1 M = some (rz, Mz)) : jCt X n yX10_noElement cX10_noElement 2 (some .boolean) 1 [jA 166, jI l1] M (some (jI rz)) Mz := by
  refine jCt_of (own := RX10) (ls := [jA 166, jI l1]) (by decide +kernel) rfl hn (Nat.le_of_ble_eq_true rfl) rfl ?_
  intro C hC hR
  unfold f_X10_noElement at h
  refine x_aloadA_n (pc := 0) hC dX10_noElement_0 rfl rfl k_166 (by decide) ?_
  refine x_iload_n (pc := 1) hC dX10_noElement_1 rfl rfl ?_
  refine x_iconst (pc := 2) hC dX10_noElement_2 ?_
  refine x_aloadA_n (pc := 3) hC dX10_noElement_3 rfl rfl k_166 (by decide) ?_
  refine x_gf (pc := 4) (b := 169) hC fl_X10_81 ft10_9 k_166 (by decide) (off := 3) (by decide +kernel) (by decide) dX10_noElement_4 ?_
  refine x_iconst (pc := 7) hC dX10_noElement_7 ?_
  obtain ⟨hb1, h⟩ := jck_some h
  refine x_iald (pc := 8) hC k_169 (by rw [l_169]; exact hb1) dX10_noElement_8 ?_
  refine x_iconst (pc := 9) hC dX10_noElement_9 ?_
  refine x_isub (pc := 10) hC dX10_noElement_10 ?_
  obtain ⟨v3, e2, h⟩ := jbR_some h
  refine x_cS (pc := 11) hC ms_X10_69 (ok_X10_in hn e2) rfl (Nat.le_of_ble_eq_true rfl) (jRo0 C) (Nat.le_of_ble_eq_true rfl) dX10_noElement_11 rfl ?_
  obtain ⟨k5, Hk5, h⟩ := jk_some (P := fun k5 => ∀ (s1_4 : Int), k5 s1_4 = some (rz, Mz) → jG C X n 2 0 0 22 [jA 166, jI l1] [jI s1_4, jA 166] M) h (by
    intro s1_4 h
    refine x_iconst (pc := 22) hC dX10_noElement_22 ?_
    obtain ⟨v8, M7, e6, h⟩ := jbW_some h
    refine x_cV (pc := 23) hC mv_X10_268 (ok_X10_throwsIf hn e6) rfl (Nat.le_of_ble_eq_true rfl) k_166 rfl (by decide) (jRo0 C) (Nat.le_of_ble_eq_true rfl) dX10_noElement_23 rfl ?_
    obtain ⟨hz9, h⟩ := jck_some h
    exact x_zret (pc := 26) hC hR dX10_noElement_26 hz9 (jr1 h) (jr2 h))
  refine x_if_ne (tgt := 21) (pc := 14) hC dX10_noElement_14 (by decide) (fun hc => ?_) (fun hc => ?_)
  · replace h := jit_neg hc h
    refine x_iconst (pc := 21) hC dX10_noElement_21 ?_
    exact Hk5 _ h
  · replace h := jit_pos hc h
    refine x_iconst (pc := 17) hC dX10_noElement_17 ?_
    refine x_goto (tgt := 22) (pc := 18) hC dX10_noElement_18 (by decide) ?_
    exact Hk5 _ h

set_option maxHeartbeats 4000000 in
set_option maxRecDepth 20000 in
theorem ok_X10_noJudge {X : jX} {n : Nat} (hn : 179 ≤ n) {l1 : Int} {M : jM} {rz : Int} {Mz : jM} (h : f_X10_noJudge l1 M = some (rz, Mz)) : jCt X n yX10_noJudge cX10_noJudge 2 (some .boolean) 1 [jA 166, jI l1] M (some (jI rz)) Mz := by
  refine jCt_of (own := RX10) (ls := [jA 166, jI l1]) (by decide +kernel) rfl hn (Nat.le_of_ble_eq_true rfl) rfl ?_
  intro C hC hR
  unfold f_X10_noJudge at h
  refine x_aloadA_n (pc := 0) hC dX10_noJudge_0 rfl rfl k_166 (by decide) ?_
  refine x_iload_n (pc := 1) hC dX10_noJudge_1 rfl rfl ?_
  refine x_iconst (pc := 2) hC dX10_noJudge_2 ?_
  refine x_aloadA_n (pc := 3) hC dX10_noJudge_3 rfl rfl k_166 (by decide) ?_
  refine x_gf (pc := 4) (b := 169) hC fl_X10_81 ft10_9 k_166 (by decide) (off := 3) (by decide +kernel) (by decide) dX10_noJudge_4 ?_
  refine x_iconst (pc := 7) hC dX10_noJudge_7 ?_
  obtain ⟨hb1, h⟩ := jck_some h
  refine x_iald (pc := 8) hC k_169 (by rw [l_169]; exact hb1) dX10_noJudge_8 ?_
  refine x_iconst (pc := 9) hC dX10_noJudge_9 ?_
  refine x_isub (pc := 10) hC dX10_noJudge_10 ?_
  obtain ⟨v3, e2, h⟩ := jbR_some h
  refine x_cS (pc := 11) hC ms_X10_69 (ok_X10_in hn e2) rfl (Nat.le_of_ble_eq_true rfl) (jRo0 C) (Nat.le_of_ble_eq_true rfl) dX10_noJudge_11 rfl ?_
  obtain ⟨k5, Hk5, h⟩ := jk_some (P := fun k5 => ∀ (s1_4 : Int), k5 s1_4 = some (rz, Mz) → jG C X n 2 0 0 22 [jA 166, jI l1] [jI s1_4, jA 166] M) h (by
    intro s1_4 h
    refine x_iconst (pc := 22) hC dX10_noJudge_22 ?_
    obtain ⟨v8, M7, e6, h⟩ := jbW_some h
    refine x_cV (pc := 23) hC mv_X10_268 (ok_X10_throwsIf hn e6) rfl (Nat.le_of_ble_eq_true rfl) k_166 rfl (by decide) (jRo0 C) (Nat.le_of_ble_eq_true rfl) dX10_noJudge_23 rfl ?_
    obtain ⟨hz9, h⟩ := jck_some h
    exact x_zret (pc := 26) hC hR dX10_noJudge_26 hz9 (jr1 h) (jr2 h))
  refine x_if_ne (tgt := 21) (pc := 14) hC dX10_noJudge_14 (by decide) (fun hc => ?_) (fun hc => ?_)
  · replace h := jit_neg hc h
    refine x_iconst (pc := 21) hC dX10_noJudge_21 ?_
    exact Hk5 _ h
  · replace h := jit_pos hc h
    refine x_iconst (pc := 17) hC dX10_noJudge_17 ?_
    refine x_goto (tgt := 22) (pc := 18) hC dX10_noJudge_18 (by decide) ?_
    exact Hk5 _ h

set_option maxHeartbeats 4000000 in
set_option maxRecDepth 20000 in
theorem ok_X10_noComponent {X : jX} {n : Nat} (hn : 179 ≤ n) {l1 : Int} {M : jM} {rz : Int} {Mz : jM} (h : f_X10_noComponent l1 M = some (rz, Mz)) : jCt X n yX10_noComponent cX10_noComponent 2 (some .boolean) 1 [jA 166, jI l1] M (some (jI rz)) Mz := by
  refine jCt_of (own := RX10) (ls := [jA 166, jI l1]) (by decide +kernel) rfl hn (Nat.le_of_ble_eq_true rfl) rfl ?_
  intro C hC hR
  unfold f_X10_noComponent at h
  refine x_aloadA_n (pc := 0) hC dX10_noComponent_0 rfl rfl k_166 (by decide) ?_
  refine x_iload_n (pc := 1) hC dX10_noComponent_1 rfl rfl ?_
  refine x_iconst (pc := 2) hC dX10_noComponent_2 ?_
  refine x_iconst (pc := 3) hC dX10_noComponent_3 ?_
  obtain ⟨v2, e1, h⟩ := jbR_some h
  refine x_cS (pc := 4) hC ms_X10_69 (ok_X10_in hn e1) rfl (Nat.le_of_ble_eq_true rfl) (jRo0 C) (Nat.le_of_ble_eq_true rfl) dX10_noComponent_4 rfl ?_
  obtain ⟨k4, Hk4, h⟩ := jk_some (P := fun k4 => ∀ (s1_3 : Int), k4 s1_3 = some (rz, Mz) → jG C X n 2 0 0 15 [jA 166, jI l1] [jI s1_3, jA 166] M) h (by
    intro s1_3 h
    refine x_iconst (pc := 15) hC dX10_noComponent_15 ?_
    obtain ⟨v7, M6, e5, h⟩ := jbW_some h
    refine x_cV (pc := 16) hC mv_X10_268 (ok_X10_throwsIf hn e5) rfl (Nat.le_of_ble_eq_true rfl) k_166 rfl (by decide) (jRo0 C) (Nat.le_of_ble_eq_true rfl) dX10_noComponent_16 rfl ?_
    obtain ⟨hz8, h⟩ := jck_some h
    exact x_zret (pc := 19) hC hR dX10_noComponent_19 hz8 (jr1 h) (jr2 h))
  refine x_if_ne (tgt := 14) (pc := 7) hC dX10_noComponent_7 (by decide) (fun hc => ?_) (fun hc => ?_)
  · replace h := jit_neg hc h
    refine x_iconst (pc := 14) hC dX10_noComponent_14 ?_
    exact Hk4 _ h
  · replace h := jit_pos hc h
    refine x_iconst (pc := 10) hC dX10_noComponent_10 ?_
    refine x_goto (tgt := 15) (pc := 11) hC dX10_noComponent_11 (by decide) ?_
    exact Hk4 _ h

set_option maxHeartbeats 4000000 in
set_option maxRecDepth 20000 in
theorem ok_X10_name {X : jX} {n : Nat} (hn : 179 ≤ n) {l1 : Int} {l2 : Int} {l3 : Int} {M : jM} {rz : Int} {Mz : jM} (h : f_X10_name l1 l2 l3 M = some (rz, Mz)) : jCt X n yX10_name cX10_name 5 (some .int) 2 [jA 166, jI l1, jI l2, jI l3] M (some (jI rz)) Mz := by
  refine jCt_of (own := RX10) (ls := [jA 166, jI l1, jI l2, jI l3, jN]) (by decide +kernel) rfl hn (Nat.le_of_ble_eq_true rfl) rfl ?_
  intro C hC hR
  unfold f_X10_name at h
  refine x_aloadA_n (pc := 0) hC dX10_name_0 rfl rfl k_166 (by decide) ?_
  refine x_iconst (pc := 1) hC dX10_name_1 ?_
  obtain ⟨M1, eM1, h⟩ := jlet_some h
  refine x_pi (pc := 2) (ji := 0) hC fl_X10_3 rfl ft10_0 k_166 dX10_name_2 eM1 ?_
  refine x_iload_n (pc := 5) hC dX10_name_5 rfl rfl ?_
  obtain ⟨k3, Hk3, h⟩ := jk_some (P := fun k3 => ∀ (M2 : jM), k3 M2 = some (rz, Mz) → jG C X n 5 0 0 30 [jA 166, jI l1, jI l2, jI l3, jN] [] M2) h (by
    intro M2 h
    refine x_iload_n (pc := 30) hC dX10_name_30 rfl rfl ?_
    refine x_iconst (pc := 31) hC dX10_name_31 ?_
    refine x_iconst (pc := 32) hC dX10_name_32 ?_
    obtain ⟨v5, e4, h⟩ := jbR_some h
    refine x_cS (pc := 33) hC ms_X10_69 (ok_X10_in hn e4) rfl (Nat.le_of_ble_eq_true rfl) (jRo0 C) (Nat.le_of_ble_eq_true rfl) dX10_name_33 rfl ?_
    obtain ⟨k7, Hk7, h⟩ := jk_some (P := fun k7 => ∀ (s0_6 : Int), k7 s0_6 = some (rz, Mz) → jG C X n 5 0 0 66 [jA 166, jI l1, jI l2, jI l3, jN] [jI s0_6] M2) h (by
      intro s0_6 h
      refine x_istore (ls2 := [jA 166, jI l1, jI l2, jI l3, jI s0_6]) (pc := 66) hC dX10_name_66 (by decide) rfl rfl rfl ?_
      refine x_iload (pc := 68) hC dX10_name_68 rfl ?_
      refine x_if_ne (tgt := 77) (pc := 70) hC dX10_name_70 (by decide) (fun hc => ?_) (fun hc => ?_)
      · replace h := jit_neg hc h
        refine x_iload (pc := 77) hC dX10_name_77 rfl ?_
        exact x_iret (pc := 79) hC hR dX10_name_79 (jr1 h) (jr2 h)
      · replace h := jit_pos hc h
        refine x_iconst (pc := 73) hC dX10_name_73 ?_
        refine x_goto (tgt := 79) (pc := 74) hC dX10_name_74 (by decide) ?_
        exact x_iret (pc := 79) hC hR dX10_name_79 (jr1 h) (jr2 h))
    refine x_if_eq (tgt := 65) (pc := 36) hC dX10_name_36 (by decide) (fun hc => ?_) (fun hc => ?_)
    · replace h := jit_pos hc h
      refine x_iconst (pc := 65) hC dX10_name_65 ?_
      exact Hk7 _ h
    · replace h := jit_neg hc h
      refine x_aloadA_n (pc := 39) hC dX10_name_39 rfl rfl k_166 (by decide) ?_
      refine x_gf (pc := 40) (b := 169) hC fl_X10_81 ft10_9 k_166 (by decide) (off := 3) (by decide +kernel) (by decide) dX10_name_40 ?_
      refine x_iload_n (pc := 43) hC dX10_name_43 rfl rfl ?_
      obtain ⟨k9, Hk9, h⟩ := jk_some (P := fun k9 => ∀ (s1_8 : Int), k9 s1_8 = some (rz, Mz) → jG C X n 5 0 0 54 [jA 166, jI l1, jI l2, jI l3, jN] [jI s1_8, jA 169] M2) h (by
        intro s1_8 h
        refine x_bipush (pc := 54) hC dX10_name_54 rfl ?_
        refine x_iload_n (pc := 56) hC dX10_name_56 rfl rfl ?_
        refine x_imul (pc := 57) hC dX10_name_57 ?_
        refine x_iadd (pc := 58) hC dX10_name_58 ?_
        refine x_iload_n (pc := 59) hC dX10_name_59 rfl rfl ?_
        refine x_iadd (pc := 60) hC dX10_name_60 ?_
        obtain ⟨hb10, h⟩ := jck_some h
        refine x_iald (pc := 61) hC k_169 (by rw [l_169]; exact hb10) dX10_name_61 ?_
        refine x_goto (tgt := 66) (pc := 62) hC dX10_name_62 (by decide) ?_
        exact Hk7 _ h)
      refine x_if_eq (tgt := 52) (pc := 44) hC dX10_name_44 (by decide) (fun hc => ?_) (fun hc => ?_)
      · replace h := jit_pos hc h
        refine x_bipush (pc := 52) hC dX10_name_52 rfl ?_
        exact Hk9 _ h
      · replace h := jit_neg hc h
        refine x_bipush (pc := 47) hC dX10_name_47 rfl ?_
        refine x_goto (tgt := 54) (pc := 49) hC dX10_name_49 (by decide) ?_
        exact Hk9 _ h)
  refine x_if_eq (tgt := 20) (pc := 6) hC dX10_name_6 (by decide) (fun hc => ?_) (fun hc => ?_)
  · replace h := jit_pos hc h
    refine x_aloadA_n (pc := 20) hC dX10_name_20 rfl rfl k_166 (by decide) ?_
    refine x_iload_n (pc := 21) hC dX10_name_21 rfl rfl ?_
    obtain ⟨v13, M12, e11, h⟩ := jbW_some h
    refine x_cV (pc := 22) hC mv_X10_414 (ok_X10_noElement hn e11) rfl (Nat.le_of_ble_eq_true rfl) k_166 rfl (by decide) (jRo0 C) (Nat.le_of_ble_eq_true rfl) dX10_name_22 rfl ?_
    refine x_if_eq (tgt := 30) (pc := 25) hC dX10_name_25 (by decide) (fun hc => ?_) (fun hc => ?_)
    · replace h := jit_pos hc h
      exact Hk3 _ h
    · replace h := jit_neg hc h
      refine x_iconst (pc := 28) hC dX10_name_28 ?_
      exact x_iret (pc := 29) hC hR dX10_name_29 (jr1 h) (jr2 h)
  · replace h := jit_neg hc h
    refine x_aloadA_n (pc := 9) hC dX10_name_9 rfl rfl k_166 (by decide) ?_
    refine x_iload_n (pc := 10) hC dX10_name_10 rfl rfl ?_
    obtain ⟨v16, M15, e14, h⟩ := jbW_some h
    refine x_cV (pc := 11) hC mv_X10_411 (ok_X10_noSkater hn e14) rfl (Nat.le_of_ble_eq_true rfl) k_166 rfl (by decide) (jRo0 C) (Nat.le_of_ble_eq_true rfl) dX10_name_11 rfl ?_
    refine x_if_eq (tgt := 30) (pc := 14) hC dX10_name_14 (by decide) (fun hc => ?_) (fun hc => ?_)
    · replace h := jit_pos hc h
      exact Hk3 _ h
    · replace h := jit_neg hc h
      refine x_goto (tgt := 28) (pc := 17) hC dX10_name_17 (by decide) ?_
      refine x_iconst (pc := 28) hC dX10_name_28 ?_
      exact x_iret (pc := 29) hC hR dX10_name_29 (jr1 h) (jr2 h)

set_option maxHeartbeats 4000000 in
set_option maxRecDepth 20000 in
theorem ok_X10_element {X : jX} {n : Nat} (hn : 179 ≤ n) {l1 : Int} {l2 : Int} {M : jM} {rz : Int} {Mz : jM} (h : f_X10_element l1 l2 M = some (rz, Mz)) : jCt X n yX10_element cX10_element 3 (some .int) 2 [jA 166, jI l1, jI l2] M (some (jI rz)) Mz := by
  refine jCt_of (own := RX10) (ls := [jA 166, jI l1, jI l2]) (by decide +kernel) rfl hn (Nat.le_of_ble_eq_true rfl) rfl ?_
  intro C hC hR
  unfold f_X10_element at h
  refine x_aloadA_n (pc := 0) hC dX10_element_0 rfl rfl k_166 (by decide) ?_
  refine x_iconst (pc := 1) hC dX10_element_1 ?_
  obtain ⟨M1, eM1, h⟩ := jlet_some h
  refine x_pi (pc := 2) (ji := 0) hC fl_X10_3 rfl ft10_0 k_166 dX10_element_2 eM1 ?_
  refine x_aloadA_n (pc := 5) hC dX10_element_5 rfl rfl k_166 (by decide) ?_
  refine x_iload_n (pc := 6) hC dX10_element_6 rfl rfl ?_
  obtain ⟨v4, M3, e2, h⟩ := jbW_some h
  refine x_cV (pc := 7) hC mv_X10_414 (ok_X10_noElement hn e2) rfl (Nat.le_of_ble_eq_true rfl) k_166 rfl (by decide) (jRo0 C) (Nat.le_of_ble_eq_true rfl) dX10_element_7 rfl ?_
  refine x_if_ne (tgt := 35) (pc := 10) hC dX10_element_10 (by decide) (fun hc => ?_) (fun hc => ?_)
  · replace h := jit_neg hc h
    refine x_iconst (pc := 35) hC dX10_element_35 ?_
    exact x_iret (pc := 36) hC hR dX10_element_36 (jr1 h) (jr2 h)
  · replace h := jit_pos hc h
    refine x_aloadA_n (pc := 13) hC dX10_element_13 rfl rfl k_166 (by decide) ?_
    refine x_iload_n (pc := 14) hC dX10_element_14 rfl rfl ?_
    refine x_iconst (pc := 15) hC dX10_element_15 ?_
    refine x_iconst (pc := 16) hC dX10_element_16 ?_
    obtain ⟨v6, e5, h⟩ := jbR_some h
    refine x_cS (pc := 17) hC ms_X10_69 (ok_X10_in hn e5) rfl (Nat.le_of_ble_eq_true rfl) (jRo0 C) (Nat.le_of_ble_eq_true rfl) dX10_element_17 rfl ?_
    obtain ⟨k8, Hk8, h⟩ := jk_some (P := fun k8 => ∀ (s1_7 : Int), k8 s1_7 = some (rz, Mz) → jG C X n 3 0 0 28 [jA 166, jI l1, jI l2] [jI s1_7, jA 166] M3) h (by
      intro s1_7 h
      refine x_iconst (pc := 28) hC dX10_element_28 ?_
      obtain ⟨v11, M10, e9, h⟩ := jbW_some h
      refine x_cV (pc := 29) hC mv_X10_268 (ok_X10_throwsIf hn e9) rfl (Nat.le_of_ble_eq_true rfl) k_166 rfl (by decide) (jRo0 C) (Nat.le_of_ble_eq_true rfl) dX10_element_29 rfl ?_
      refine x_if_eq (tgt := 37) (pc := 32) hC dX10_element_32 (by decide) (fun hc => ?_) (fun hc => ?_)
      · replace h := jit_pos hc h
        refine x_iload_n (pc := 37) hC dX10_element_37 rfl rfl ?_
        refine x_if_ne (tgt := 54) (pc := 38) hC dX10_element_38 (by decide) (fun hc => ?_) (fun hc => ?_)
        · replace h := jit_neg hc h
          refine x_aloadA_n (pc := 54) hC dX10_element_54 rfl rfl k_166 (by decide) ?_
          refine x_gf (pc := 55) (b := 169) hC fl_X10_81 ft10_9 k_166 (by decide) (off := 3) (by decide +kernel) (by decide) dX10_element_55 ?_
          refine x_iconst (pc := 58) hC dX10_element_58 ?_
          refine x_iload_n (pc := 59) hC dX10_element_59 rfl rfl ?_
          refine x_iadd (pc := 60) hC dX10_element_60 ?_
          obtain ⟨hb12, h⟩ := jck_some h
          refine x_iald (pc := 61) hC k_169 (by rw [l_169]; exact hb12) dX10_element_61 ?_
          exact x_iret (pc := 62) hC hR dX10_element_62 (jr1 h) (jr2 h)
        · replace h := jit_pos hc h
          refine x_aloadA_n (pc := 41) hC dX10_element_41 rfl rfl k_166 (by decide) ?_
          refine x_gf (pc := 42) (b := 170) hC fl_X10_84 ft10_10 k_166 (by decide) (off := 4) (by decide +kernel) (by decide) dX10_element_42 ?_
          refine x_sipush (pc := 45) hC dX10_element_45 rfl ?_
          refine x_iload_n (pc := 48) hC dX10_element_48 rfl rfl ?_
          refine x_iadd (pc := 49) hC dX10_element_49 ?_
          obtain ⟨hb13, h⟩ := jck_some h
          refine x_iald (pc := 50) hC k_170 (by rw [l_170]; exact hb13) dX10_element_50 ?_
          refine x_goto (tgt := 62) (pc := 51) hC dX10_element_51 (by decide) ?_
          exact x_iret (pc := 62) hC hR dX10_element_62 (jr1 h) (jr2 h)
      · replace h := jit_neg hc h
        refine x_iconst (pc := 35) hC dX10_element_35 ?_
        exact x_iret (pc := 36) hC hR dX10_element_36 (jr1 h) (jr2 h))
    refine x_if_ne (tgt := 27) (pc := 20) hC dX10_element_20 (by decide) (fun hc => ?_) (fun hc => ?_)
    · replace h := jit_neg hc h
      refine x_iconst (pc := 27) hC dX10_element_27 ?_
      exact Hk8 _ h
    · replace h := jit_pos hc h
      refine x_iconst (pc := 23) hC dX10_element_23 ?_
      refine x_goto (tgt := 28) (pc := 24) hC dX10_element_24 (by decide) ?_
      exact Hk8 _ h

set_option maxHeartbeats 4000000 in
set_option maxRecDepth 20000 in
theorem ok_X10_attempt {X : jX} {n : Nat} (hn : 179 ≤ n) {l1 : Int} {l2 : Int} {l3 : Int} {M : jM} {rz : Int} {Mz : jM} (h : f_X10_attempt l1 l2 l3 M = some (rz, Mz)) : jCt X n yX10_attempt cX10_attempt 4 (some .int) 6 [jA 166, jI l1, jI l2, jI l3] M (some (jI rz)) Mz := by
  refine jCt_of (own := RX10) (ls := [jA 166, jI l1, jI l2, jI l3]) (by decide +kernel) rfl hn (Nat.le_of_ble_eq_true rfl) rfl ?_
  intro C hC hR
  unfold f_X10_attempt at h
  refine x_aloadA_n (pc := 0) hC dX10_attempt_0 rfl rfl k_166 (by decide) ?_
  refine x_iconst (pc := 1) hC dX10_attempt_1 ?_
  obtain ⟨M1, eM1, h⟩ := jlet_some h
  refine x_pi (pc := 2) (ji := 0) hC fl_X10_3 rfl ft10_0 k_166 dX10_attempt_2 eM1 ?_
  refine x_aloadA_n (pc := 5) hC dX10_attempt_5 rfl rfl k_166 (by decide) ?_
  refine x_iload_n (pc := 6) hC dX10_attempt_6 rfl rfl ?_
  refine x_iload_n (pc := 7) hC dX10_attempt_7 rfl rfl ?_
  obtain ⟨v4, M3, e2, h⟩ := jbW_some h
  refine x_cV (pc := 8) hC mv_X10_417 (ok_X10_noTry hn e2) rfl (Nat.le_of_ble_eq_true rfl) k_166 rfl (by decide) (jRo0 C) (Nat.le_of_ble_eq_true rfl) dX10_attempt_8 rfl ?_
  refine x_if_ne (tgt := 37) (pc := 11) hC dX10_attempt_11 (by decide) (fun hc => ?_) (fun hc => ?_)
  · replace h := jit_neg hc h
    refine x_iconst (pc := 37) hC dX10_attempt_37 ?_
    exact x_iret (pc := 38) hC hR dX10_attempt_38 (jr1 h) (jr2 h)
  · replace h := jit_pos hc h
    refine x_aloadA_n (pc := 14) hC dX10_attempt_14 rfl rfl k_166 (by decide) ?_
    refine x_iload_n (pc := 15) hC dX10_attempt_15 rfl rfl ?_
    refine x_iconst (pc := 16) hC dX10_attempt_16 ?_
    refine x_bipush (pc := 17) hC dX10_attempt_17 rfl ?_
    obtain ⟨v6, e5, h⟩ := jbR_some h
    refine x_cS (pc := 19) hC ms_X10_69 (ok_X10_in hn e5) rfl (Nat.le_of_ble_eq_true rfl) (jRo0 C) (Nat.le_of_ble_eq_true rfl) dX10_attempt_19 rfl ?_
    obtain ⟨k8, Hk8, h⟩ := jk_some (P := fun k8 => ∀ (s1_7 : Int), k8 s1_7 = some (rz, Mz) → jG C X n 4 0 0 30 [jA 166, jI l1, jI l2, jI l3] [jI s1_7, jA 166] M3) h (by
      intro s1_7 h
      refine x_iconst (pc := 30) hC dX10_attempt_30 ?_
      obtain ⟨v11, M10, e9, h⟩ := jbW_some h
      refine x_cV (pc := 31) hC mv_X10_268 (ok_X10_throwsIf hn e9) rfl (Nat.le_of_ble_eq_true rfl) k_166 rfl (by decide) (jRo0 C) (Nat.le_of_ble_eq_true rfl) dX10_attempt_31 rfl ?_
      refine x_if_eq (tgt := 39) (pc := 34) hC dX10_attempt_34 (by decide) (fun hc => ?_) (fun hc => ?_)
      · replace h := jit_pos hc h
        refine x_iload_n (pc := 39) hC dX10_attempt_39 rfl rfl ?_
        rcases jit_or h with ⟨hc, h⟩ | ⟨hc, h⟩
        · refine x_tableOut (tgt := 186) (pc := 40) hC dX10_attempt_40 hc (by decide) ?_
          refine x_aloadA_n (pc := 186) hC dX10_attempt_186 rfl rfl k_166 (by decide) ?_
          refine x_iload_n (pc := 187) hC dX10_attempt_187 rfl rfl ?_
          refine x_iload_n (pc := 188) hC dX10_attempt_188 rfl rfl ?_
          obtain ⟨v14, M13, e12, h⟩ := jbW_some h
          refine x_cV (pc := 189) hC mv_X10_349 (ok_X10_pointsAt hn e12) rfl (Nat.le_of_ble_eq_true rfl) k_166 rfl (by decide) (jRo0 C) (Nat.le_of_ble_eq_true rfl) dX10_attempt_189 rfl ?_
          exact x_iret (pc := 192) hC hR dX10_attempt_192 (jr1 h) (jr2 h)
        · rcases jit_or h with ⟨hq, h⟩ | ⟨hr0, h⟩
          · refine x_tableIn (tgt := 96) (off := 56) (pc := 40) hC dX10_attempt_40 (by omega) (by omega) (by rw [hq]; rfl) (by decide) ?_
            refine x_aloadA_n (pc := 96) hC dX10_attempt_96 rfl rfl k_166 (by decide) ?_
            refine x_gf (pc := 97) (b := 169) hC fl_X10_81 ft10_9 k_166 (by decide) (off := 3) (by decide +kernel) (by decide) dX10_attempt_97 ?_
            refine x_bipush (pc := 100) hC dX10_attempt_100 rfl ?_
            refine x_iload_n (pc := 102) hC dX10_attempt_102 rfl rfl ?_
            refine x_iload_n (pc := 103) hC dX10_attempt_103 rfl rfl ?_
            obtain ⟨v16, e15, h⟩ := jbR_some h
            refine x_cS (pc := 104) hC ms_X10_199 (ok_X10_tryAt hn e15) rfl (Nat.le_of_ble_eq_true rfl) (jRo0 C) (Nat.le_of_ble_eq_true rfl) dX10_attempt_104 rfl ?_
            refine x_iadd (pc := 107) hC dX10_attempt_107 ?_
            obtain ⟨hb17, h⟩ := jck_some h
            refine x_iald (pc := 108) hC k_169 (by rw [l_169]; exact hb17) dX10_attempt_108 ?_
            exact x_iret (pc := 109) hC hR dX10_attempt_109 (jr1 h) (jr2 h)
          · rcases jit_or h with ⟨hq, h⟩ | ⟨hr1, h⟩
            · refine x_tableIn (tgt := 110) (off := 70) (pc := 40) hC dX10_attempt_40 (by omega) (by omega) (by rw [hq]; rfl) (by decide) ?_
              refine x_aloadA_n (pc := 110) hC dX10_attempt_110 rfl rfl k_166 (by decide) ?_
              refine x_iload_n (pc := 111) hC dX10_attempt_111 rfl rfl ?_
              refine x_iload_n (pc := 112) hC dX10_attempt_112 rfl rfl ?_
              obtain ⟨v19, e18, h⟩ := jbR_some h
              refine x_cV (pc := 113) hC mv_X10_325 (ok_X10_elementsOf hn e18) rfl (Nat.le_of_ble_eq_true rfl) k_166 rfl (by decide) (jRo0 C) (Nat.le_of_ble_eq_true rfl) dX10_attempt_113 rfl ?_
              exact x_iret (pc := 116) hC hR dX10_attempt_116 (jr1 h) (jr2 h)
            · rcases jit_or h with ⟨hq, h⟩ | ⟨hr2, h⟩
              · refine x_tableIn (tgt := 117) (off := 77) (pc := 40) hC dX10_attempt_40 (by omega) (by omega) (by rw [hq]; rfl) (by decide) ?_
                refine x_iload_n (pc := 117) hC dX10_attempt_117 rfl rfl ?_
                refine x_iconst (pc := 118) hC dX10_attempt_118 ?_
                refine x_isub (pc := 119) hC dX10_attempt_119 ?_
                refine x_aloadA_n (pc := 120) hC dX10_attempt_120 rfl rfl k_166 (by decide) ?_
                refine x_iload_n (pc := 121) hC dX10_attempt_121 rfl rfl ?_
                refine x_iload_n (pc := 122) hC dX10_attempt_122 rfl rfl ?_
                obtain ⟨v21, e20, h⟩ := jbR_some h
                refine x_cV (pc := 123) hC mv_X10_325 (ok_X10_elementsOf hn e20) rfl (Nat.le_of_ble_eq_true rfl) k_166 rfl (by decide) (jRo0 C) (Nat.le_of_ble_eq_true rfl) dX10_attempt_123 rfl ?_
                refine x_icmp_ge (tgt := 141) (pc := 126) hC dX10_attempt_126 (by decide) (fun hc => ?_) (fun hc => ?_)
                · replace h := jit_pos hc h
                  refine x_iconst (pc := 141) hC dX10_attempt_141 ?_
                  exact x_iret (pc := 142) hC hR dX10_attempt_142 (jr1 h) (jr2 h)
                · replace h := jit_neg hc h
                  refine x_aloadA_n (pc := 129) hC dX10_attempt_129 rfl rfl k_166 (by decide) ?_
                  refine x_iload_n (pc := 130) hC dX10_attempt_130 rfl rfl ?_
                  refine x_iload_n (pc := 131) hC dX10_attempt_131 rfl rfl ?_
                  refine x_iload_n (pc := 132) hC dX10_attempt_132 rfl rfl ?_
                  refine x_iconst (pc := 133) hC dX10_attempt_133 ?_
                  refine x_isub (pc := 134) hC dX10_attempt_134 ?_
                  obtain ⟨v23, e22, h⟩ := jbR_some h
                  refine x_cV (pc := 135) hC mv_X10_293 (ok_X10_elementOf hn e22) rfl (Nat.le_of_ble_eq_true rfl) k_166 rfl (by decide) (jRo0 C) (Nat.le_of_ble_eq_true rfl) dX10_attempt_135 rfl ?_
                  refine x_goto (tgt := 142) (pc := 138) hC dX10_attempt_138 (by decide) ?_
                  exact x_iret (pc := 142) hC hR dX10_attempt_142 (jr1 h) (jr2 h)
              · rcases jit_or h with ⟨hq, h⟩ | ⟨hr3, h⟩
                · refine x_tableIn (tgt := 117) (off := 77) (pc := 40) hC dX10_attempt_40 (by omega) (by omega) (by rw [hq]; rfl) (by decide) ?_
                  refine x_iload_n (pc := 117) hC dX10_attempt_117 rfl rfl ?_
                  refine x_iconst (pc := 118) hC dX10_attempt_118 ?_
                  refine x_isub (pc := 119) hC dX10_attempt_119 ?_
                  refine x_aloadA_n (pc := 120) hC dX10_attempt_120 rfl rfl k_166 (by decide) ?_
                  refine x_iload_n (pc := 121) hC dX10_attempt_121 rfl rfl ?_
                  refine x_iload_n (pc := 122) hC dX10_attempt_122 rfl rfl ?_
                  obtain ⟨v25, e24, h⟩ := jbR_some h
                  refine x_cV (pc := 123) hC mv_X10_325 (ok_X10_elementsOf hn e24) rfl (Nat.le_of_ble_eq_true rfl) k_166 rfl (by decide) (jRo0 C) (Nat.le_of_ble_eq_true rfl) dX10_attempt_123 rfl ?_
                  refine x_icmp_ge (tgt := 141) (pc := 126) hC dX10_attempt_126 (by decide) (fun hc => ?_) (fun hc => ?_)
                  · replace h := jit_pos hc h
                    refine x_iconst (pc := 141) hC dX10_attempt_141 ?_
                    exact x_iret (pc := 142) hC hR dX10_attempt_142 (jr1 h) (jr2 h)
                  · replace h := jit_neg hc h
                    refine x_aloadA_n (pc := 129) hC dX10_attempt_129 rfl rfl k_166 (by decide) ?_
                    refine x_iload_n (pc := 130) hC dX10_attempt_130 rfl rfl ?_
                    refine x_iload_n (pc := 131) hC dX10_attempt_131 rfl rfl ?_
                    refine x_iload_n (pc := 132) hC dX10_attempt_132 rfl rfl ?_
                    refine x_iconst (pc := 133) hC dX10_attempt_133 ?_
                    refine x_isub (pc := 134) hC dX10_attempt_134 ?_
                    obtain ⟨v27, e26, h⟩ := jbR_some h
                    refine x_cV (pc := 135) hC mv_X10_293 (ok_X10_elementOf hn e26) rfl (Nat.le_of_ble_eq_true rfl) k_166 rfl (by decide) (jRo0 C) (Nat.le_of_ble_eq_true rfl) dX10_attempt_135 rfl ?_
                    refine x_goto (tgt := 142) (pc := 138) hC dX10_attempt_138 (by decide) ?_
                    exact x_iret (pc := 142) hC hR dX10_attempt_142 (jr1 h) (jr2 h)
                · rcases jit_or h with ⟨hq, h⟩ | ⟨hr4, h⟩
                  · refine x_tableIn (tgt := 117) (off := 77) (pc := 40) hC dX10_attempt_40 (by omega) (by omega) (by rw [hq]; rfl) (by decide) ?_
                    refine x_iload_n (pc := 117) hC dX10_attempt_117 rfl rfl ?_
                    refine x_iconst (pc := 118) hC dX10_attempt_118 ?_
                    refine x_isub (pc := 119) hC dX10_attempt_119 ?_
                    refine x_aloadA_n (pc := 120) hC dX10_attempt_120 rfl rfl k_166 (by decide) ?_
                    refine x_iload_n (pc := 121) hC dX10_attempt_121 rfl rfl ?_
                    refine x_iload_n (pc := 122) hC dX10_attempt_122 rfl rfl ?_
                    obtain ⟨v29, e28, h⟩ := jbR_some h
                    refine x_cV (pc := 123) hC mv_X10_325 (ok_X10_elementsOf hn e28) rfl (Nat.le_of_ble_eq_true rfl) k_166 rfl (by decide) (jRo0 C) (Nat.le_of_ble_eq_true rfl) dX10_attempt_123 rfl ?_
                    refine x_icmp_ge (tgt := 141) (pc := 126) hC dX10_attempt_126 (by decide) (fun hc => ?_) (fun hc => ?_)
                    · replace h := jit_pos hc h
                      refine x_iconst (pc := 141) hC dX10_attempt_141 ?_
                      exact x_iret (pc := 142) hC hR dX10_attempt_142 (jr1 h) (jr2 h)
                    · replace h := jit_neg hc h
                      refine x_aloadA_n (pc := 129) hC dX10_attempt_129 rfl rfl k_166 (by decide) ?_
                      refine x_iload_n (pc := 130) hC dX10_attempt_130 rfl rfl ?_
                      refine x_iload_n (pc := 131) hC dX10_attempt_131 rfl rfl ?_
                      refine x_iload_n (pc := 132) hC dX10_attempt_132 rfl rfl ?_
                      refine x_iconst (pc := 133) hC dX10_attempt_133 ?_
                      refine x_isub (pc := 134) hC dX10_attempt_134 ?_
                      obtain ⟨v31, e30, h⟩ := jbR_some h
                      refine x_cV (pc := 135) hC mv_X10_293 (ok_X10_elementOf hn e30) rfl (Nat.le_of_ble_eq_true rfl) k_166 rfl (by decide) (jRo0 C) (Nat.le_of_ble_eq_true rfl) dX10_attempt_135 rfl ?_
                      refine x_goto (tgt := 142) (pc := 138) hC dX10_attempt_138 (by decide) ?_
                      exact x_iret (pc := 142) hC hR dX10_attempt_142 (jr1 h) (jr2 h)
                  · rcases jit_or h with ⟨hq, h⟩ | ⟨hr5, h⟩
                    · refine x_tableIn (tgt := 143) (off := 103) (pc := 40) hC dX10_attempt_40 (by omega) (by omega) (by rw [hq]; rfl) (by decide) ?_
                      refine x_aloadA_n (pc := 143) hC dX10_attempt_143 rfl rfl k_166 (by decide) ?_
                      refine x_iload_n (pc := 144) hC dX10_attempt_144 rfl rfl ?_
                      refine x_iload_n (pc := 145) hC dX10_attempt_145 rfl rfl ?_
                      obtain ⟨v33, e32, h⟩ := jbR_some h
                      refine x_cV (pc := 146) hC mv_X10_334 (ok_X10_callsOf hn e32) rfl (Nat.le_of_ble_eq_true rfl) k_166 rfl (by decide) (jRo0 C) (Nat.le_of_ble_eq_true rfl) dX10_attempt_146 rfl ?_
                      exact x_iret (pc := 149) hC hR dX10_attempt_149 (jr1 h) (jr2 h)
                    · rcases jit_or h with ⟨hq, h⟩ | ⟨hr6, h⟩
                      · refine x_tableIn (tgt := 150) (off := 110) (pc := 40) hC dX10_attempt_40 (by omega) (by omega) (by rw [hq]; rfl) (by decide) ?_
                        refine x_aloadA_n (pc := 150) hC dX10_attempt_150 rfl rfl k_166 (by decide) ?_
                        refine x_iload_n (pc := 151) hC dX10_attempt_151 rfl rfl ?_
                        refine x_iload_n (pc := 152) hC dX10_attempt_152 rfl rfl ?_
                        obtain ⟨v35, e34, h⟩ := jbR_some h
                        refine x_cV (pc := 153) hC mv_X10_337 (ok_X10_isLate hn e34) rfl (Nat.le_of_ble_eq_true rfl) k_166 rfl (by decide) (jRo0 C) (Nat.le_of_ble_eq_true rfl) dX10_attempt_153 rfl ?_
                        refine x_if_eq (tgt := 163) (pc := 156) hC dX10_attempt_156 (by decide) (fun hc => ?_) (fun hc => ?_)
                        · replace h := jit_pos hc h
                          refine x_iconst (pc := 163) hC dX10_attempt_163 ?_
                          exact x_iret (pc := 164) hC hR dX10_attempt_164 (jr1 h) (jr2 h)
                        · replace h := jit_neg hc h
                          refine x_iconst (pc := 159) hC dX10_attempt_159 ?_
                          refine x_goto (tgt := 164) (pc := 160) hC dX10_attempt_160 (by decide) ?_
                          exact x_iret (pc := 164) hC hR dX10_attempt_164 (jr1 h) (jr2 h)
                      · rcases jit_or h with ⟨hq, h⟩ | ⟨hr7, h⟩
                        · refine x_tableIn (tgt := 165) (off := 125) (pc := 40) hC dX10_attempt_40 (by omega) (by omega) (by rw [hq]; rfl) (by decide) ?_
                          refine x_aloadA_n (pc := 165) hC dX10_attempt_165 rfl rfl k_166 (by decide) ?_
                          refine x_iload_n (pc := 166) hC dX10_attempt_166 rfl rfl ?_
                          refine x_iload_n (pc := 167) hC dX10_attempt_167 rfl rfl ?_
                          obtain ⟨v37, e36, h⟩ := jbR_some h
                          refine x_cV (pc := 168) hC mv_X10_420 (ok_X10_struckOf hn e36) rfl (Nat.le_of_ble_eq_true rfl) k_166 rfl (by decide) (jRo0 C) (Nat.le_of_ble_eq_true rfl) dX10_attempt_168 rfl ?_
                          exact x_iret (pc := 171) hC hR dX10_attempt_171 (jr1 h) (jr2 h)
                        · rcases jit_or h with ⟨hq, h⟩ | ⟨hr8, h⟩
                          · refine x_tableIn (tgt := 172) (off := 132) (pc := 40) hC dX10_attempt_40 (by omega) (by omega) (by rw [hq]; rfl) (by decide) ?_
                            refine x_aloadA_n (pc := 172) hC dX10_attempt_172 rfl rfl k_166 (by decide) ?_
                            refine x_iload_n (pc := 173) hC dX10_attempt_173 rfl rfl ?_
                            refine x_iload_n (pc := 174) hC dX10_attempt_174 rfl rfl ?_
                            obtain ⟨v39, e38, h⟩ := jbR_some h
                            refine x_cV (pc := 175) hC mv_X10_343 (ok_X10_worthOf hn e38) rfl (Nat.le_of_ble_eq_true rfl) k_166 rfl (by decide) (jRo0 C) (Nat.le_of_ble_eq_true rfl) dX10_attempt_175 rfl ?_
                            exact x_iret (pc := 178) hC hR dX10_attempt_178 (jr1 h) (jr2 h)
                          · have hq : jw l3 = 9 := by omega
                            refine x_tableIn (tgt := 179) (off := 139) (pc := 40) hC dX10_attempt_40 (by omega) (by omega) (by rw [hq]; rfl) (by decide) ?_
                            refine x_aloadA_n (pc := 179) hC dX10_attempt_179 rfl rfl k_166 (by decide) ?_
                            refine x_iload_n (pc := 180) hC dX10_attempt_180 rfl rfl ?_
                            refine x_iload_n (pc := 181) hC dX10_attempt_181 rfl rfl ?_
                            obtain ⟨v42, M41, e40, h⟩ := jbW_some h
                            refine x_cV (pc := 182) hC mv_X10_346 (ok_X10_gainOf hn e40) rfl (Nat.le_of_ble_eq_true rfl) k_166 rfl (by decide) (jRo0 C) (Nat.le_of_ble_eq_true rfl) dX10_attempt_182 rfl ?_
                            exact x_iret (pc := 185) hC hR dX10_attempt_185 (jr1 h) (jr2 h)
      · replace h := jit_neg hc h
        refine x_iconst (pc := 37) hC dX10_attempt_37 ?_
        exact x_iret (pc := 38) hC hR dX10_attempt_38 (jr1 h) (jr2 h))
    refine x_if_ne (tgt := 29) (pc := 22) hC dX10_attempt_22 (by decide) (fun hc => ?_) (fun hc => ?_)
    · replace h := jit_neg hc h
      refine x_iconst (pc := 29) hC dX10_attempt_29 ?_
      exact Hk8 _ h
    · replace h := jit_pos hc h
      refine x_iconst (pc := 25) hC dX10_attempt_25 ?_
      refine x_goto (tgt := 30) (pc := 26) hC dX10_attempt_26 (by decide) ?_
      exact Hk8 _ h

set_option maxHeartbeats 4000000 in
set_option maxRecDepth 20000 in
theorem ok_X10_grade {X : jX} {n : Nat} (hn : 179 ≤ n) {l1 : Int} {l2 : Int} {l3 : Int} {M : jM} {rz : Int} {Mz : jM} (h : f_X10_grade l1 l2 l3 M = some (rz, Mz)) : jCt X n yX10_grade cX10_grade 4 (some .int) 3 [jA 166, jI l1, jI l2, jI l3] M (some (jI rz)) Mz := by
  refine jCt_of (own := RX10) (ls := [jA 166, jI l1, jI l2, jI l3]) (by decide +kernel) rfl hn (Nat.le_of_ble_eq_true rfl) rfl ?_
  intro C hC hR
  unfold f_X10_grade at h
  refine x_aloadA_n (pc := 0) hC dX10_grade_0 rfl rfl k_166 (by decide) ?_
  refine x_iconst (pc := 1) hC dX10_grade_1 ?_
  obtain ⟨M1, eM1, h⟩ := jlet_some h
  refine x_pi (pc := 2) (ji := 0) hC fl_X10_3 rfl ft10_0 k_166 dX10_grade_2 eM1 ?_
  refine x_aloadA_n (pc := 5) hC dX10_grade_5 rfl rfl k_166 (by decide) ?_
  refine x_iload_n (pc := 6) hC dX10_grade_6 rfl rfl ?_
  refine x_iload_n (pc := 7) hC dX10_grade_7 rfl rfl ?_
  obtain ⟨v4, M3, e2, h⟩ := jbW_some h
  refine x_cV (pc := 8) hC mv_X10_417 (ok_X10_noTry hn e2) rfl (Nat.le_of_ble_eq_true rfl) k_166 rfl (by decide) (jRo0 C) (Nat.le_of_ble_eq_true rfl) dX10_grade_8 rfl ?_
  refine x_if_ne (tgt := 22) (pc := 11) hC dX10_grade_11 (by decide) (fun hc => ?_) (fun hc => ?_)
  · replace h := jit_neg hc h
    refine x_iconst (pc := 22) hC dX10_grade_22 ?_
    exact x_iret (pc := 23) hC hR dX10_grade_23 (jr1 h) (jr2 h)
  · replace h := jit_pos hc h
    refine x_aloadA_n (pc := 14) hC dX10_grade_14 rfl rfl k_166 (by decide) ?_
    refine x_iload_n (pc := 15) hC dX10_grade_15 rfl rfl ?_
    obtain ⟨v7, M6, e5, h⟩ := jbW_some h
    refine x_cV (pc := 16) hC mv_X10_423 (ok_X10_noJudge hn e5) rfl (Nat.le_of_ble_eq_true rfl) k_166 rfl (by decide) (jRo0 C) (Nat.le_of_ble_eq_true rfl) dX10_grade_16 rfl ?_
    refine x_if_eq (tgt := 24) (pc := 19) hC dX10_grade_19 (by decide) (fun hc => ?_) (fun hc => ?_)
    · replace h := jit_pos hc h
      refine x_aloadA_n (pc := 24) hC dX10_grade_24 rfl rfl k_166 (by decide) ?_
      refine x_iload_n (pc := 25) hC dX10_grade_25 rfl rfl ?_
      refine x_iload_n (pc := 26) hC dX10_grade_26 rfl rfl ?_
      refine x_iload_n (pc := 27) hC dX10_grade_27 rfl rfl ?_
      obtain ⟨v9, e8, h⟩ := jbR_some h
      refine x_cV (pc := 28) hC mv_X10_312 (ok_X10_gradeBy hn e8) rfl (Nat.le_of_ble_eq_true rfl) k_166 rfl (by decide) (jRo0 C) (Nat.le_of_ble_eq_true rfl) dX10_grade_28 rfl ?_
      exact x_iret (pc := 31) hC hR dX10_grade_31 (jr1 h) (jr2 h)
    · replace h := jit_neg hc h
      refine x_iconst (pc := 22) hC dX10_grade_22 ?_
      exact x_iret (pc := 23) hC hR dX10_grade_23 (jr1 h) (jr2 h)

set_option maxHeartbeats 4000000 in
set_option maxRecDepth 20000 in
theorem ok_X10_mean {X : jX} {n : Nat} (hn : 179 ≤ n) {l1 : Int} {l2 : Int} {M : jM} {rz : Int} {Mz : jM} (h : f_X10_mean l1 l2 M = some (rz, Mz)) : jCt X n yX10_mean cX10_mean 3 (some .int) 3 [jA 166, jI l1, jI l2] M (some (jI rz)) Mz := by
  refine jCt_of (own := RX10) (ls := [jA 166, jI l1, jI l2]) (by decide +kernel) rfl hn (Nat.le_of_ble_eq_true rfl) rfl ?_
  intro C hC hR
  unfold f_X10_mean at h
  refine x_aloadA_n (pc := 0) hC dX10_mean_0 rfl rfl k_166 (by decide) ?_
  refine x_iconst (pc := 1) hC dX10_mean_1 ?_
  obtain ⟨M1, eM1, h⟩ := jlet_some h
  refine x_pi (pc := 2) (ji := 0) hC fl_X10_3 rfl ft10_0 k_166 dX10_mean_2 eM1 ?_
  refine x_aloadA_n (pc := 5) hC dX10_mean_5 rfl rfl k_166 (by decide) ?_
  refine x_iload_n (pc := 6) hC dX10_mean_6 rfl rfl ?_
  refine x_iload_n (pc := 7) hC dX10_mean_7 rfl rfl ?_
  obtain ⟨v4, M3, e2, h⟩ := jbW_some h
  refine x_cV (pc := 8) hC mv_X10_417 (ok_X10_noTry hn e2) rfl (Nat.le_of_ble_eq_true rfl) k_166 rfl (by decide) (jRo0 C) (Nat.le_of_ble_eq_true rfl) dX10_mean_8 rfl ?_
  refine x_if_eq (tgt := 16) (pc := 11) hC dX10_mean_11 (by decide) (fun hc => ?_) (fun hc => ?_)
  · replace h := jit_pos hc h
    refine x_aloadA_n (pc := 16) hC dX10_mean_16 rfl rfl k_166 (by decide) ?_
    refine x_iload_n (pc := 17) hC dX10_mean_17 rfl rfl ?_
    refine x_iload_n (pc := 18) hC dX10_mean_18 rfl rfl ?_
    obtain ⟨v7, M6, e5, h⟩ := jbW_some h
    refine x_cV (pc := 19) hC mv_X10_340 (ok_X10_meanOf hn e5) rfl (Nat.le_of_ble_eq_true rfl) k_166 rfl (by decide) (jRo0 C) (Nat.le_of_ble_eq_true rfl) dX10_mean_19 rfl ?_
    exact x_iret (pc := 22) hC hR dX10_mean_22 (jr1 h) (jr2 h)
  · replace h := jit_neg hc h
    refine x_iconst (pc := 14) hC dX10_mean_14 ?_
    exact x_iret (pc := 15) hC hR dX10_mean_15 (jr1 h) (jr2 h)

set_option maxHeartbeats 4000000 in
set_option maxRecDepth 20000 in
theorem ok_X10_mark {X : jX} {n : Nat} (hn : 179 ≤ n) {l1 : Int} {l2 : Int} {l3 : Int} {M : jM} {rz : Int} {Mz : jM} (h : f_X10_mark l1 l2 l3 M = some (rz, Mz)) : jCt X n yX10_mark cX10_mark 4 (some .int) 2 [jA 166, jI l1, jI l2, jI l3] M (some (jI rz)) Mz := by
  refine jCt_of (own := RX10) (ls := [jA 166, jI l1, jI l2, jI l3]) (by decide +kernel) rfl hn (Nat.le_of_ble_eq_true rfl) rfl ?_
  intro C hC hR
  unfold f_X10_mark at h
  refine x_aloadA_n (pc := 0) hC dX10_mark_0 rfl rfl k_166 (by decide) ?_
  refine x_iconst (pc := 1) hC dX10_mark_1 ?_
  obtain ⟨M1, eM1, h⟩ := jlet_some h
  refine x_pi (pc := 2) (ji := 0) hC fl_X10_3 rfl ft10_0 k_166 dX10_mark_2 eM1 ?_
  refine x_aloadA_n (pc := 5) hC dX10_mark_5 rfl rfl k_166 (by decide) ?_
  refine x_iload_n (pc := 6) hC dX10_mark_6 rfl rfl ?_
  obtain ⟨v4, M3, e2, h⟩ := jbW_some h
  refine x_cV (pc := 7) hC mv_X10_411 (ok_X10_noSkater hn e2) rfl (Nat.le_of_ble_eq_true rfl) k_166 rfl (by decide) (jRo0 C) (Nat.le_of_ble_eq_true rfl) dX10_mark_7 rfl ?_
  refine x_if_ne (tgt := 29) (pc := 10) hC dX10_mark_10 (by decide) (fun hc => ?_) (fun hc => ?_)
  · replace h := jit_neg hc h
    refine x_iconst (pc := 29) hC dX10_mark_29 ?_
    exact x_iret (pc := 30) hC hR dX10_mark_30 (jr1 h) (jr2 h)
  · replace h := jit_pos hc h
    refine x_aloadA_n (pc := 13) hC dX10_mark_13 rfl rfl k_166 (by decide) ?_
    refine x_iload_n (pc := 14) hC dX10_mark_14 rfl rfl ?_
    obtain ⟨v7, M6, e5, h⟩ := jbW_some h
    refine x_cV (pc := 15) hC mv_X10_426 (ok_X10_noComponent hn e5) rfl (Nat.le_of_ble_eq_true rfl) k_166 rfl (by decide) (jRo0 C) (Nat.le_of_ble_eq_true rfl) dX10_mark_15 rfl ?_
    refine x_if_ne (tgt := 29) (pc := 18) hC dX10_mark_18 (by decide) (fun hc => ?_) (fun hc => ?_)
    · replace h := jit_neg hc h
      refine x_iconst (pc := 29) hC dX10_mark_29 ?_
      exact x_iret (pc := 30) hC hR dX10_mark_30 (jr1 h) (jr2 h)
    · replace h := jit_pos hc h
      refine x_aloadA_n (pc := 21) hC dX10_mark_21 rfl rfl k_166 (by decide) ?_
      refine x_iload_n (pc := 22) hC dX10_mark_22 rfl rfl ?_
      obtain ⟨v10, M9, e8, h⟩ := jbW_some h
      refine x_cV (pc := 23) hC mv_X10_423 (ok_X10_noJudge hn e8) rfl (Nat.le_of_ble_eq_true rfl) k_166 rfl (by decide) (jRo0 C) (Nat.le_of_ble_eq_true rfl) dX10_mark_23 rfl ?_
      refine x_if_eq (tgt := 31) (pc := 26) hC dX10_mark_26 (by decide) (fun hc => ?_) (fun hc => ?_)
      · replace h := jit_pos hc h
        refine x_aloadA_n (pc := 31) hC dX10_mark_31 rfl rfl k_166 (by decide) ?_
        refine x_gf (pc := 32) (b := 170) hC fl_X10_84 ft10_10 k_166 (by decide) (off := 4) (by decide +kernel) (by decide) dX10_mark_32 ?_
        refine x_aloadA_n (pc := 35) hC dX10_mark_35 rfl rfl k_166 (by decide) ?_
        refine x_iload_n (pc := 36) hC dX10_mark_36 rfl rfl ?_
        refine x_iload_n (pc := 37) hC dX10_mark_37 rfl rfl ?_
        refine x_iload_n (pc := 38) hC dX10_mark_38 rfl rfl ?_
        obtain ⟨v12, e11, h⟩ := jbR_some h
        refine x_cV (pc := 39) hC mv_X10_319 (ok_X10_markAt hn e11) rfl (Nat.le_of_ble_eq_true rfl) k_166 rfl (by decide) (jRo0 C) (Nat.le_of_ble_eq_true rfl) dX10_mark_39 rfl ?_
        obtain ⟨hb13, h⟩ := jck_some h
        refine x_iald (pc := 42) hC k_170 (by rw [l_170]; exact hb13) dX10_mark_42 ?_
        exact x_iret (pc := 43) hC hR dX10_mark_43 (jr1 h) (jr2 h)
      · replace h := jit_neg hc h
        refine x_iconst (pc := 29) hC dX10_mark_29 ?_
        exact x_iret (pc := 30) hC hR dX10_mark_30 (jr1 h) (jr2 h)

set_option maxHeartbeats 4000000 in
set_option maxRecDepth 20000 in
theorem ok_X10_component {X : jX} {n : Nat} (hn : 179 ≤ n) {l1 : Int} {l2 : Int} {M : jM} {rz : Int} {Mz : jM} (h : f_X10_component l1 l2 M = some (rz, Mz)) : jCt X n yX10_component cX10_component 3 (some .int) 3 [jA 166, jI l1, jI l2] M (some (jI rz)) Mz := by
  refine jCt_of (own := RX10) (ls := [jA 166, jI l1, jI l2]) (by decide +kernel) rfl hn (Nat.le_of_ble_eq_true rfl) rfl ?_
  intro C hC hR
  unfold f_X10_component at h
  refine x_aloadA_n (pc := 0) hC dX10_component_0 rfl rfl k_166 (by decide) ?_
  refine x_iconst (pc := 1) hC dX10_component_1 ?_
  obtain ⟨M1, eM1, h⟩ := jlet_some h
  refine x_pi (pc := 2) (ji := 0) hC fl_X10_3 rfl ft10_0 k_166 dX10_component_2 eM1 ?_
  refine x_aloadA_n (pc := 5) hC dX10_component_5 rfl rfl k_166 (by decide) ?_
  obtain ⟨M3, e2, h⟩ := jbV_some h
  refine x_cV (pc := 6) hC mv_X10_408 (ok_X10_all hn e2) rfl (Nat.le_of_ble_eq_true rfl) k_166 rfl (by decide) (jRo0 C) (Nat.le_of_ble_eq_true rfl) dX10_component_6 rfl ?_
  refine x_aloadA_n (pc := 9) hC dX10_component_9 rfl rfl k_166 (by decide) ?_
  refine x_iload_n (pc := 10) hC dX10_component_10 rfl rfl ?_
  obtain ⟨v6, M5, e4, h⟩ := jbW_some h
  refine x_cV (pc := 11) hC mv_X10_411 (ok_X10_noSkater hn e4) rfl (Nat.le_of_ble_eq_true rfl) k_166 rfl (by decide) (jRo0 C) (Nat.le_of_ble_eq_true rfl) dX10_component_11 rfl ?_
  refine x_if_ne (tgt := 25) (pc := 14) hC dX10_component_14 (by decide) (fun hc => ?_) (fun hc => ?_)
  · replace h := jit_neg hc h
    refine x_iconst (pc := 25) hC dX10_component_25 ?_
    exact x_iret (pc := 26) hC hR dX10_component_26 (jr1 h) (jr2 h)
  · replace h := jit_pos hc h
    refine x_aloadA_n (pc := 17) hC dX10_component_17 rfl rfl k_166 (by decide) ?_
    refine x_iload_n (pc := 18) hC dX10_component_18 rfl rfl ?_
    obtain ⟨v9, M8, e7, h⟩ := jbW_some h
    refine x_cV (pc := 19) hC mv_X10_426 (ok_X10_noComponent hn e7) rfl (Nat.le_of_ble_eq_true rfl) k_166 rfl (by decide) (jRo0 C) (Nat.le_of_ble_eq_true rfl) dX10_component_19 rfl ?_
    refine x_if_eq (tgt := 27) (pc := 22) hC dX10_component_22 (by decide) (fun hc => ?_) (fun hc => ?_)
    · replace h := jit_pos hc h
      refine x_aloadA_n (pc := 27) hC dX10_component_27 rfl rfl k_166 (by decide) ?_
      refine x_iload_n (pc := 28) hC dX10_component_28 rfl rfl ?_
      refine x_iload_n (pc := 29) hC dX10_component_29 rfl rfl ?_
      obtain ⟨v12, M11, e10, h⟩ := jbW_some h
      refine x_cV (pc := 30) hC mv_X10_352 (ok_X10_componentOf hn e10) rfl (Nat.le_of_ble_eq_true rfl) k_166 rfl (by decide) (jRo0 C) (Nat.le_of_ble_eq_true rfl) dX10_component_30 rfl ?_
      exact x_iret (pc := 33) hC hR dX10_component_33 (jr1 h) (jr2 h)
    · replace h := jit_neg hc h
      refine x_iconst (pc := 25) hC dX10_component_25 ?_
      exact x_iret (pc := 26) hC hR dX10_component_26 (jr1 h) (jr2 h)

set_option maxHeartbeats 4000000 in
set_option maxRecDepth 20000 in
theorem ok_X10_total {X : jX} {n : Nat} (hn : 179 ≤ n) {l1 : Int} {l2 : Int} {M : jM} {rz : Int} {Mz : jM} (h : f_X10_total l1 l2 M = some (rz, Mz)) : jCt X n yX10_total cX10_total 3 (some .int) 9 [jA 166, jI l1, jI l2] M (some (jI rz)) Mz := by
  refine jCt_of (own := RX10) (ls := [jA 166, jI l1, jI l2]) (by decide +kernel) rfl hn (Nat.le_of_ble_eq_true rfl) rfl ?_
  intro C hC hR
  unfold f_X10_total at h
  refine x_aloadA_n (pc := 0) hC dX10_total_0 rfl rfl k_166 (by decide) ?_
  refine x_iconst (pc := 1) hC dX10_total_1 ?_
  obtain ⟨M1, eM1, h⟩ := jlet_some h
  refine x_pi (pc := 2) (ji := 0) hC fl_X10_3 rfl ft10_0 k_166 dX10_total_2 eM1 ?_
  refine x_aloadA_n (pc := 5) hC dX10_total_5 rfl rfl k_166 (by decide) ?_
  obtain ⟨M3, e2, h⟩ := jbV_some h
  refine x_cV (pc := 6) hC mv_X10_408 (ok_X10_all hn e2) rfl (Nat.le_of_ble_eq_true rfl) k_166 rfl (by decide) (jRo0 C) (Nat.le_of_ble_eq_true rfl) dX10_total_6 rfl ?_
  refine x_aloadA_n (pc := 9) hC dX10_total_9 rfl rfl k_166 (by decide) ?_
  refine x_iload_n (pc := 10) hC dX10_total_10 rfl rfl ?_
  obtain ⟨v6, M5, e4, h⟩ := jbW_some h
  refine x_cV (pc := 11) hC mv_X10_411 (ok_X10_noSkater hn e4) rfl (Nat.le_of_ble_eq_true rfl) k_166 rfl (by decide) (jRo0 C) (Nat.le_of_ble_eq_true rfl) dX10_total_11 rfl ?_
  refine x_if_ne (tgt := 39) (pc := 14) hC dX10_total_14 (by decide) (fun hc => ?_) (fun hc => ?_)
  · replace h := jit_neg hc h
    refine x_iconst (pc := 39) hC dX10_total_39 ?_
    exact x_iret (pc := 40) hC hR dX10_total_40 (jr1 h) (jr2 h)
  · replace h := jit_pos hc h
    refine x_aloadA_n (pc := 17) hC dX10_total_17 rfl rfl k_166 (by decide) ?_
    refine x_iload_n (pc := 18) hC dX10_total_18 rfl rfl ?_
    refine x_iconst (pc := 19) hC dX10_total_19 ?_
    refine x_iconst (pc := 20) hC dX10_total_20 ?_
    obtain ⟨v8, e7, h⟩ := jbR_some h
    refine x_cS (pc := 21) hC ms_X10_69 (ok_X10_in hn e7) rfl (Nat.le_of_ble_eq_true rfl) (jRo0 C) (Nat.le_of_ble_eq_true rfl) dX10_total_21 rfl ?_
    obtain ⟨k10, Hk10, h⟩ := jk_some (P := fun k10 => ∀ (s1_9 : Int), k10 s1_9 = some (rz, Mz) → jG C X n 3 0 0 32 [jA 166, jI l1, jI l2] [jI s1_9, jA 166] M5) h (by
      intro s1_9 h
      refine x_iconst (pc := 32) hC dX10_total_32 ?_
      obtain ⟨v13, M12, e11, h⟩ := jbW_some h
      refine x_cV (pc := 33) hC mv_X10_268 (ok_X10_throwsIf hn e11) rfl (Nat.le_of_ble_eq_true rfl) k_166 rfl (by decide) (jRo0 C) (Nat.le_of_ble_eq_true rfl) dX10_total_33 rfl ?_
      refine x_if_eq (tgt := 41) (pc := 36) hC dX10_total_36 (by decide) (fun hc => ?_) (fun hc => ?_)
      · replace h := jit_pos hc h
        refine x_iload_n (pc := 41) hC dX10_total_41 rfl rfl ?_
        rcases jit_or h with ⟨hc, h⟩ | ⟨hc, h⟩
        · refine x_tableOut (tgt := 97) (pc := 42) hC dX10_total_42 hc (by decide) ?_
          refine x_aloadA_n (pc := 97) hC dX10_total_97 rfl rfl k_166 (by decide) ?_
          refine x_iload_n (pc := 98) hC dX10_total_98 rfl rfl ?_
          obtain ⟨v16, M15, e14, h⟩ := jbW_some h
          refine x_cV (pc := 99) hC mv_X10_399 (ok_X10_totalOf hn e14) rfl (Nat.le_of_ble_eq_true rfl) k_166 rfl (by decide) (jRo0 C) (Nat.le_of_ble_eq_true rfl) dX10_total_99 rfl ?_
          exact x_iret (pc := 102) hC hR dX10_total_102 (jr1 h) (jr2 h)
        · rcases jit_or h with ⟨hq, h⟩ | ⟨hr0, h⟩
          · refine x_tableIn (tgt := 72) (off := 30) (pc := 42) hC dX10_total_42 (by omega) (by omega) (by rw [hq]; rfl) (by decide) ?_
            refine x_aloadA_n (pc := 72) hC dX10_total_72 rfl rfl k_166 (by decide) ?_
            refine x_iload_n (pc := 73) hC dX10_total_73 rfl rfl ?_
            obtain ⟨v19, M18, e17, h⟩ := jbW_some h
            refine x_cV (pc := 74) hC mv_X10_390 (ok_X10_pointsOf hn e17) rfl (Nat.le_of_ble_eq_true rfl) k_166 rfl (by decide) (jRo0 C) (Nat.le_of_ble_eq_true rfl) dX10_total_74 rfl ?_
            exact x_iret (pc := 77) hC hR dX10_total_77 (jr1 h) (jr2 h)
          · rcases jit_or h with ⟨hq, h⟩ | ⟨hr1, h⟩
            · refine x_tableIn (tgt := 78) (off := 36) (pc := 42) hC dX10_total_42 (by omega) (by omega) (by rw [hq]; rfl) (by decide) ?_
              refine x_aloadA_n (pc := 78) hC dX10_total_78 rfl rfl k_166 (by decide) ?_
              refine x_iload_n (pc := 79) hC dX10_total_79 rfl rfl ?_
              obtain ⟨v22, M21, e20, h⟩ := jbW_some h
              refine x_cV (pc := 80) hC mv_X10_393 (ok_X10_shownOf hn e20) rfl (Nat.le_of_ble_eq_true rfl) k_166 rfl (by decide) (jRo0 C) (Nat.le_of_ble_eq_true rfl) dX10_total_80 rfl ?_
              exact x_iret (pc := 83) hC hR dX10_total_83 (jr1 h) (jr2 h)
            · rcases jit_or h with ⟨hq, h⟩ | ⟨hr2, h⟩
              · refine x_tableIn (tgt := 84) (off := 42) (pc := 42) hC dX10_total_42 (by omega) (by omega) (by rw [hq]; rfl) (by decide) ?_
                refine x_aloadA_n (pc := 84) hC dX10_total_84 rfl rfl k_166 (by decide) ?_
                refine x_iload_n (pc := 85) hC dX10_total_85 rfl rfl ?_
                refine x_iconst (pc := 86) hC dX10_total_86 ?_
                obtain ⟨v24, e23, h⟩ := jbR_some h
                refine x_cV (pc := 87) hC mv_X10_355 (ok_X10_calledOf hn e23) rfl (Nat.le_of_ble_eq_true rfl) k_166 rfl (by decide) (jRo0 C) (Nat.le_of_ble_eq_true rfl) dX10_total_87 rfl ?_
                exact x_iret (pc := 90) hC hR dX10_total_90 (jr1 h) (jr2 h)
              · have hq : jw l2 = 3 := by omega
                refine x_tableIn (tgt := 91) (off := 49) (pc := 42) hC dX10_total_42 (by omega) (by omega) (by rw [hq]; rfl) (by decide) ?_
                refine x_aloadA_n (pc := 91) hC dX10_total_91 rfl rfl k_166 (by decide) ?_
                refine x_iload_n (pc := 92) hC dX10_total_92 rfl rfl ?_
                obtain ⟨v27, M26, e25, h⟩ := jbW_some h
                refine x_cV (pc := 93) hC mv_X10_396 (ok_X10_deductedOf hn e25) rfl (Nat.le_of_ble_eq_true rfl) k_166 rfl (by decide) (jRo0 C) (Nat.le_of_ble_eq_true rfl) dX10_total_93 rfl ?_
                exact x_iret (pc := 96) hC hR dX10_total_96 (jr1 h) (jr2 h)
      · replace h := jit_neg hc h
        refine x_iconst (pc := 39) hC dX10_total_39 ?_
        exact x_iret (pc := 40) hC hR dX10_total_40 (jr1 h) (jr2 h))
    refine x_if_ne (tgt := 31) (pc := 24) hC dX10_total_24 (by decide) (fun hc => ?_) (fun hc => ?_)
    · replace h := jit_neg hc h
      refine x_iconst (pc := 31) hC dX10_total_31 ?_
      exact Hk10 _ h
    · replace h := jit_pos hc h
      refine x_iconst (pc := 27) hC dX10_total_27 ?_
      refine x_goto (tgt := 32) (pc := 28) hC dX10_total_28 (by decide) ?_
      exact Hk10 _ h

set_option maxHeartbeats 4000000 in
set_option maxRecDepth 20000 in
theorem ok_X10_rule {X : jX} {n : Nat} (hn : 179 ≤ n) {l1 : Int} {l2 : Int} {M : jM} {rz : Int} {Mz : jM} (h : f_X10_rule l1 l2 M = some (rz, Mz)) : jCt X n yX10_rule cX10_rule 3 (some .int) 7 [jA 166, jI l1, jI l2] M (some (jI rz)) Mz := by
  refine jCt_of (own := RX10) (ls := [jA 166, jI l1, jI l2]) (by decide +kernel) rfl hn (Nat.le_of_ble_eq_true rfl) rfl ?_
  intro C hC hR
  unfold f_X10_rule at h
  refine x_aloadA_n (pc := 0) hC dX10_rule_0 rfl rfl k_166 (by decide) ?_
  refine x_iconst (pc := 1) hC dX10_rule_1 ?_
  obtain ⟨M1, eM1, h⟩ := jlet_some h
  refine x_pi (pc := 2) (ji := 0) hC fl_X10_3 rfl ft10_0 k_166 dX10_rule_2 eM1 ?_
  refine x_aloadA_n (pc := 5) hC dX10_rule_5 rfl rfl k_166 (by decide) ?_
  obtain ⟨M3, e2, h⟩ := jbV_some h
  refine x_cV (pc := 6) hC mv_X10_408 (ok_X10_all hn e2) rfl (Nat.le_of_ble_eq_true rfl) k_166 rfl (by decide) (jRo0 C) (Nat.le_of_ble_eq_true rfl) dX10_rule_6 rfl ?_
  refine x_aloadA_n (pc := 9) hC dX10_rule_9 rfl rfl k_166 (by decide) ?_
  refine x_iload_n (pc := 10) hC dX10_rule_10 rfl rfl ?_
  obtain ⟨v6, M5, e4, h⟩ := jbW_some h
  refine x_cV (pc := 11) hC mv_X10_411 (ok_X10_noSkater hn e4) rfl (Nat.le_of_ble_eq_true rfl) k_166 rfl (by decide) (jRo0 C) (Nat.le_of_ble_eq_true rfl) dX10_rule_11 rfl ?_
  refine x_if_ne (tgt := 46) (pc := 14) hC dX10_rule_14 (by decide) (fun hc => ?_) (fun hc => ?_)
  · replace h := jit_neg hc h
    refine x_iconst (pc := 46) hC dX10_rule_46 ?_
    exact x_iret (pc := 47) hC hR dX10_rule_47 (jr1 h) (jr2 h)
  · replace h := jit_pos hc h
    refine x_aloadA_n (pc := 17) hC dX10_rule_17 rfl rfl k_166 (by decide) ?_
    refine x_iload_n (pc := 18) hC dX10_rule_18 rfl rfl ?_
    refine x_iconst (pc := 19) hC dX10_rule_19 ?_
    refine x_aloadA_n (pc := 20) hC dX10_rule_20 rfl rfl k_166 (by decide) ?_
    refine x_gf (pc := 21) (b := 169) hC fl_X10_81 ft10_9 k_166 (by decide) (off := 3) (by decide +kernel) (by decide) dX10_rule_21 ?_
    refine x_iconst (pc := 24) hC dX10_rule_24 ?_
    obtain ⟨hb7, h⟩ := jck_some h
    refine x_iald (pc := 25) hC k_169 (by rw [l_169]; exact hb7) dX10_rule_25 ?_
    refine x_iconst (pc := 26) hC dX10_rule_26 ?_
    refine x_isub (pc := 27) hC dX10_rule_27 ?_
    obtain ⟨v9, e8, h⟩ := jbR_some h
    refine x_cS (pc := 28) hC ms_X10_69 (ok_X10_in hn e8) rfl (Nat.le_of_ble_eq_true rfl) (jRo0 C) (Nat.le_of_ble_eq_true rfl) dX10_rule_28 rfl ?_
    obtain ⟨k11, Hk11, h⟩ := jk_some (P := fun k11 => ∀ (s1_10 : Int), k11 s1_10 = some (rz, Mz) → jG C X n 3 0 0 39 [jA 166, jI l1, jI l2] [jI s1_10, jA 166] M5) h (by
      intro s1_10 h
      refine x_iconst (pc := 39) hC dX10_rule_39 ?_
      obtain ⟨v14, M13, e12, h⟩ := jbW_some h
      refine x_cV (pc := 40) hC mv_X10_268 (ok_X10_throwsIf hn e12) rfl (Nat.le_of_ble_eq_true rfl) k_166 rfl (by decide) (jRo0 C) (Nat.le_of_ble_eq_true rfl) dX10_rule_40 rfl ?_
      refine x_if_eq (tgt := 48) (pc := 43) hC dX10_rule_43 (by decide) (fun hc => ?_) (fun hc => ?_)
      · replace h := jit_pos hc h
        refine x_aloadA_n (pc := 48) hC dX10_rule_48 rfl rfl k_166 (by decide) ?_
        refine x_iload_n (pc := 49) hC dX10_rule_49 rfl rfl ?_
        refine x_iload_n (pc := 50) hC dX10_rule_50 rfl rfl ?_
        obtain ⟨v17, M16, e15, h⟩ := jbW_some h
        refine x_cV (pc := 51) hC mv_X10_387 (ok_X10_ruleOf hn e15) rfl (Nat.le_of_ble_eq_true rfl) k_166 rfl (by decide) (jRo0 C) (Nat.le_of_ble_eq_true rfl) dX10_rule_51 rfl ?_
        exact x_iret (pc := 54) hC hR dX10_rule_54 (jr1 h) (jr2 h)
      · replace h := jit_neg hc h
        refine x_iconst (pc := 46) hC dX10_rule_46 ?_
        exact x_iret (pc := 47) hC hR dX10_rule_47 (jr1 h) (jr2 h))
    refine x_if_ne (tgt := 38) (pc := 31) hC dX10_rule_31 (by decide) (fun hc => ?_) (fun hc => ?_)
    · replace h := jit_neg hc h
      refine x_iconst (pc := 38) hC dX10_rule_38 ?_
      exact Hk11 _ h
    · replace h := jit_pos hc h
      refine x_iconst (pc := 34) hC dX10_rule_34 ?_
      refine x_goto (tgt := 39) (pc := 35) hC dX10_rule_35 (by decide) ?_
      exact Hk11 _ h

set_option maxHeartbeats 4000000 in
set_option maxRecDepth 20000 in
theorem ok_X10_rank {X : jX} {n : Nat} (hn : 179 ≤ n) {l1 : Int} {M : jM} {rz : Int} {Mz : jM} (h : f_X10_rank l1 M = some (rz, Mz)) : jCt X n yX10_rank cX10_rank 2 (some .int) 10 [jA 166, jI l1] M (some (jI rz)) Mz := by
  refine jCt_of (own := RX10) (ls := [jA 166, jI l1]) (by decide +kernel) rfl hn (Nat.le_of_ble_eq_true rfl) rfl ?_
  intro C hC hR
  unfold f_X10_rank at h
  refine x_aloadA_n (pc := 0) hC dX10_rank_0 rfl rfl k_166 (by decide) ?_
  refine x_iconst (pc := 1) hC dX10_rank_1 ?_
  obtain ⟨M1, eM1, h⟩ := jlet_some h
  refine x_pi (pc := 2) (ji := 0) hC fl_X10_3 rfl ft10_0 k_166 dX10_rank_2 eM1 ?_
  refine x_aloadA_n (pc := 5) hC dX10_rank_5 rfl rfl k_166 (by decide) ?_
  obtain ⟨M3, e2, h⟩ := jbV_some h
  refine x_cV (pc := 6) hC mv_X10_408 (ok_X10_all hn e2) rfl (Nat.le_of_ble_eq_true rfl) k_166 rfl (by decide) (jRo0 C) (Nat.le_of_ble_eq_true rfl) dX10_rank_6 rfl ?_
  refine x_aloadA_n (pc := 9) hC dX10_rank_9 rfl rfl k_166 (by decide) ?_
  refine x_iload_n (pc := 10) hC dX10_rank_10 rfl rfl ?_
  obtain ⟨v6, M5, e4, h⟩ := jbW_some h
  refine x_cV (pc := 11) hC mv_X10_411 (ok_X10_noSkater hn e4) rfl (Nat.le_of_ble_eq_true rfl) k_166 rfl (by decide) (jRo0 C) (Nat.le_of_ble_eq_true rfl) dX10_rank_11 rfl ?_
  refine x_if_eq (tgt := 19) (pc := 14) hC dX10_rank_14 (by decide) (fun hc => ?_) (fun hc => ?_)
  · replace h := jit_pos hc h
    refine x_aloadA_n (pc := 19) hC dX10_rank_19 rfl rfl k_166 (by decide) ?_
    obtain ⟨M8, e7, h⟩ := jbV_some h
    refine x_cV (pc := 20) hC mv_X10_429 (ok_X10_laysTotals hn e7) rfl (Nat.le_of_ble_eq_true rfl) k_166 rfl (by decide) (jRo0 C) (Nat.le_of_ble_eq_true rfl) dX10_rank_20 rfl ?_
    refine x_aloadA_n (pc := 23) hC dX10_rank_23 rfl rfl k_166 (by decide) ?_
    refine x_iload_n (pc := 24) hC dX10_rank_24 rfl rfl ?_
    obtain ⟨v10, e9, h⟩ := jbR_some h
    refine x_cV (pc := 25) hC mv_X10_405 (ok_X10_rankOf hn e9) rfl (Nat.le_of_ble_eq_true rfl) k_166 rfl (by decide) (jRo0 C) (Nat.le_of_ble_eq_true rfl) dX10_rank_25 rfl ?_
    exact x_iret (pc := 28) hC hR dX10_rank_28 (jr1 h) (jr2 h)
  · replace h := jit_neg hc h
    refine x_iconst (pc := 17) hC dX10_rank_17 ?_
    exact x_iret (pc := 18) hC hR dX10_rank_18 (jr1 h) (jr2 h)

