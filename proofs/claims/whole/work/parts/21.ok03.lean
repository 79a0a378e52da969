/-! ===== the machine does what the functions say; by program ===== -/
set_option maxHeartbeats 4000000 in
set_option maxRecDepth 20000 in
theorem ok_X10_blanks {X : jX} {n : Nat} (hn : 179 ≤ n) {M : jM} {Mz : jM} (h : f_X10_blanks M = some Mz) : jCt X n yX10_blanks cX10_blanks 1 (none) 1 [jA 166] M (none) Mz := by
  refine jCt_of (own := RX10) (ls := [jA 166]) (by decide +kernel) rfl hn (Nat.le_of_ble_eq_true rfl) rfl ?_
  intro C hC hR
  unfold f_X10_blanks at h
  refine jlp1_ind (P := fun (M1 : jM) => jG C X n 1 0 0 0 [jA 166] [] M1) ?_ _ _ h
  intro self2 M1 Hself2 h
  refine x_aloadA_n (pc := 0) hC dX10_blanks_0 rfl rfl k_166 (by decide) ?_
  refine x_bipush (pc := 1) hC dX10_blanks_1 rfl ?_
  refine x_bipush (pc := 3) hC dX10_blanks_3 rfl ?_
  obtain ⟨v4, e3, h⟩ := jbR_some h
  refine x_cV (pc := 5) hC mv_X10_27 (ok_X10_isAt hn e3) rfl (Nat.le_of_ble_eq_true rfl) k_166 rfl (by decide) (jRo0 C) (Nat.le_of_ble_eq_true rfl) dX10_blanks_5 rfl ?_
  obtain ⟨k5, Hk5, h⟩ := jk_some (P := fun k5 => k5 = some Mz → jG C X n 1 0 0 22 [jA 166] [] M1) h (by
    intro h
    refine x_aloadA_n (pc := 22) hC dX10_blanks_22 rfl rfl k_166 (by decide) ?_
    refine x_dup (pc := 23) hC dX10_blanks_23 (show (2 : Nat) ≠ 3 by decide) ?_
    refine x_gi (pc := 24) (ji := 4) hC fl_X10_21 rfl fn10_4 k_166 dX10_blanks_24 ?_
    refine x_iconst (pc := 27) hC dX10_blanks_27 ?_
    refine x_iadd (pc := 28) hC dX10_blanks_28 ?_
    obtain ⟨M6, eM6, h⟩ := jlet_some h
    refine x_pi (pc := 29) (ji := 4) hC fl_X10_21 rfl ft10_4 k_166 dX10_blanks_29 eM6 ?_
    refine x_goto (tgt := 0) (pc := 32) hC dX10_blanks_32 (by decide) ?_
    exact Hself2 _ h)
  refine x_if_ne (tgt := 22) (pc := 8) hC dX10_blanks_8 (by decide) (fun hc => ?_) (fun hc => ?_)
  · replace h := jit_neg hc h
    exact Hk5 h
  · replace h := jit_pos hc h
    refine x_aloadA_n (pc := 11) hC dX10_blanks_11 rfl rfl k_166 (by decide) ?_
    refine x_bipush (pc := 12) hC dX10_blanks_12 rfl ?_
    refine x_bipush (pc := 14) hC dX10_blanks_14 rfl ?_
    obtain ⟨v8, e7, h⟩ := jbR_some h
    refine x_cV (pc := 16) hC mv_X10_27 (ok_X10_isAt hn e7) rfl (Nat.le_of_ble_eq_true rfl) k_166 rfl (by decide) (jRo0 C) (Nat.le_of_ble_eq_true rfl) dX10_blanks_16 rfl ?_
    refine x_if_eq (tgt := 35) (pc := 19) hC dX10_blanks_19 (by decide) (fun hc => ?_) (fun hc => ?_)
    · replace h := jit_pos hc h
      refine x_aloadA_n (pc := 35) hC dX10_blanks_35 rfl rfl k_166 (by decide) ?_
      refine x_aloadA_n (pc := 36) hC dX10_blanks_36 rfl rfl k_166 (by decide) ?_
      refine x_gi (pc := 37) (ji := 4) hC fl_X10_21 rfl fn10_4 k_166 dX10_blanks_37 ?_
      obtain ⟨M9, eM9, h⟩ := jlet_some h
      refine x_pi (pc := 40) (ji := 5) hC fl_X10_31 rfl ft10_5 k_166 dX10_blanks_40 eM9 ?_
      exact x_vret (pc := 43) hC hR dX10_blanks_43 (jrR h)
    · replace h := jit_neg hc h
      exact Hk5 h

set_option maxHeartbeats 4000000 in
set_option maxRecDepth 20000 in
theorem ok_X10_fails {X : jX} {n : Nat} (hn : 179 ≤ n) {M : jM} {Mz : jM} (h : f_X10_fails M = some Mz) : jCt X n yX10_fails cX10_fails 1 (none) 0 [jA 166] M (none) Mz := by
  refine jCt_of (own := RX10) (ls := [jA 166]) (by decide +kernel) rfl hn (Nat.le_of_ble_eq_true rfl) rfl ?_
  intro C hC hR
  unfold f_X10_fails at h
  refine x_aloadA_n (pc := 0) hC dX10_fails_0 rfl rfl k_166 (by decide) ?_
  refine x_gi (pc := 1) (ji := 7) hC fl_X10_18 rfl fn10_7 k_166 dX10_fails_1 ?_
  refine x_iconst (pc := 4) hC dX10_fails_4 ?_
  refine x_icmp_ne (tgt := 16) (pc := 5) hC dX10_fails_5 (by decide) (fun hc => ?_) (fun hc => ?_)
  · replace h := jit_neg hc h
    exact x_vret (pc := 16) hC hR dX10_fails_16 (jrR h)
  · replace h := jit_pos hc h
    refine x_aloadA_n (pc := 8) hC dX10_fails_8 rfl rfl k_166 (by decide) ?_
    refine x_aloadA_n (pc := 9) hC dX10_fails_9 rfl rfl k_166 (by decide) ?_
    refine x_gi (pc := 10) (ji := 5) hC fl_X10_31 rfl fn10_5 k_166 dX10_fails_10 ?_
    obtain ⟨M1, eM1, h⟩ := jlet_some h
    refine x_pi (pc := 13) (ji := 7) hC fl_X10_18 rfl ft10_7 k_166 dX10_fails_13 eM1 ?_
    exact x_vret (pc := 16) hC hR dX10_fails_16 (jrR h)

set_option maxHeartbeats 4000000 in
set_option maxRecDepth 20000 in
theorem ok_X10_isSign {X : jX} {n : Nat} (hn : 179 ≤ n) {l1 : Int} {M : jM} {rz : Int} {Mz : jM} (h : f_X10_isSign l1 M = some (rz, Mz)) : jCt X n yX10_isSign cX10_isSign 2 (some .boolean) 2 [jA 166, jI l1] M (some (jI rz)) Mz := by
  refine jCt_of (own := RX10) (ls := [jA 166, jI l1]) (by decide +kernel) rfl hn (Nat.le_of_ble_eq_true rfl) rfl ?_
  intro C hC hR
  unfold f_X10_isSign at h
  refine x_aloadA_n (pc := 0) hC dX10_isSign_0 rfl rfl k_166 (by decide) ?_
  obtain ⟨M2, e1, h⟩ := jbV_some h
  refine x_cV (pc := 1) hC mv_X10_34 (ok_X10_blanks hn e1) rfl (Nat.le_of_ble_eq_true rfl) k_166 rfl (by decide) (jRo0 C) (Nat.le_of_ble_eq_true rfl) dX10_isSign_1 rfl ?_
  refine x_aloadA_n (pc := 4) hC dX10_isSign_4 rfl rfl k_166 (by decide) ?_
  obtain ⟨v4, e3, h⟩ := jbR_some h
  refine x_cV (pc := 5) hC mv_X10_38 (ok_X10_hasFailed hn e3) rfl (Nat.le_of_ble_eq_true rfl) k_166 rfl (by decide) (jRo0 C) (Nat.le_of_ble_eq_true rfl) dX10_isSign_5 rfl ?_
  refine x_if_ne (tgt := 24) (pc := 8) hC dX10_isSign_8 (by decide) (fun hc => ?_) (fun hc => ?_)
  · replace h := jit_neg hc h
    refine x_iconst (pc := 24) hC dX10_isSign_24 ?_
    exact x_zret (pc := 25) hC hR dX10_isSign_25 (Or.inl jw0) (jr1 h) (jr2 h)
  · replace h := jit_pos hc h
    refine x_aloadA_n (pc := 11) hC dX10_isSign_11 rfl rfl k_166 (by decide) ?_
    refine x_iload_n (pc := 12) hC dX10_isSign_12 rfl rfl ?_
    refine x_iload_n (pc := 13) hC dX10_isSign_13 rfl rfl ?_
    obtain ⟨v6, e5, h⟩ := jbR_some h
    refine x_cV (pc := 14) hC mv_X10_27 (ok_X10_isAt hn e5) rfl (Nat.le_of_ble_eq_true rfl) k_166 rfl (by decide) (jRo0 C) (Nat.le_of_ble_eq_true rfl) dX10_isSign_14 rfl ?_
    refine x_if_eq (tgt := 24) (pc := 17) hC dX10_isSign_17 (by decide) (fun hc => ?_) (fun hc => ?_)
    · replace h := jit_pos hc h
      refine x_iconst (pc := 24) hC dX10_isSign_24 ?_
      exact x_zret (pc := 25) hC hR dX10_isSign_25 (Or.inl jw0) (jr1 h) (jr2 h)
    · replace h := jit_neg hc h
      refine x_iconst (pc := 20) hC dX10_isSign_20 ?_
      refine x_goto (tgt := 25) (pc := 21) hC dX10_isSign_21 (by decide) ?_
      exact x_zret (pc := 25) hC hR dX10_isSign_25 (Or.inr jw1) (jr1 h) (jr2 h)

set_option maxHeartbeats 4000000 in
set_option maxRecDepth 20000 in
theorem ok_X10_takes {X : jX} {n : Nat} (hn : 179 ≤ n) {l1 : Int} {M : jM} {rz : Int} {Mz : jM} (h : f_X10_takes l1 M = some (rz, Mz)) : jCt X n yX10_takes cX10_takes 3 (some .boolean) 3 [jA 166, jI l1] M (some (jI rz)) Mz := by
  refine jCt_of (own := RX10) (ls := [jA 166, jI l1, jN]) (by decide +kernel) rfl hn (Nat.le_of_ble_eq_true rfl) rfl ?_
  intro C hC hR
  unfold f_X10_takes at h
  refine x_aloadA_n (pc := 0) hC dX10_takes_0 rfl rfl k_166 (by decide) ?_
  refine x_iload_n (pc := 1) hC dX10_takes_1 rfl rfl ?_
  obtain ⟨v3, M2, e1, h⟩ := jbW_some h
  refine x_cV (pc := 2) hC mv_X10_42 (ok_X10_isSign hn e1) rfl (Nat.le_of_ble_eq_true rfl) k_166 rfl (by decide) (jRo0 C) (Nat.le_of_ble_eq_true rfl) dX10_takes_2 rfl ?_
  refine x_istore_n (ls2 := [jA 166, jI l1, jI v3]) (pc := 5) hC dX10_takes_5 rfl (by decide) rfl rfl rfl ?_
  refine x_iload_n (pc := 6) hC dX10_takes_6 rfl rfl ?_
  refine x_if_eq (tgt := 20) (pc := 7) hC dX10_takes_7 (by decide) (fun hc => ?_) (fun hc => ?_)
  · replace h := jit_pos hc h
    refine x_iload_n (pc := 20) hC dX10_takes_20 rfl rfl ?_
    obtain ⟨hz4, h⟩ := jck_some h
    exact x_zret (pc := 21) hC hR dX10_takes_21 hz4 (jr1 h) (jr2 h)
  · replace h := jit_neg hc h
    refine x_aloadA_n (pc := 10) hC dX10_takes_10 rfl rfl k_166 (by decide) ?_
    refine x_dup (pc := 11) hC dX10_takes_11 (show (2 : Nat) ≠ 3 by decide) ?_
    refine x_gi (pc := 12) (ji := 4) hC fl_X10_21 rfl fn10_4 k_166 dX10_takes_12 ?_
    refine x_iconst (pc := 15) hC dX10_takes_15 ?_
    refine x_iadd (pc := 16) hC dX10_takes_16 ?_
    obtain ⟨M5, eM5, h⟩ := jlet_some h
    refine x_pi (pc := 17) (ji := 4) hC fl_X10_21 rfl ft10_4 k_166 dX10_takes_17 eM5 ?_
    refine x_iload_n (pc := 20) hC dX10_takes_20 rfl rfl ?_
    obtain ⟨hz6, h⟩ := jck_some h
    exact x_zret (pc := 21) hC hR dX10_takes_21 hz6 (jr1 h) (jr2 h)

set_option maxHeartbeats 4000000 in
set_option maxRecDepth 20000 in
theorem ok_X10_asksSign {X : jX} {n : Nat} (hn : 179 ≤ n) {l1 : Int} {M : jM} {Mz : jM} (h : f_X10_asksSign l1 M = some Mz) : jCt X n yX10_asksSign cX10_asksSign 2 (none) 4 [jA 166, jI l1] M (none) Mz := by
  refine jCt_of (own := RX10) (ls := [jA 166, jI l1]) (by decide +kernel) rfl hn (Nat.le_of_ble_eq_true rfl) rfl ?_
  intro C hC hR
  unfold f_X10_asksSign at h
  refine x_aloadA_n (pc := 0) hC dX10_asksSign_0 rfl rfl k_166 (by decide) ?_
  refine x_iload_n (pc := 1) hC dX10_asksSign_1 rfl rfl ?_
  obtain ⟨v3, M2, e1, h⟩ := jbW_some h
  refine x_cV (pc := 2) hC mv_X10_46 (ok_X10_takes hn e1) rfl (Nat.le_of_ble_eq_true rfl) k_166 rfl (by decide) (jRo0 C) (Nat.le_of_ble_eq_true rfl) dX10_asksSign_2 rfl ?_
  refine x_if_ne (tgt := 12) (pc := 5) hC dX10_asksSign_5 (by decide) (fun hc => ?_) (fun hc => ?_)
  · replace h := jit_neg hc h
    exact x_vret (pc := 12) hC hR dX10_asksSign_12 (jrR h)
  · replace h := jit_pos hc h
    refine x_aloadA_n (pc := 8) hC dX10_asksSign_8 rfl rfl k_166 (by decide) ?_
    obtain ⟨M5, e4, h⟩ := jbV_some h
    refine x_cV (pc := 9) hC mv_X10_49 (ok_X10_fails hn e4) rfl (Nat.le_of_ble_eq_true rfl) k_166 rfl (by decide) (jRo0 C) (Nat.le_of_ble_eq_true rfl) dX10_asksSign_9 rfl ?_
    exact x_vret (pc := 12) hC hR dX10_asksSign_12 (jrR h)

set_option maxHeartbeats 4000000 in
set_option maxRecDepth 20000 in
theorem ok_X10_wordMany {X : jX} {n : Nat} (hn : 179 ≤ n) {M : jM} {rz : Int} {Mz : jM} (h : f_X10_wordMany M = some (rz, Mz)) : jCt X n yX10_wordMany cX10_wordMany 2 (some .int) 2 [jA 166] M (some (jI rz)) Mz := by
  refine jCt_of (own := RX10) (ls := [jA 166, jN]) (by decide +kernel) rfl hn (Nat.le_of_ble_eq_true rfl) rfl ?_
  intro C hC hR
  unfold f_X10_wordMany at h
  refine x_aloadA_n (pc := 0) hC dX10_wordMany_0 rfl rfl k_166 (by decide) ?_
  obtain ⟨M2, e1, h⟩ := jbV_some h
  refine x_cV (pc := 1) hC mv_X10_34 (ok_X10_blanks hn e1) rfl (Nat.le_of_ble_eq_true rfl) k_166 rfl (by decide) (jRo0 C) (Nat.le_of_ble_eq_true rfl) dX10_wordMany_1 rfl ?_
  refine x_aloadA_n (pc := 4) hC dX10_wordMany_4 rfl rfl k_166 (by decide) ?_
  refine x_gi (pc := 5) (ji := 4) hC fl_X10_21 rfl fn10_4 k_166 dX10_wordMany_5 ?_
  obtain ⟨l1_3, el1_3, h⟩ := jlet_some h
  refine x_istore_n (ls2 := [jA 166, jI l1_3]) (pc := 8) hC dX10_wordMany_8 rfl (by decide) rfl el1_3 rfl ?_
  refine jlp1_ind (P := fun (l1_4 : Int) => jG C X n 2 0 0 9 [jA 166, jI l1_4] [] M2) ?_ _ _ h
  intro self5 l1_4 Hself5 h
  refine x_iload_n (pc := 9) hC dX10_wordMany_9 rfl rfl ?_
  refine x_aloadA_n (pc := 10) hC dX10_wordMany_10 rfl rfl k_166 (by decide) ?_
  refine x_gi (pc := 11) (ji := 6) hC fl_X10_24 rfl fn10_6 k_166 dX10_wordMany_11 ?_
  obtain ⟨k6, Hk6, h⟩ := jk_some (P := fun k6 => k6 = some (rz, Mz) → jG C X n 2 0 0 45 [jA 166, jI l1_4] [] M2) h (by
    intro h
    refine x_iload_n (pc := 45) hC dX10_wordMany_45 rfl rfl ?_
    refine x_aloadA_n (pc := 46) hC dX10_wordMany_46 rfl rfl k_166 (by decide) ?_
    refine x_gi (pc := 47) (ji := 4) hC fl_X10_21 rfl fn10_4 k_166 dX10_wordMany_47 ?_
    refine x_isub (pc := 50) hC dX10_wordMany_50 ?_
    exact x_iret (pc := 51) hC hR dX10_wordMany_51 (jr1 h) (jr2 h))
  refine x_icmp_ge (tgt := 45) (pc := 14) hC dX10_wordMany_14 (by decide) (fun hc => ?_) (fun hc => ?_)
  · replace h := jit_pos hc h
    exact Hk6 h
  · replace h := jit_neg hc h
    refine x_aloadA_n (pc := 17) hC dX10_wordMany_17 rfl rfl k_166 (by decide) ?_
    refine x_gf (pc := 18) (b := 167) hC fl_X10_14 ft10_1 k_166 (by decide) (off := 1) (by decide +kernel) (by decide) dX10_wordMany_18 ?_
    refine x_iload_n (pc := 21) hC dX10_wordMany_21 rfl rfl ?_
    obtain ⟨hb7, h⟩ := jck_some h
    refine x_bald (pc := 22) hC k_167 (by rw [l_167]; exact hb7) dX10_wordMany_22 ?_
    refine x_bipush (pc := 23) hC dX10_wordMany_23 rfl ?_
    refine x_icmp_lt (tgt := 45) (pc := 25) hC dX10_wordMany_25 (by decide) (fun hc => ?_) (fun hc => ?_)
    · replace h := jit_pos hc h
      exact Hk6 h
    · replace h := jit_neg hc h
      refine x_aloadA_n (pc := 28) hC dX10_wordMany_28 rfl rfl k_166 (by decide) ?_
      refine x_gf (pc := 29) (b := 167) hC fl_X10_14 ft10_1 k_166 (by decide) (off := 1) (by decide +kernel) (by decide) dX10_wordMany_29 ?_
      refine x_iload_n (pc := 32) hC dX10_wordMany_32 rfl rfl ?_
      obtain ⟨hb8, h⟩ := jck_some h
      refine x_bald (pc := 33) hC k_167 (by rw [l_167]; exact hb8) dX10_wordMany_33 ?_
      refine x_bipush (pc := 34) hC dX10_wordMany_34 rfl ?_
      refine x_icmp_gt (tgt := 45) (pc := 36) hC dX10_wordMany_36 (by decide) (fun hc => ?_) (fun hc => ?_)
      · replace h := jit_pos hc h
        exact Hk6 h
      · replace h := jit_neg hc h
        obtain ⟨l1_9, el1_9, h⟩ := jlet_some h
        refine x_iinc (ls2 := [jA 166, jI l1_9]) (pc := 39) hC dX10_wordMany_39 rfl (by decide) rfl el1_9 rfl ?_
        refine x_goto (tgt := 9) (pc := 42) hC dX10_wordMany_42 (by decide) ?_
        exact Hself5 _ h

set_option maxHeartbeats 4000000 in
set_option maxRecDepth 20000 in
theorem ok_X10_isWord {X : jX} {n : Nat} (hn : 179 ≤ n) {l1 : Int} {M : jM} {rz : Int} {Mz : jM} (hl1 : 0 ≤ l1 ∧ l1 < 58) (h : f_X10_isWord l1 M = some (rz, Mz)) : jCt X n yX10_isWord cX10_isWord 4 (some .boolean) 5 [jA 166, jS l1] M (some (jI rz)) Mz := by
  refine jCt_of (own := RX10) (ls := [jA 166, jS l1, jN, jN]) (by decide +kernel) rfl hn (Nat.le_of_ble_eq_true rfl) rfl ?_
  intro C hC hR
  unfold f_X10_isWord at h
  refine x_aloadA_n (pc := 0) hC dX10_isWord_0 rfl rfl k_166 (by decide) ?_
  obtain ⟨v2, e1, h⟩ := jbR_some h
  refine x_cV (pc := 1) hC mv_X10_38 (ok_X10_hasFailed hn e1) rfl (Nat.le_of_ble_eq_true rfl) k_166 rfl (by decide) (jRo0 C) (Nat.le_of_ble_eq_true rfl) dX10_isWord_1 rfl ?_
  obtain ⟨k5, Hk5, h⟩ := jk_some (P := fun k5 => ∀ (s0_3 : Int) (M4 : jM), k5 s0_3 M4 = some (rz, Mz) → jG C X n 4 0 0 23 [jA 166, jS l1, jN, jN] [jI s0_3] M4) h (by
    intro s0_3 M4 h
    refine x_istore_n (ls2 := [jA 166, jS l1, jI s0_3, jN]) (pc := 23) hC dX10_isWord_23 rfl (by decide) rfl rfl rfl ?_
    refine x_iconst (pc := 24) hC dX10_isWord_24 ?_
    refine x_istore_n (ls2 := [jA 166, jS l1, jI s0_3, jI 0]) (pc := 25) hC dX10_isWord_25 rfl (by decide) rfl rfl rfl ?_
    refine jlp2_ind (P := fun (l2_6 : Int) (l3_7 : Int) => jG C X n 4 0 0 26 [jA 166, jS l1, jI l2_6, jI l3_7] [] M4) ?_ _ _ _ h
    intro self8 l2_6 l3_7 Hself8 h
    refine x_iload_n (pc := 26) hC dX10_isWord_26 rfl rfl ?_
    refine x_if_eq (tgt := 69) (pc := 27) hC dX10_isWord_27 (by decide) (fun hc => ?_) (fun hc => ?_)
    · replace h := jit_pos hc h
      refine x_iload_n (pc := 69) hC dX10_isWord_69 rfl rfl ?_
      obtain ⟨hz9, h⟩ := jck_some h
      exact x_zret (pc := 70) hC hR dX10_isWord_70 hz9 (jr1 h) (jr2 h)
    · replace h := jit_neg hc h
      refine x_iload_n (pc := 30) hC dX10_isWord_30 rfl rfl ?_
      refine x_aload_n (pc := 31) hC dX10_isWord_31 rfl rfl (show (6 : Nat) ≠ 0 by decide) rfl ?_
      refine x_slen (pc := 32) hC mv_X10_56 (Nat.le_of_ble_eq_true rfl) (jRo0 C) (Nat.le_of_ble_eq_true rfl) hl1 dX10_isWord_32 ?_
      refine x_icmp_ge (tgt := 69) (pc := 35) hC dX10_isWord_35 (by decide) (fun hc => ?_) (fun hc => ?_)
      · replace h := jit_pos hc h
        refine x_iload_n (pc := 69) hC dX10_isWord_69 rfl rfl ?_
        obtain ⟨hz10, h⟩ := jck_some h
        exact x_zret (pc := 70) hC hR dX10_isWord_70 hz10 (jr1 h) (jr2 h)
      · replace h := jit_neg hc h
        refine x_aloadA_n (pc := 38) hC dX10_isWord_38 rfl rfl k_166 (by decide) ?_
        refine x_gf (pc := 39) (b := 167) hC fl_X10_14 ft10_1 k_166 (by decide) (off := 1) (by decide +kernel) (by decide) dX10_isWord_39 ?_
        refine x_aloadA_n (pc := 42) hC dX10_isWord_42 rfl rfl k_166 (by decide) ?_
        refine x_gi (pc := 43) (ji := 4) hC fl_X10_21 rfl fn10_4 k_166 dX10_isWord_43 ?_
        refine x_iload_n (pc := 46) hC dX10_isWord_46 rfl rfl ?_
        refine x_iadd (pc := 47) hC dX10_isWord_47 ?_
        obtain ⟨hb11, h⟩ := jck_some h
        refine x_bald (pc := 48) hC k_167 (by rw [l_167]; exact hb11) dX10_isWord_48 ?_
        refine x_aload_n (pc := 49) hC dX10_isWord_49 rfl rfl (show (6 : Nat) ≠ 0 by decide) rfl ?_
        refine x_iload_n (pc := 50) hC dX10_isWord_50 rfl rfl ?_
        obtain ⟨hb12, h⟩ := jck_some h
        refine x_schr (pc := 51) hC mv_X10_61 (Nat.le_of_ble_eq_true rfl) (jRo0 C) (Nat.le_of_ble_eq_true rfl) hl1 hb12 dX10_isWord_51 ?_
        obtain ⟨k14, Hk14, h⟩ := jk_some (P := fun k14 => ∀ (s0_13 : Int), k14 s0_13 = some (rz, Mz) → jG C X n 4 0 0 62 [jA 166, jS l1, jI l2_6, jI l3_7] [jI s0_13] M4) h (by
          intro s0_13 h
          refine x_istore_n (ls2 := [jA 166, jS l1, jI s0_13, jI l3_7]) (pc := 62) hC dX10_isWord_62 rfl (by decide) rfl rfl rfl ?_
          obtain ⟨l3_15, el3_15, h⟩ := jlet_some h
          refine x_iinc (ls2 := [jA 166, jS l1, jI s0_13, jI l3_15]) (pc := 63) hC dX10_isWord_63 rfl (by decide) rfl el3_15 rfl ?_
          refine x_goto (tgt := 26) (pc := 66) hC dX10_isWord_66 (by decide) ?_
          exact Hself8 _ _ h)
        refine x_icmp_ne (tgt := 61) (pc := 54) hC dX10_isWord_54 (by decide) (fun hc => ?_) (fun hc => ?_)
        · replace h := jit_neg hc h
          refine x_iconst (pc := 61) hC dX10_isWord_61 ?_
          exact Hk14 _ h
        · replace h := jit_pos hc h
          refine x_iconst (pc := 57) hC dX10_isWord_57 ?_
          refine x_goto (tgt := 62) (pc := 58) hC dX10_isWord_58 (by decide) ?_
          exact Hk14 _ h)
  obtain ⟨k17, Hk17, h⟩ := jk_some (P := fun k17 => ∀ (M16 : jM), k17 M16 = some (rz, Mz) → jG C X n 4 0 0 22 [jA 166, jS l1, jN, jN] [] M16) h (by
    intro M16 h
    refine x_iconst (pc := 22) hC dX10_isWord_22 ?_
    exact Hk5 _ _ h)
  refine x_if_ne (tgt := 22) (pc := 4) hC dX10_isWord_4 (by decide) (fun hc => ?_) (fun hc => ?_)
  · replace h := jit_neg hc h
    exact Hk17 _ h
  · replace h := jit_pos hc h
    refine x_aloadA_n (pc := 7) hC dX10_isWord_7 rfl rfl k_166 (by decide) ?_
    obtain ⟨v20, M19, e18, h⟩ := jbW_some h
    refine x_cV (pc := 8) hC mv_X10_52 (ok_X10_wordMany hn e18) rfl (Nat.le_of_ble_eq_true rfl) k_166 rfl (by decide) (jRo0 C) (Nat.le_of_ble_eq_true rfl) dX10_isWord_8 rfl ?_
    refine x_aload_n (pc := 11) hC dX10_isWord_11 rfl rfl (show (6 : Nat) ≠ 0 by decide) rfl ?_
    refine x_slen (pc := 12) hC mv_X10_56 (Nat.le_of_ble_eq_true rfl) (jRo0 C) (Nat.le_of_ble_eq_true rfl) hl1 dX10_isWord_12 ?_
    refine x_icmp_ne (tgt := 22) (pc := 15) hC dX10_isWord_15 (by decide) (fun hc => ?_) (fun hc => ?_)
    · replace h := jit_neg hc h
      exact Hk17 _ h
    · replace h := jit_pos hc h
      refine x_iconst (pc := 18) hC dX10_isWord_18 ?_
      refine x_goto (tgt := 23) (pc := 19) hC dX10_isWord_19 (by decide) ?_
      exact Hk5 _ _ h

set_option maxHeartbeats 4000000 in
set_option maxRecDepth 20000 in
theorem ok_X10_takesWord {X : jX} {n : Nat} (hn : 179 ≤ n) {l1 : Int} {M : jM} {rz : Int} {Mz : jM} (hl1 : 0 ≤ l1 ∧ l1 < 58) (h : f_X10_takesWord l1 M = some (rz, Mz)) : jCt X n yX10_takesWord cX10_takesWord 3 (some .boolean) 6 [jA 166, jS l1] M (some (jI rz)) Mz := by
  refine jCt_of (own := RX10) (ls := [jA 166, jS l1, jN]) (by decide +kernel) rfl hn (Nat.le_of_ble_eq_true rfl) rfl ?_
  intro C hC hR
  unfold f_X10_takesWord at h
  refine x_aloadA_n (pc := 0) hC dX10_takesWord_0 rfl rfl k_166 (by decide) ?_
  refine x_aload_n (pc := 1) hC dX10_takesWord_1 rfl rfl (show (6 : Nat) ≠ 0 by decide) rfl ?_
  obtain ⟨v3, M2, e1, h⟩ := jbW_some h
  refine x_cV (pc := 2) hC mv_X10_65 (ok_X10_isWord hn hl1 e1) rfl (Nat.le_of_ble_eq_true rfl) k_166 rfl (by decide) (jRo0 C) (Nat.le_of_ble_eq_true rfl) dX10_takesWord_2 rfl ?_
  refine x_istore_n (ls2 := [jA 166, jS l1, jI v3]) (pc := 5) hC dX10_takesWord_5 rfl (by decide) rfl rfl rfl ?_
  refine x_iload_n (pc := 6) hC dX10_takesWord_6 rfl rfl ?_
  refine x_if_eq (tgt := 23) (pc := 7) hC dX10_takesWord_7 (by decide) (fun hc => ?_) (fun hc => ?_)
  · replace h := jit_pos hc h
    refine x_iload_n (pc := 23) hC dX10_takesWord_23 rfl rfl ?_
    obtain ⟨hz4, h⟩ := jck_some h
    exact x_zret (pc := 24) hC hR dX10_takesWord_24 hz4 (jr1 h) (jr2 h)
  · replace h := jit_neg hc h
    refine x_aloadA_n (pc := 10) hC dX10_takesWord_10 rfl rfl k_166 (by decide) ?_
    refine x_dup (pc := 11) hC dX10_takesWord_11 (show (2 : Nat) ≠ 3 by decide) ?_
    refine x_gi (pc := 12) (ji := 4) hC fl_X10_21 rfl fn10_4 k_166 dX10_takesWord_12 ?_
    refine x_aload_n (pc := 15) hC dX10_takesWord_15 rfl rfl (show (6 : Nat) ≠ 0 by decide) rfl ?_
    refine x_slen (pc := 16) hC mv_X10_56 (Nat.le_of_ble_eq_true rfl) (jRo0 C) (Nat.le_of_ble_eq_true rfl) hl1 dX10_takesWord_16 ?_
    refine x_iadd (pc := 19) hC dX10_takesWord_19 ?_
    obtain ⟨M5, eM5, h⟩ := jlet_some h
    refine x_pi (pc := 20) (ji := 4) hC fl_X10_21 rfl ft10_4 k_166 dX10_takesWord_20 eM5 ?_
    refine x_iload_n (pc := 23) hC dX10_takesWord_23 rfl rfl ?_
    obtain ⟨hz6, h⟩ := jck_some h
    exact x_zret (pc := 24) hC hR dX10_takesWord_24 hz6 (jr1 h) (jr2 h)

set_option maxHeartbeats 4000000 in
set_option maxRecDepth 20000 in
theorem ok_X10_number {X : jX} {n : Nat} (hn : 179 ≤ n) {l1 : Int} {l2 : Int} {M : jM} {rz : Int} {Mz : jM} (h : f_X10_number l1 l2 M = some (rz, Mz)) : jCt X n yX10_number cX10_number 5 (some .int) 2 [jA 166, jI l1, jI l2] M (some (jI rz)) Mz := by
  refine jCt_of (own := RX10) (ls := [jA 166, jI l1, jI l2, jN, jN]) (by decide +kernel) rfl hn (Nat.le_of_ble_eq_true rfl) rfl ?_
  intro C hC hR
  unfold f_X10_number at h
  refine x_aloadA_n (pc := 0) hC dX10_number_0 rfl rfl k_166 (by decide) ?_
  obtain ⟨v2, e1, h⟩ := jbR_some h
  refine x_cV (pc := 1) hC mv_X10_38 (ok_X10_hasFailed hn e1) rfl (Nat.le_of_ble_eq_true rfl) k_166 rfl (by decide) (jRo0 C) (Nat.le_of_ble_eq_true rfl) dX10_number_1 rfl ?_
  refine x_if_eq (tgt := 9) (pc := 4) hC dX10_number_4 (by decide) (fun hc => ?_) (fun hc => ?_)
  · replace h := jit_pos hc h
    refine x_aloadA_n (pc := 9) hC dX10_number_9 rfl rfl k_166 (by decide) ?_
    obtain ⟨M4, e3, h⟩ := jbV_some h
    refine x_cV (pc := 10) hC mv_X10_34 (ok_X10_blanks hn e3) rfl (Nat.le_of_ble_eq_true rfl) k_166 rfl (by decide) (jRo0 C) (Nat.le_of_ble_eq_true rfl) dX10_number_10 rfl ?_
    refine x_iconst (pc := 13) hC dX10_number_13 ?_
    refine x_istore_n (ls2 := [jA 166, jI l1, jI l2, jI 0, jN]) (pc := 14) hC dX10_number_14 rfl (by decide) rfl rfl rfl ?_
    refine jlp2_ind (P := fun (l3_5 : Int) (M6 : jM) => jG C X n 5 0 0 15 [jA 166, jI l1, jI l2, jI l3_5, jN] [] M6) ?_ _ _ _ h
    intro self7 l3_5 M6 Hself7 h
    refine x_aloadA_n (pc := 15) hC dX10_number_15 rfl rfl k_166 (by decide) ?_
    refine x_bipush (pc := 16) hC dX10_number_16 rfl ?_
    refine x_bipush (pc := 18) hC dX10_number_18 rfl ?_
    obtain ⟨v9, e8, h⟩ := jbR_some h
    refine x_cV (pc := 20) hC mv_X10_27 (ok_X10_isAt hn e8) rfl (Nat.le_of_ble_eq_true rfl) k_166 rfl (by decide) (jRo0 C) (Nat.le_of_ble_eq_true rfl) dX10_number_20 rfl ?_
    refine x_if_eq (tgt := 70) (pc := 23) hC dX10_number_23 (by decide) (fun hc => ?_) (fun hc => ?_)
    · replace h := jit_pos hc h
      refine x_aloadA_n (pc := 70) hC dX10_number_70 rfl rfl k_166 (by decide) ?_
      refine x_gi (pc := 71) (ji := 4) hC fl_X10_21 rfl fn10_4 k_166 dX10_number_71 ?_
      refine x_aloadA_n (pc := 74) hC dX10_number_74 rfl rfl k_166 (by decide) ?_
      refine x_gi (pc := 75) (ji := 5) hC fl_X10_31 rfl fn10_5 k_166 dX10_number_75 ?_
      refine x_isub (pc := 78) hC dX10_number_78 ?_
      obtain ⟨l4_10, el4_10, h⟩ := jlet_some h
      refine x_istore (ls2 := [jA 166, jI l1, jI l2, jI l3_5, jI l4_10]) (pc := 79) hC dX10_number_79 (by decide) rfl el4_10 rfl ?_
      refine x_iload (pc := 81) hC dX10_number_81 rfl ?_
      obtain ⟨k11, Hk11, h⟩ := jk_some (P := fun k11 => k11 = some (rz, Mz) → jG C X n 5 0 0 101 [jA 166, jI l1, jI l2, jI l3_5, jI l4_10] [] M6) h (by
        intro h
        refine x_aloadA_n (pc := 101) hC dX10_number_101 rfl rfl k_166 (by decide) ?_
        obtain ⟨M13, e12, h⟩ := jbV_some h
        refine x_cV (pc := 102) hC mv_X10_49 (ok_X10_fails hn e12) rfl (Nat.le_of_ble_eq_true rfl) k_166 rfl (by decide) (jRo0 C) (Nat.le_of_ble_eq_true rfl) dX10_number_102 rfl ?_
        refine x_iload_n (pc := 105) hC dX10_number_105 rfl rfl ?_
        exact x_iret (pc := 106) hC hR dX10_number_106 (jr1 h) (jr2 h))
      refine x_if_eq (tgt := 101) (pc := 83) hC dX10_number_83 (by decide) (fun hc => ?_) (fun hc => ?_)
      · replace h := jit_pos hc h
        exact Hk11 h
      · replace h := jit_neg hc h
        refine x_iload (pc := 86) hC dX10_number_86 rfl ?_
        refine x_iconst (pc := 88) hC dX10_number_88 ?_
        refine x_icmp_gt (tgt := 101) (pc := 89) hC dX10_number_89 (by decide) (fun hc => ?_) (fun hc => ?_)
        · replace h := jit_pos hc h
          exact Hk11 h
        · replace h := jit_neg hc h
          refine x_iload_n (pc := 92) hC dX10_number_92 rfl rfl ?_
          refine x_iload_n (pc := 93) hC dX10_number_93 rfl rfl ?_
          refine x_iload_n (pc := 94) hC dX10_number_94 rfl rfl ?_
          obtain ⟨v15, e14, h⟩ := jbR_some h
          refine x_cS (pc := 95) hC ms_X10_69 (ok_X10_in hn e14) rfl (Nat.le_of_ble_eq_true rfl) (jRo0 C) (Nat.le_of_ble_eq_true rfl) dX10_number_95 rfl ?_
          refine x_if_ne (tgt := 105) (pc := 98) hC dX10_number_98 (by decide) (fun hc => ?_) (fun hc => ?_)
          · replace h := jit_neg hc h
            refine x_iload_n (pc := 105) hC dX10_number_105 rfl rfl ?_
            exact x_iret (pc := 106) hC hR dX10_number_106 (jr1 h) (jr2 h)
          · replace h := jit_pos hc h
            exact Hk11 h
    · replace h := jit_neg hc h
      refine x_aloadA_n (pc := 26) hC dX10_number_26 rfl rfl k_166 (by decide) ?_
      refine x_gi (pc := 27) (ji := 4) hC fl_X10_21 rfl fn10_4 k_166 dX10_number_27 ?_
      refine x_aloadA_n (pc := 30) hC dX10_number_30 rfl rfl k_166 (by decide) ?_
      refine x_gi (pc := 31) (ji := 5) hC fl_X10_31 rfl fn10_5 k_166 dX10_number_31 ?_
      refine x_isub (pc := 34) hC dX10_number_34 ?_
      refine x_iconst (pc := 35) hC dX10_number_35 ?_
      obtain ⟨k17, Hk17, h⟩ := jk_some (P := fun k17 => ∀ (l3_16 : Int), k17 l3_16 = some (rz, Mz) → jG C X n 5 0 0 57 [jA 166, jI l1, jI l2, jI l3_16, jN] [] M6) h (by
        intro l3_16 h
        refine x_aloadA_n (pc := 57) hC dX10_number_57 rfl rfl k_166 (by decide) ?_
        refine x_dup (pc := 58) hC dX10_number_58 (show (2 : Nat) ≠ 3 by decide) ?_
        refine x_gi (pc := 59) (ji := 4) hC fl_X10_21 rfl fn10_4 k_166 dX10_number_59 ?_
        refine x_iconst (pc := 62) hC dX10_number_62 ?_
        refine x_iadd (pc := 63) hC dX10_number_63 ?_
        obtain ⟨M18, eM18, h⟩ := jlet_some h
        refine x_pi (pc := 64) (ji := 4) hC fl_X10_21 rfl ft10_4 k_166 dX10_number_64 eM18 ?_
        refine x_goto (tgt := 15) (pc := 67) hC dX10_number_67 (by decide) ?_
        exact Hself7 _ _ h)
      refine x_icmp_ge (tgt := 57) (pc := 36) hC dX10_number_36 (by decide) (fun hc => ?_) (fun hc => ?_)
      · replace h := jit_pos hc h
        exact Hk17 _ h
      · replace h := jit_neg hc h
        refine x_bipush (pc := 39) hC dX10_number_39 rfl ?_
        refine x_iload_n (pc := 41) hC dX10_number_41 rfl rfl ?_
        refine x_imul (pc := 42) hC dX10_number_42 ?_
        refine x_aloadA_n (pc := 43) hC dX10_number_43 rfl rfl k_166 (by decide) ?_
        refine x_gf (pc := 44) (b := 167) hC fl_X10_14 ft10_1 k_166 (by decide) (off := 1) (by decide +kernel) (by decide) dX10_number_44 ?_
        refine x_aloadA_n (pc := 47) hC dX10_number_47 rfl rfl k_166 (by decide) ?_
        refine x_gi (pc := 48) (ji := 4) hC fl_X10_21 rfl fn10_4 k_166 dX10_number_48 ?_
        obtain ⟨hb19, h⟩ := jck_some h
        refine x_bald (pc := 51) hC k_167 (by rw [l_167]; exact hb19) dX10_number_51 ?_
        refine x_iadd (pc := 52) hC dX10_number_52 ?_
        refine x_bipush (pc := 53) hC dX10_number_53 rfl ?_
        refine x_isub (pc := 55) hC dX10_number_55 ?_
        obtain ⟨l3_20, el3_20, h⟩ := jlet_some h
        refine x_istore_n (ls2 := [jA 166, jI l1, jI l2, jI l3_20, jN]) (pc := 56) hC dX10_number_56 rfl (by decide) rfl el3_20 rfl ?_
        exact Hk17 _ h
  · replace h := jit_neg hc h
    refine x_iload_n (pc := 7) hC dX10_number_7 rfl rfl ?_
    exact x_iret (pc := 8) hC hR dX10_number_8 (jr1 h) (jr2 h)

set_option maxHeartbeats 4000000 in
set_option maxRecDepth 20000 in
theorem ok_X10_fault {X : jX} {n : Nat} (hn : 179 ≤ n) {M : jM} {rz : Int} {Mz : jM} (h : f_X10_fault M = some (rz, Mz)) : jCt X n yX10_fault cX10_fault 1 (some .int) 0 [jA 166] M (some (jI rz)) Mz := by
  refine jCt_of (own := RX10) (ls := [jA 166]) (by decide +kernel) rfl hn (Nat.le_of_ble_eq_true rfl) rfl ?_
  intro C hC hR
  unfold f_X10_fault at h
  refine x_aloadA_n (pc := 0) hC dX10_fault_0 rfl rfl k_166 (by decide) ?_
  refine x_iconst (pc := 1) hC dX10_fault_1 ?_
  obtain ⟨M1, eM1, h⟩ := jlet_some h
  refine x_pi (pc := 2) (ji := 0) hC fl_X10_3 rfl ft10_0 k_166 dX10_fault_2 eM1 ?_
  refine x_aloadA_n (pc := 5) hC dX10_fault_5 rfl rfl k_166 (by decide) ?_
  refine x_gi (pc := 6) (ji := 8) hC fl_X10_73 rfl fn10_8 k_166 dX10_fault_6 ?_
  exact x_iret (pc := 9) hC hR dX10_fault_9 (jr1 h) (jr2 h)

set_option maxHeartbeats 4000000 in
set_option maxRecDepth 20000 in
theorem ok_X10_usual {X : jX} {n : Nat} (hn : 179 ≤ n) {M : jM} {Mz : jM} (h : f_X10_usual M = some Mz) : jCt X n yX10_usual cX10_usual 2 (none) 0 [jA 166] M (none) Mz := by
  refine jCt_of (own := RX10) (ls := [jA 166, jN]) (by decide +kernel) rfl hn (Nat.le_of_ble_eq_true rfl) rfl ?_
  intro C hC hR
  unfold f_X10_usual at h
  refine x_iconst (pc := 0) hC dX10_usual_0 ?_
  refine x_istore_n (ls2 := [jA 166, jI 0]) (pc := 1) hC dX10_usual_1 rfl (by decide) rfl rfl rfl ?_
  refine jlp2_ind (P := fun (l1_1 : Int) (M2 : jM) => jG C X n 2 0 0 2 [jA 166, jI l1_1] [] M2) ?_ _ _ _ h
  intro self3 l1_1 M2 Hself3 h
  refine x_iload_n (pc := 2) hC dX10_usual_2 rfl rfl ?_
  refine x_sipush (pc := 3) hC dX10_usual_3 rfl ?_
  refine x_icmp_ge (tgt := 22) (pc := 6) hC dX10_usual_6 (by decide) (fun hc => ?_) (fun hc => ?_)
  · replace h := jit_pos hc h
    refine x_iconst (pc := 22) hC dX10_usual_22 ?_
    refine x_istore_n (ls2 := [jA 166, jI 0]) (pc := 23) hC dX10_usual_23 rfl (by decide) rfl rfl rfl ?_
    refine jlp2_ind (P := fun (l1_4 : Int) (M5 : jM) => jG C X n 2 0 0 24 [jA 166, jI l1_4] [] M5) ?_ _ _ _ h
    intro self6 l1_4 M5 Hself6 h
    refine x_iload_n (pc := 24) hC dX10_usual_24 rfl rfl ?_
    refine x_sipush (pc := 25) hC dX10_usual_25 rfl ?_
    refine x_icmp_ge (tgt := 44) (pc := 28) hC dX10_usual_28 (by decide) (fun hc => ?_) (fun hc => ?_)
    · replace h := jit_pos hc h
      refine x_aloadA_n (pc := 44) hC dX10_usual_44 rfl rfl k_166 (by decide) ?_
      refine x_gf (pc := 45) (b := 171) hC fl_X10_87 ft10_11 k_166 (by decide) (off := 5) (by decide +kernel) (by decide) dX10_usual_45 ?_
      refine x_iconst (pc := 48) hC dX10_usual_48 ?_
      refine x_iconst (pc := 49) hC dX10_usual_49 ?_
      obtain ⟨hb7, h⟩ := jck_some h
      obtain ⟨M8, eM8, h⟩ := jlet_some h
      refine x_iast (pc := 50) hC k_171 (by rw [l_171]; exact hb7) dX10_usual_50 eM8 ?_
      refine x_aloadA_n (pc := 51) hC dX10_usual_51 rfl rfl k_166 (by decide) ?_
      refine x_gf (pc := 52) (b := 172) hC fl_X10_90 ft10_12 k_166 (by decide) (off := 6) (by decide +kernel) (by decide) dX10_usual_52 ?_
      refine x_sipush (pc := 55) hC dX10_usual_55 rfl ?_
      refine x_iconst (pc := 58) hC dX10_usual_58 ?_
      obtain ⟨hb9, h⟩ := jck_some h
      obtain ⟨M10, eM10, h⟩ := jlet_some h
      refine x_iast (pc := 59) hC k_172 (by rw [l_172]; exact hb9) dX10_usual_59 eM10 ?_
      refine x_aloadA_n (pc := 60) hC dX10_usual_60 rfl rfl k_166 (by decide) ?_
      refine x_gf (pc := 61) (b := 172) hC fl_X10_90 ft10_12 k_166 (by decide) (off := 6) (by decide +kernel) (by decide) dX10_usual_61 ?_
      refine x_sipush (pc := 64) hC dX10_usual_64 rfl ?_
      refine x_bipush (pc := 67) hC dX10_usual_67 rfl ?_
      obtain ⟨hb11, h⟩ := jck_some h
      obtain ⟨M12, eM12, h⟩ := jlet_some h
      refine x_iast (pc := 69) hC k_172 (by rw [l_172]; exact hb11) dX10_usual_69 eM12 ?_
      refine x_aloadA_n (pc := 70) hC dX10_usual_70 rfl rfl k_166 (by decide) ?_
      refine x_gf (pc := 71) (b := 172) hC fl_X10_90 ft10_12 k_166 (by decide) (off := 6) (by decide +kernel) (by decide) dX10_usual_71 ?_
      refine x_sipush (pc := 74) hC dX10_usual_74 rfl ?_
      refine x_bipush (pc := 77) hC dX10_usual_77 rfl ?_
      obtain ⟨hb13, h⟩ := jck_some h
      obtain ⟨M14, eM14, h⟩ := jlet_some h
      refine x_iast (pc := 79) hC k_172 (by rw [l_172]; exact hb13) dX10_usual_79 eM14 ?_
      refine x_aloadA_n (pc := 80) hC dX10_usual_80 rfl rfl k_166 (by decide) ?_
      refine x_gf (pc := 81) (b := 172) hC fl_X10_90 ft10_12 k_166 (by decide) (off := 6) (by decide +kernel) (by decide) dX10_usual_81 ?_
      refine x_sipush (pc := 84) hC dX10_usual_84 rfl ?_
      refine x_iconst (pc := 87) hC dX10_usual_87 ?_
      obtain ⟨hb15, h⟩ := jck_some h
      obtain ⟨M16, eM16, h⟩ := jlet_some h
      refine x_iast (pc := 88) hC k_172 (by rw [l_172]; exact hb15) dX10_usual_88 eM16 ?_
      refine x_iconst (pc := 89) hC dX10_usual_89 ?_
      refine x_istore_n (ls2 := [jA 166, jI 0]) (pc := 90) hC dX10_usual_90 rfl (by decide) rfl rfl rfl ?_
      refine jlp2_ind (P := fun (l1_17 : Int) (M18 : jM) => jG C X n 2 0 0 91 [jA 166, jI l1_17] [] M18) ?_ _ _ _ h
      intro self19 l1_17 M18 Hself19 h
      refine x_iload_n (pc := 91) hC dX10_usual_91 rfl rfl ?_
      refine x_iconst (pc := 92) hC dX10_usual_92 ?_
      refine x_icmp_ge (tgt := 114) (pc := 93) hC dX10_usual_93 (by decide) (fun hc => ?_) (fun hc => ?_)
      · replace h := jit_pos hc h
        exact x_vret (pc := 114) hC hR dX10_usual_114 (jrR h)
      · replace h := jit_neg hc h
        refine x_aloadA_n (pc := 96) hC dX10_usual_96 rfl rfl k_166 (by decide) ?_
        refine x_gf (pc := 97) (b := 172) hC fl_X10_90 ft10_12 k_166 (by decide) (off := 6) (by decide +kernel) (by decide) dX10_usual_97 ?_
        refine x_sipush (pc := 100) hC dX10_usual_100 rfl ?_
        refine x_iload_n (pc := 103) hC dX10_usual_103 rfl rfl ?_
        refine x_iadd (pc := 104) hC dX10_usual_104 ?_
        refine x_bipush (pc := 105) hC dX10_usual_105 rfl ?_
        obtain ⟨hb20, h⟩ := jck_some h
        obtain ⟨M21, eM21, h⟩ := jlet_some h
        refine x_iast (pc := 107) hC k_172 (by rw [l_172]; exact hb20) dX10_usual_107 eM21 ?_
        obtain ⟨l1_22, el1_22, h⟩ := jlet_some h
        refine x_iinc (ls2 := [jA 166, jI l1_22]) (pc := 108) hC dX10_usual_108 rfl (by decide) rfl el1_22 rfl ?_
        refine x_goto (tgt := 91) (pc := 111) hC dX10_usual_111 (by decide) ?_
        exact Hself19 _ _ h
    · replace h := jit_neg hc h
      refine x_aloadA_n (pc := 31) hC dX10_usual_31 rfl rfl k_166 (by decide) ?_
      refine x_gf (pc := 32) (b := 172) hC fl_X10_90 ft10_12 k_166 (by decide) (off := 6) (by decide +kernel) (by decide) dX10_usual_32 ?_
      refine x_iload_n (pc := 35) hC dX10_usual_35 rfl rfl ?_
      refine x_iconst (pc := 36) hC dX10_usual_36 ?_
      obtain ⟨hb23, h⟩ := jck_some h
      obtain ⟨M24, eM24, h⟩ := jlet_some h
      refine x_iast (pc := 37) hC k_172 (by rw [l_172]; exact hb23) dX10_usual_37 eM24 ?_
      obtain ⟨l1_25, el1_25, h⟩ := jlet_some h
      refine x_iinc (ls2 := [jA 166, jI l1_25]) (pc := 38) hC dX10_usual_38 rfl (by decide) rfl el1_25 rfl ?_
      refine x_goto (tgt := 24) (pc := 41) hC dX10_usual_41 (by decide) ?_
      exact Hself6 _ _ h
  · replace h := jit_neg hc h
    refine x_aloadA_n (pc := 9) hC dX10_usual_9 rfl rfl k_166 (by decide) ?_
    refine x_gf (pc := 10) (b := 171) hC fl_X10_87 ft10_11 k_166 (by decide) (off := 5) (by decide +kernel) (by decide) dX10_usual_10 ?_
    refine x_iload_n (pc := 13) hC dX10_usual_13 rfl rfl ?_
    refine x_iconst (pc := 14) hC dX10_usual_14 ?_
    obtain ⟨hb26, h⟩ := jck_some h
    obtain ⟨M27, eM27, h⟩ := jlet_some h
    refine x_iast (pc := 15) hC k_171 (by rw [l_171]; exact hb26) dX10_usual_15 eM27 ?_
    obtain ⟨l1_28, el1_28, h⟩ := jlet_some h
    refine x_iinc (ls2 := [jA 166, jI l1_28]) (pc := 16) hC dX10_usual_16 rfl (by decide) rfl el1_28 rfl ?_
    refine x_goto (tgt := 2) (pc := 19) hC dX10_usual_19 (by decide) ?_
    exact Hself3 _ _ h

set_option maxHeartbeats 4000000 in
set_option maxRecDepth 20000 in
theorem ok_X10_taken {X : jX} {n : Nat} (hn : 179 ≤ n) {M : jM} {Mz : jM} (h : f_X10_taken M = some Mz) : jCt X n yX10_taken cX10_taken 2 (none) 0 [jA 166] M (none) Mz := by
  refine jCt_of (own := RX10) (ls := [jA 166, jN]) (by decide +kernel) rfl hn (Nat.le_of_ble_eq_true rfl) rfl ?_
  intro C hC hR
  unfold f_X10_taken at h
  refine x_iconst (pc := 0) hC dX10_taken_0 ?_
  refine x_istore_n (ls2 := [jA 166, jI 0]) (pc := 1) hC dX10_taken_1 rfl (by decide) rfl rfl rfl ?_
  refine jlp2_ind (P := fun (l1_1 : Int) (M2 : jM) => jG C X n 2 0 0 2 [jA 166, jI l1_1] [] M2) ?_ _ _ _ h
  intro self3 l1_1 M2 Hself3 h
  refine x_iload_n (pc := 2) hC dX10_taken_2 rfl rfl ?_
  refine x_sipush (pc := 3) hC dX10_taken_3 rfl ?_
  refine x_icmp_ge (tgt := 27) (pc := 6) hC dX10_taken_6 (by decide) (fun hc => ?_) (fun hc => ?_)
  · replace h := jit_pos hc h
    refine x_iconst (pc := 27) hC dX10_taken_27 ?_
    refine x_istore_n (ls2 := [jA 166, jI 0]) (pc := 28) hC dX10_taken_28 rfl (by decide) rfl rfl rfl ?_
    refine jlp2_ind (P := fun (l1_4 : Int) (M5 : jM) => jG C X n 2 0 0 29 [jA 166, jI l1_4] [] M5) ?_ _ _ _ h
    intro self6 l1_4 M5 Hself6 h
    refine x_iload_n (pc := 29) hC dX10_taken_29 rfl rfl ?_
    refine x_sipush (pc := 30) hC dX10_taken_30 rfl ?_
    refine x_icmp_ge (tgt := 54) (pc := 33) hC dX10_taken_33 (by decide) (fun hc => ?_) (fun hc => ?_)
    · replace h := jit_pos hc h
      exact x_vret (pc := 54) hC hR dX10_taken_54 (jrR h)
    · replace h := jit_neg hc h
      refine x_aloadA_n (pc := 36) hC dX10_taken_36 rfl rfl k_166 (by decide) ?_
      refine x_gf (pc := 37) (b := 170) hC fl_X10_84 ft10_10 k_166 (by decide) (off := 4) (by decide +kernel) (by decide) dX10_taken_37 ?_
      refine x_iload_n (pc := 40) hC dX10_taken_40 rfl rfl ?_
      refine x_aloadA_n (pc := 41) hC dX10_taken_41 rfl rfl k_166 (by decide) ?_
      refine x_gf (pc := 42) (b := 172) hC fl_X10_90 ft10_12 k_166 (by decide) (off := 6) (by decide +kernel) (by decide) dX10_taken_42 ?_
      refine x_iload_n (pc := 45) hC dX10_taken_45 rfl rfl ?_
      obtain ⟨hb7, h⟩ := jck_some h
      refine x_iald (pc := 46) hC k_172 (by rw [l_172]; exact hb7) dX10_taken_46 ?_
      obtain ⟨hb8, h⟩ := jck_some h
      obtain ⟨M9, eM9, h⟩ := jlet_some h
      refine x_iast (pc := 47) hC k_170 (by rw [l_170]; exact hb8) dX10_taken_47 eM9 ?_
      obtain ⟨l1_10, el1_10, h⟩ := jlet_some h
      refine x_iinc (ls2 := [jA 166, jI l1_10]) (pc := 48) hC dX10_taken_48 rfl (by decide) rfl el1_10 rfl ?_
      refine x_goto (tgt := 29) (pc := 51) hC dX10_taken_51 (by decide) ?_
      exact Hself6 _ _ h
  · replace h := jit_neg hc h
    refine x_aloadA_n (pc := 9) hC dX10_taken_9 rfl rfl k_166 (by decide) ?_
    refine x_gf (pc := 10) (b := 169) hC fl_X10_81 ft10_9 k_166 (by decide) (off := 3) (by decide +kernel) (by decide) dX10_taken_10 ?_
    refine x_iload_n (pc := 13) hC dX10_taken_13 rfl rfl ?_
    refine x_aloadA_n (pc := 14) hC dX10_taken_14 rfl rfl k_166 (by decide) ?_
    refine x_gf (pc := 15) (b := 171) hC fl_X10_87 ft10_11 k_166 (by decide) (off := 5) (by decide +kernel) (by decide) dX10_taken_15 ?_
    refine x_iload_n (pc := 18) hC dX10_taken_18 rfl rfl ?_
    obtain ⟨hb11, h⟩ := jck_some h
    refine x_iald (pc := 19) hC k_171 (by rw [l_171]; exact hb11) dX10_taken_19 ?_
    obtain ⟨hb12, h⟩ := jck_some h
    obtain ⟨M13, eM13, h⟩ := jlet_some h
    refine x_iast (pc := 20) hC k_169 (by rw [l_169]; exact hb12) dX10_taken_20 eM13 ?_
    obtain ⟨l1_14, el1_14, h⟩ := jlet_some h
    refine x_iinc (ls2 := [jA 166, jI l1_14]) (pc := 21) hC dX10_taken_21 rfl (by decide) rfl el1_14 rfl ?_
    refine x_goto (tgt := 2) (pc := 24) hC dX10_taken_24 (by decide) ?_
    exact Hself3 _ _ h

set_option maxHeartbeats 4000000 in
set_option maxRecDepth 20000 in
theorem ok_X10_named {X : jX} {n : Nat} (hn : 179 ≤ n) {l1 : Int} {l2 : Int} {M : jM} {rz : Int} {Mz : jM} (h : f_X10_named l1 l2 M = some (rz, Mz)) : jCt X n yX10_named cX10_named 7 (some .int) 3 [jA 166, jI l1, jI l2] M (some (jI rz)) Mz := by
  refine jCt_of (own := RX10) (ls := [jA 166, jI l1, jI l2, jN, jN, jN, jN]) (by decide +kernel) rfl hn (Nat.le_of_ble_eq_true rfl) rfl ?_
  intro C hC hR
  unfold f_X10_named at h
  refine x_aloadA_n (pc := 0) hC dX10_named_0 rfl rfl k_166 (by decide) ?_
  obtain ⟨v3, M2, e1, h⟩ := jbW_some h
  refine x_cV (pc := 1) hC mv_X10_52 (ok_X10_wordMany hn e1) rfl (Nat.le_of_ble_eq_true rfl) k_166 rfl (by decide) (jRo0 C) (Nat.le_of_ble_eq_true rfl) dX10_named_1 rfl ?_
  refine x_istore_n (ls2 := [jA 166, jI l1, jI l2, jI v3, jN, jN, jN]) (pc := 4) hC dX10_named_4 rfl (by decide) rfl rfl rfl ?_
  refine x_iconst (pc := 5) hC dX10_named_5 ?_
  refine x_istore (ls2 := [jA 166, jI l1, jI l2, jI v3, jI 0, jN, jN]) (pc := 6) hC dX10_named_6 (by decide) rfl rfl rfl ?_
  refine jlp1_ind (P := fun (l4_4 : Int) => jG C X n 7 0 0 8 [jA 166, jI l1, jI l2, jI v3, jI l4_4, jN, jN] [] M2) ?_ _ _ h
  intro self5 l4_4 Hself5 h
  refine x_iload (pc := 8) hC dX10_named_8 rfl ?_
  refine x_iload_n (pc := 10) hC dX10_named_10 rfl rfl ?_
  refine x_icmp_ge (tgt := 105) (pc := 11) hC dX10_named_11 (by decide) (fun hc => ?_) (fun hc => ?_)
  · replace h := jit_pos hc h
    refine x_iconst (pc := 105) hC dX10_named_105 ?_
    exact x_iret (pc := 106) hC hR dX10_named_106 (jr1 h) (jr2 h)
  · replace h := jit_neg hc h
    refine x_iconst (pc := 14) hC dX10_named_14 ?_
    refine x_istore (ls2 := [jA 166, jI l1, jI l2, jI v3, jI l4_4, jI 1, jN]) (pc := 15) hC dX10_named_15 (by decide) rfl rfl rfl ?_
    refine x_iconst (pc := 17) hC dX10_named_17 ?_
    refine x_istore (ls2 := [jA 166, jI l1, jI l2, jI v3, jI l4_4, jI 1, jI 0]) (pc := 18) hC dX10_named_18 (by decide) rfl rfl rfl ?_
    refine jlp2_ind (P := fun (l5_6 : Int) (l6_7 : Int) => jG C X n 7 0 0 20 [jA 166, jI l1, jI l2, jI v3, jI l4_4, jI l5_6, jI l6_7] [] M2) ?_ _ _ _ h
    intro self8 l5_6 l6_7 Hself8 h
    refine x_iload (pc := 20) hC dX10_named_20 rfl ?_
    refine x_bipush (pc := 22) hC dX10_named_22 rfl ?_
    refine x_icmp_ge (tgt := 85) (pc := 24) hC dX10_named_24 (by decide) (fun hc => ?_) (fun hc => ?_)
    · replace h := jit_pos hc h
      refine x_iload (pc := 85) hC dX10_named_85 rfl ?_
      refine x_if_eq (tgt := 99) (pc := 87) hC dX10_named_87 (by decide) (fun hc => ?_) (fun hc => ?_)
      · replace h := jit_pos hc h
        obtain ⟨l4_9, el4_9, h⟩ := jlet_some h
        refine x_iinc (ls2 := [jA 166, jI l1, jI l2, jI v3, jI l4_9, jI l5_6, jI l6_7]) (pc := 99) hC dX10_named_99 rfl (by decide) rfl el4_9 rfl ?_
        refine x_goto (tgt := 8) (pc := 102) hC dX10_named_102 (by decide) ?_
        refine x_kill 5 (ls2 := [jA 166, jI l1, jI l2, jI v3, jI l4_9, jN, jI l6_7]) rfl ?_
        refine x_kill 6 (ls2 := [jA 166, jI l1, jI l2, jI v3, jI l4_9, jN, jN]) rfl ?_
        exact Hself5 _ h
      · replace h := jit_neg hc h
        refine x_iload_n (pc := 90) hC dX10_named_90 rfl rfl ?_
        refine x_bipush (pc := 91) hC dX10_named_91 rfl ?_
        refine x_icmp_gt (tgt := 99) (pc := 93) hC dX10_named_93 (by decide) (fun hc => ?_) (fun hc => ?_)
        · replace h := jit_pos hc h
          obtain ⟨l4_10, el4_10, h⟩ := jlet_some h
          refine x_iinc (ls2 := [jA 166, jI l1, jI l2, jI v3, jI l4_10, jI l5_6, jI l6_7]) (pc := 99) hC dX10_named_99 rfl (by decide) rfl el4_10 rfl ?_
          refine x_goto (tgt := 8) (pc := 102) hC dX10_named_102 (by decide) ?_
          refine x_kill 5 (ls2 := [jA 166, jI l1, jI l2, jI v3, jI l4_10, jN, jI l6_7]) rfl ?_
          refine x_kill 6 (ls2 := [jA 166, jI l1, jI l2, jI v3, jI l4_10, jN, jN]) rfl ?_
          exact Hself5 _ h
        · replace h := jit_neg hc h
          refine x_iload (pc := 96) hC dX10_named_96 rfl ?_
          exact x_iret (pc := 98) hC hR dX10_named_98 (jr1 h) (jr2 h)
    · replace h := jit_neg hc h
      refine x_iload (pc := 27) hC dX10_named_27 rfl ?_
      obtain ⟨k12, Hk12, h⟩ := jk_some (P := fun k12 => ∀ (s0_11 : Int), k12 s0_11 = some (rz, Mz) → jG C X n 7 0 0 77 [jA 166, jI l1, jI l2, jI v3, jI l4_4, jI l5_6, jI l6_7] [jI s0_11] M2) h (by
        intro s0_11 h
        refine x_istore (ls2 := [jA 166, jI l1, jI l2, jI v3, jI l4_4, jI s0_11, jI l6_7]) (pc := 77) hC dX10_named_77 (by decide) rfl rfl rfl ?_
        obtain ⟨l6_13, el6_13, h⟩ := jlet_some h
        refine x_iinc (ls2 := [jA 166, jI l1, jI l2, jI v3, jI l4_4, jI s0_11, jI l6_13]) (pc := 79) hC dX10_named_79 rfl (by decide) rfl el6_13 rfl ?_
        refine x_goto (tgt := 20) (pc := 82) hC dX10_named_82 (by decide) ?_
        exact Hself8 _ _ h)
      obtain ⟨k14, Hk14, h⟩ := jk_some (P := fun k14 => k14 = some (rz, Mz) → jG C X n 7 0 0 76 [jA 166, jI l1, jI l2, jI v3, jI l4_4, jI l5_6, jI l6_7] [] M2) h (by
        intro h
        refine x_iconst (pc := 76) hC dX10_named_76 ?_
        exact Hk12 _ h)
      refine x_if_eq (tgt := 76) (pc := 29) hC dX10_named_29 (by decide) (fun hc => ?_) (fun hc => ?_)
      · replace h := jit_pos hc h
        exact Hk14 h
      · replace h := jit_neg hc h
        refine x_aloadA_n (pc := 32) hC dX10_named_32 rfl rfl k_166 (by decide) ?_
        refine x_gf (pc := 33) (b := 171) hC fl_X10_87 ft10_11 k_166 (by decide) (off := 5) (by decide +kernel) (by decide) dX10_named_33 ?_
        refine x_iload_n (pc := 36) hC dX10_named_36 rfl rfl ?_
        refine x_bipush (pc := 37) hC dX10_named_37 rfl ?_
        refine x_iload (pc := 39) hC dX10_named_39 rfl ?_
        refine x_imul (pc := 41) hC dX10_named_41 ?_
        refine x_iadd (pc := 42) hC dX10_named_42 ?_
        refine x_iload (pc := 43) hC dX10_named_43 rfl ?_
        refine x_iadd (pc := 45) hC dX10_named_45 ?_
        obtain ⟨hb15, h⟩ := jck_some h
        refine x_iald (pc := 46) hC k_171 (by rw [l_171]; exact hb15) dX10_named_46 ?_
        refine x_iload (pc := 47) hC dX10_named_47 rfl ?_
        refine x_iload_n (pc := 49) hC dX10_named_49 rfl rfl ?_
        obtain ⟨k17, Hk17, h⟩ := jk_some (P := fun k17 => ∀ (s1_16 : Int), k17 s1_16 = some (rz, Mz) → jG C X n 7 0 0 69 [jA 166, jI l1, jI l2, jI v3, jI l4_4, jI l5_6, jI l6_7] [jI s1_16, jI (M2 171 (jw ((l1 + (6 * l4_4)) + l6_7)))] M2) h (by
          intro s1_16 h
          refine x_icmp_ne (tgt := 76) (pc := 69) hC dX10_named_69 (by decide) (fun hc => ?_) (fun hc => ?_)
          · replace h := jit_neg hc h
            exact Hk14 h
          · replace h := jit_pos hc h
            refine x_iconst (pc := 72) hC dX10_named_72 ?_
            refine x_goto (tgt := 77) (pc := 73) hC dX10_named_73 (by decide) ?_
            exact Hk12 _ h)
        refine x_icmp_ge (tgt := 68) (pc := 50) hC dX10_named_50 (by decide) (fun hc => ?_) (fun hc => ?_)
        · replace h := jit_pos hc h
          refine x_iconst (pc := 68) hC dX10_named_68 ?_
          exact Hk17 _ h
        · replace h := jit_neg hc h
          refine x_aloadA_n (pc := 53) hC dX10_named_53 rfl rfl k_166 (by decide) ?_
          refine x_gf (pc := 54) (b := 167) hC fl_X10_14 ft10_1 k_166 (by decide) (off := 1) (by decide +kernel) (by decide) dX10_named_54 ?_
          refine x_aloadA_n (pc := 57) hC dX10_named_57 rfl rfl k_166 (by decide) ?_
          refine x_gi (pc := 58) (ji := 4) hC fl_X10_21 rfl fn10_4 k_166 dX10_named_58 ?_
          refine x_iload (pc := 61) hC dX10_named_61 rfl ?_
          refine x_iadd (pc := 63) hC dX10_named_63 ?_
          obtain ⟨hb18, h⟩ := jck_some h
          refine x_bald (pc := 64) hC k_167 (by rw [l_167]; exact hb18) dX10_named_64 ?_
          refine x_goto (tgt := 69) (pc := 65) hC dX10_named_65 (by decide) ?_
          exact Hk17 _ h

set_option maxHeartbeats 4000000 in
set_option maxRecDepth 20000 in
theorem ok_X10_isName {X : jX} {n : Nat} (hn : 179 ≤ n) {M : jM} {rz : Int} {Mz : jM} (h : f_X10_isName M = some (rz, Mz)) : jCt X n yX10_isName cX10_isName 2 (some .boolean) 3 [jA 166] M (some (jI rz)) Mz := by
  refine jCt_of (own := RX10) (ls := [jA 166, jN]) (by decide +kernel) rfl hn (Nat.le_of_ble_eq_true rfl) rfl ?_
  intro C hC hR
  unfold f_X10_isName at h
  refine x_aloadA_n (pc := 0) hC dX10_isName_0 rfl rfl k_166 (by decide) ?_
  obtain ⟨v3, M2, e1, h⟩ := jbW_some h
  refine x_cV (pc := 1) hC mv_X10_52 (ok_X10_wordMany hn e1) rfl (Nat.le_of_ble_eq_true rfl) k_166 rfl (by decide) (jRo0 C) (Nat.le_of_ble_eq_true rfl) dX10_isName_1 rfl ?_
  refine x_istore_n (ls2 := [jA 166, jI v3]) (pc := 4) hC dX10_isName_4 rfl (by decide) rfl rfl rfl ?_
  refine x_aloadA_n (pc := 5) hC dX10_isName_5 rfl rfl k_166 (by decide) ?_
  obtain ⟨v5, e4, h⟩ := jbR_some h
  refine x_cV (pc := 6) hC mv_X10_38 (ok_X10_hasFailed hn e4) rfl (Nat.le_of_ble_eq_true rfl) k_166 rfl (by decide) (jRo0 C) (Nat.le_of_ble_eq_true rfl) dX10_isName_6 rfl ?_
  refine x_if_ne (tgt := 26) (pc := 9) hC dX10_isName_9 (by decide) (fun hc => ?_) (fun hc => ?_)
  · replace h := jit_neg hc h
    refine x_iconst (pc := 26) hC dX10_isName_26 ?_
    exact x_zret (pc := 27) hC hR dX10_isName_27 (Or.inl jw0) (jr1 h) (jr2 h)
  · replace h := jit_pos hc h
    refine x_iload_n (pc := 12) hC dX10_isName_12 rfl rfl ?_
    refine x_iconst (pc := 13) hC dX10_isName_13 ?_
    refine x_bipush (pc := 14) hC dX10_isName_14 rfl ?_
    obtain ⟨v7, e6, h⟩ := jbR_some h
    refine x_cS (pc := 16) hC ms_X10_69 (ok_X10_in hn e6) rfl (Nat.le_of_ble_eq_true rfl) (jRo0 C) (Nat.le_of_ble_eq_true rfl) dX10_isName_16 rfl ?_
    refine x_if_eq (tgt := 26) (pc := 19) hC dX10_isName_19 (by decide) (fun hc => ?_) (fun hc => ?_)
    · replace h := jit_pos hc h
      refine x_iconst (pc := 26) hC dX10_isName_26 ?_
      exact x_zret (pc := 27) hC hR dX10_isName_27 (Or.inl jw0) (jr1 h) (jr2 h)
    · replace h := jit_neg hc h
      refine x_iconst (pc := 22) hC dX10_isName_22 ?_
      refine x_goto (tgt := 27) (pc := 23) hC dX10_isName_23 (by decide) ?_
      exact x_zret (pc := 27) hC hR dX10_isName_27 (Or.inr jw1) (jr1 h) (jr2 h)

set_option maxHeartbeats 4000000 in
set_option maxRecDepth 20000 in
theorem ok_X10_freshName {X : jX} {n : Nat} (hn : 179 ≤ n) {l1 : Int} {l2 : Int} {M : jM} {Mz : jM} (h : f_X10_freshName l1 l2 M = some Mz) : jCt X n yX10_freshName cX10_freshName 5 (none) 4 [jA 166, jI l1, jI l2] M (none) Mz := by
  refine jCt_of (own := RX10) (ls := [jA 166, jI l1, jI l2, jN, jN]) (by decide +kernel) rfl hn (Nat.le_of_ble_eq_true rfl) rfl ?_
  intro C hC hR
  unfold f_X10_freshName at h
  refine x_aloadA_n (pc := 0) hC dX10_freshName_0 rfl rfl k_166 (by decide) ?_
  obtain ⟨v2, e1, h⟩ := jbR_some h
  refine x_cV (pc := 1) hC mv_X10_38 (ok_X10_hasFailed hn e1) rfl (Nat.le_of_ble_eq_true rfl) k_166 rfl (by decide) (jRo0 C) (Nat.le_of_ble_eq_true rfl) dX10_freshName_1 rfl ?_
  refine x_if_eq (tgt := 8) (pc := 4) hC dX10_freshName_4 (by decide) (fun hc => ?_) (fun hc => ?_)
  · replace h := jit_pos hc h
    refine x_aloadA_n (pc := 8) hC dX10_freshName_8 rfl rfl k_166 (by decide) ?_
    obtain ⟨v5, M4, e3, h⟩ := jbW_some h
    refine x_cV (pc := 9) hC mv_X10_121 (ok_X10_isName hn e3) rfl (Nat.le_of_ble_eq_true rfl) k_166 rfl (by decide) (jRo0 C) (Nat.le_of_ble_eq_true rfl) dX10_freshName_9 rfl ?_
    obtain ⟨k7, Hk7, h⟩ := jk_some (P := fun k7 => ∀ (M6 : jM), k7 M6 = some Mz → jG C X n 5 0 0 25 [jA 166, jI l1, jI l2, jN, jN] [] M6) h (by
      intro M6 h
      refine x_aloadA_n (pc := 25) hC dX10_freshName_25 rfl rfl k_166 (by decide) ?_
      obtain ⟨M9, e8, h⟩ := jbV_some h
      refine x_cV (pc := 26) hC mv_X10_49 (ok_X10_fails hn e8) rfl (Nat.le_of_ble_eq_true rfl) k_166 rfl (by decide) (jRo0 C) (Nat.le_of_ble_eq_true rfl) dX10_freshName_26 rfl ?_
      exact x_vret (pc := 29) hC hR dX10_freshName_29 (jrR h))
    refine x_if_eq (tgt := 25) (pc := 12) hC dX10_freshName_12 (by decide) (fun hc => ?_) (fun hc => ?_)
    · replace h := jit_pos hc h
      exact Hk7 _ h
    · replace h := jit_neg hc h
      refine x_aloadA_n (pc := 15) hC dX10_freshName_15 rfl rfl k_166 (by decide) ?_
      refine x_iload_n (pc := 16) hC dX10_freshName_16 rfl rfl ?_
      refine x_iload_n (pc := 17) hC dX10_freshName_17 rfl rfl ?_
      obtain ⟨v12, M11, e10, h⟩ := jbW_some h
      refine x_cV (pc := 18) hC mv_X10_124 (ok_X10_named hn e10) rfl (Nat.le_of_ble_eq_true rfl) k_166 rfl (by decide) (jRo0 C) (Nat.le_of_ble_eq_true rfl) dX10_freshName_18 rfl ?_
      refine x_iconst (pc := 21) hC dX10_freshName_21 ?_
      refine x_icmp_eq (tgt := 30) (pc := 22) hC dX10_freshName_22 (by decide) (fun hc => ?_) (fun hc => ?_)
      · replace h := jit_pos hc h
        refine x_aloadA_n (pc := 30) hC dX10_freshName_30 rfl rfl k_166 (by decide) ?_
        obtain ⟨v15, M14, e13, h⟩ := jbW_some h
        refine x_cV (pc := 31) hC mv_X10_52 (ok_X10_wordMany hn e13) rfl (Nat.le_of_ble_eq_true rfl) k_166 rfl (by decide) (jRo0 C) (Nat.le_of_ble_eq_true rfl) dX10_freshName_31 rfl ?_
        refine x_istore_n (ls2 := [jA 166, jI l1, jI l2, jI v15, jN]) (pc := 34) hC dX10_freshName_34 rfl (by decide) rfl rfl rfl ?_
        refine x_iconst (pc := 35) hC dX10_freshName_35 ?_
        refine x_istore (ls2 := [jA 166, jI l1, jI l2, jI v15, jI 0]) (pc := 36) hC dX10_freshName_36 (by decide) rfl rfl rfl ?_
        refine jlp2_ind (P := fun (l4_16 : Int) (M17 : jM) => jG C X n 5 0 0 38 [jA 166, jI l1, jI l2, jI v15, jI l4_16] [] M17) ?_ _ _ _ h
        intro self18 l4_16 M17 Hself18 h
        refine x_iload (pc := 38) hC dX10_freshName_38 rfl ?_
        refine x_bipush (pc := 40) hC dX10_freshName_40 rfl ?_
        refine x_icmp_ge (tgt := 87) (pc := 42) hC dX10_freshName_42 (by decide) (fun hc => ?_) (fun hc => ?_)
        · replace h := jit_pos hc h
          refine x_aloadA_n (pc := 87) hC dX10_freshName_87 rfl rfl k_166 (by decide) ?_
          refine x_dup (pc := 88) hC dX10_freshName_88 (show (2 : Nat) ≠ 3 by decide) ?_
          refine x_gi (pc := 89) (ji := 4) hC fl_X10_21 rfl fn10_4 k_166 dX10_freshName_89 ?_
          refine x_iload_n (pc := 92) hC dX10_freshName_92 rfl rfl ?_
          refine x_iadd (pc := 93) hC dX10_freshName_93 ?_
          obtain ⟨M19, eM19, h⟩ := jlet_some h
          refine x_pi (pc := 94) (ji := 4) hC fl_X10_21 rfl ft10_4 k_166 dX10_freshName_94 eM19 ?_
          exact x_vret (pc := 97) hC hR dX10_freshName_97 (jrR h)
        · replace h := jit_neg hc h
          refine x_aloadA_n (pc := 45) hC dX10_freshName_45 rfl rfl k_166 (by decide) ?_
          refine x_gf (pc := 46) (b := 171) hC fl_X10_87 ft10_11 k_166 (by decide) (off := 5) (by decide +kernel) (by decide) dX10_freshName_46 ?_
          refine x_iload_n (pc := 49) hC dX10_freshName_49 rfl rfl ?_
          refine x_bipush (pc := 50) hC dX10_freshName_50 rfl ?_
          refine x_iload_n (pc := 52) hC dX10_freshName_52 rfl rfl ?_
          refine x_imul (pc := 53) hC dX10_freshName_53 ?_
          refine x_iadd (pc := 54) hC dX10_freshName_54 ?_
          refine x_iload (pc := 55) hC dX10_freshName_55 rfl ?_
          refine x_iadd (pc := 57) hC dX10_freshName_57 ?_
          refine x_iload (pc := 58) hC dX10_freshName_58 rfl ?_
          refine x_iload_n (pc := 60) hC dX10_freshName_60 rfl rfl ?_
          obtain ⟨k21, Hk21, h⟩ := jk_some (P := fun k21 => ∀ (s2_20 : Int), k21 s2_20 = some Mz → jG C X n 5 0 0 80 [jA 166, jI l1, jI l2, jI v15, jI l4_16] [jI s2_20, jI ((l1 + (6 * l2)) + l4_16), jA 171] M17) h (by
            intro s2_20 h
            obtain ⟨hb22, h⟩ := jck_some h
            obtain ⟨M23, eM23, h⟩ := jlet_some h
            refine x_iast (pc := 80) hC k_171 (by rw [l_171]; exact hb22) dX10_freshName_80 eM23 ?_
            obtain ⟨l4_24, el4_24, h⟩ := jlet_some h
            refine x_iinc (ls2 := [jA 166, jI l1, jI l2, jI v15, jI l4_24]) (pc := 81) hC dX10_freshName_81 rfl (by decide) rfl el4_24 rfl ?_
            refine x_goto (tgt := 38) (pc := 84) hC dX10_freshName_84 (by decide) ?_
            exact Hself18 _ _ h)
          refine x_icmp_ge (tgt := 79) (pc := 61) hC dX10_freshName_61 (by decide) (fun hc => ?_) (fun hc => ?_)
          · replace h := jit_pos hc h
            refine x_iconst (pc := 79) hC dX10_freshName_79 ?_
            exact Hk21 _ h
          · replace h := jit_neg hc h
            refine x_aloadA_n (pc := 64) hC dX10_freshName_64 rfl rfl k_166 (by decide) ?_
            refine x_gf (pc := 65) (b := 167) hC fl_X10_14 ft10_1 k_166 (by decide) (off := 1) (by decide +kernel) (by decide) dX10_freshName_65 ?_
            refine x_aloadA_n (pc := 68) hC dX10_freshName_68 rfl rfl k_166 (by decide) ?_
            refine x_gi (pc := 69) (ji := 4) hC fl_X10_21 rfl fn10_4 k_166 dX10_freshName_69 ?_
            refine x_iload (pc := 72) hC dX10_freshName_72 rfl ?_
            refine x_iadd (pc := 74) hC dX10_freshName_74 ?_
            obtain ⟨hb25, h⟩ := jck_some h
            refine x_bald (pc := 75) hC k_167 (by rw [l_167]; exact hb25) dX10_freshName_75 ?_
            refine x_goto (tgt := 80) (pc := 76) hC dX10_freshName_76 (by decide) ?_
            exact Hk21 _ h
      · replace h := jit_neg hc h
        exact Hk7 _ h
  · replace h := jit_neg hc h
    exact x_vret (pc := 7) hC hR dX10_freshName_7 (jrR h)

set_option maxHeartbeats 4000000 in
set_option maxRecDepth 20000 in
theorem ok_X10_elementTold {X : jX} {n : Nat} (hn : 179 ≤ n) {l1 : Int} {M : jM} {rz : Int} {Mz : jM} (h : f_X10_elementTold l1 M = some (rz, Mz)) : jCt X n yX10_elementTold cX10_elementTold 3 (some .int) 4 [jA 166, jI l1] M (some (jI rz)) Mz := by
  refine jCt_of (own := RX10) (ls := [jA 166, jI l1, jN]) (by decide +kernel) rfl hn (Nat.le_of_ble_eq_true rfl) rfl ?_
  intro C hC hR
  unfold f_X10_elementTold at h
  refine x_aloadA_n (pc := 0) hC dX10_elementTold_0 rfl rfl k_166 (by decide) ?_
  obtain ⟨v2, e1, h⟩ := jbR_some h
  refine x_cV (pc := 1) hC mv_X10_38 (ok_X10_hasFailed hn e1) rfl (Nat.le_of_ble_eq_true rfl) k_166 rfl (by decide) (jRo0 C) (Nat.le_of_ble_eq_true rfl) dX10_elementTold_1 rfl ?_
  refine x_if_eq (tgt := 9) (pc := 4) hC dX10_elementTold_4 (by decide) (fun hc => ?_) (fun hc => ?_)
  · replace h := jit_pos hc h
    refine x_aloadA_n (pc := 9) hC dX10_elementTold_9 rfl rfl k_166 (by decide) ?_
    obtain ⟨v5, M4, e3, h⟩ := jbW_some h
    refine x_cV (pc := 10) hC mv_X10_121 (ok_X10_isName hn e3) rfl (Nat.le_of_ble_eq_true rfl) k_166 rfl (by decide) (jRo0 C) (Nat.le_of_ble_eq_true rfl) dX10_elementTold_10 rfl ?_
    obtain ⟨k8, Hk8, h⟩ := jk_some (P := fun k8 => ∀ (s0_6 : Int) (M7 : jM), k8 s0_6 M7 = some (rz, Mz) → jG C X n 3 0 0 32 [jA 166, jI l1, jN] [jI s0_6] M7) h (by
      intro s0_6 M7 h
      refine x_istore_n (ls2 := [jA 166, jI l1, jI s0_6]) (pc := 32) hC dX10_elementTold_32 rfl (by decide) rfl rfl rfl ?_
      refine x_iload_n (pc := 33) hC dX10_elementTold_33 rfl rfl ?_
      refine x_iconst (pc := 34) hC dX10_elementTold_34 ?_
      obtain ⟨k9, Hk9, h⟩ := jk_some (P := fun k9 => k9 = some (rz, Mz) → jG C X n 3 0 0 53 [jA 166, jI l1, jI s0_6] [] M7) h (by
        intro h
        refine x_aloadA_n (pc := 53) hC dX10_elementTold_53 rfl rfl k_166 (by decide) ?_
        obtain ⟨M11, e10, h⟩ := jbV_some h
        refine x_cV (pc := 54) hC mv_X10_49 (ok_X10_fails hn e10) rfl (Nat.le_of_ble_eq_true rfl) k_166 rfl (by decide) (jRo0 C) (Nat.le_of_ble_eq_true rfl) dX10_elementTold_54 rfl ?_
        refine x_iconst (pc := 57) hC dX10_elementTold_57 ?_
        exact x_iret (pc := 58) hC hR dX10_elementTold_58 (jr1 h) (jr2 h))
      refine x_icmp_eq (tgt := 53) (pc := 35) hC dX10_elementTold_35 (by decide) (fun hc => ?_) (fun hc => ?_)
      · replace h := jit_pos hc h
        exact Hk9 h
      · replace h := jit_neg hc h
        refine x_iload_n (pc := 38) hC dX10_elementTold_38 rfl rfl ?_
        obtain ⟨k12, Hk12, h⟩ := jk_some (P := fun k12 => k12 = some (rz, Mz) → jG C X n 3 0 0 59 [jA 166, jI l1, jI s0_6] [] M7) h (by
          intro h
          refine x_aloadA_n (pc := 59) hC dX10_elementTold_59 rfl rfl k_166 (by decide) ?_
          refine x_dup (pc := 60) hC dX10_elementTold_60 (show (2 : Nat) ≠ 3 by decide) ?_
          refine x_gi (pc := 61) (ji := 4) hC fl_X10_21 rfl fn10_4 k_166 dX10_elementTold_61 ?_
          refine x_aloadA_n (pc := 64) hC dX10_elementTold_64 rfl rfl k_166 (by decide) ?_
          obtain ⟨v15, M14, e13, h⟩ := jbW_some h
          refine x_cV (pc := 65) hC mv_X10_52 (ok_X10_wordMany hn e13) rfl (Nat.le_of_ble_eq_true rfl) k_166 rfl (by decide) (jRo0 C) (Nat.le_of_ble_eq_true rfl) dX10_elementTold_65 rfl ?_
          refine x_iadd (pc := 68) hC dX10_elementTold_68 ?_
          obtain ⟨M16, eM16, h⟩ := jlet_some h
          refine x_pi (pc := 69) (ji := 4) hC fl_X10_21 rfl ft10_4 k_166 dX10_elementTold_69 eM16 ?_
          refine x_iload_n (pc := 72) hC dX10_elementTold_72 rfl rfl ?_
          exact x_iret (pc := 73) hC hR dX10_elementTold_73 (jr1 h) (jr2 h))
        refine x_if_eq (tgt := 59) (pc := 39) hC dX10_elementTold_39 (by decide) (fun hc => ?_) (fun hc => ?_)
        · replace h := jit_pos hc h
          exact Hk12 h
        · replace h := jit_neg hc h
          refine x_aloadA_n (pc := 42) hC dX10_elementTold_42 rfl rfl k_166 (by decide) ?_
          refine x_gf (pc := 43) (b := 171) hC fl_X10_87 ft10_11 k_166 (by decide) (off := 5) (by decide +kernel) (by decide) dX10_elementTold_43 ?_
          refine x_iconst (pc := 46) hC dX10_elementTold_46 ?_
          refine x_iload_n (pc := 47) hC dX10_elementTold_47 rfl rfl ?_
          refine x_iadd (pc := 48) hC dX10_elementTold_48 ?_
          obtain ⟨hb17, h⟩ := jck_some h
          refine x_iald (pc := 49) hC k_171 (by rw [l_171]; exact hb17) dX10_elementTold_49 ?_
          refine x_if_eq (tgt := 59) (pc := 50) hC dX10_elementTold_50 (by decide) (fun hc => ?_) (fun hc => ?_)
          · replace h := jit_pos hc h
            exact Hk12 h
          · replace h := jit_neg hc h
            exact Hk9 h)
    refine x_if_eq (tgt := 31) (pc := 13) hC dX10_elementTold_13 (by decide) (fun hc => ?_) (fun hc => ?_)
    · replace h := jit_pos hc h
      refine x_iconst (pc := 31) hC dX10_elementTold_31 ?_
      exact Hk8 _ _ h
    · replace h := jit_neg hc h
      refine x_aloadA_n (pc := 16) hC dX10_elementTold_16 rfl rfl k_166 (by decide) ?_
      refine x_bipush (pc := 17) hC dX10_elementTold_17 rfl ?_
      refine x_aloadA_n (pc := 19) hC dX10_elementTold_19 rfl rfl k_166 (by decide) ?_
      refine x_gf (pc := 20) (b := 171) hC fl_X10_87 ft10_11 k_166 (by decide) (off := 5) (by decide +kernel) (by decide) dX10_elementTold_20 ?_
      refine x_iconst (pc := 23) hC dX10_elementTold_23 ?_
      obtain ⟨hb18, h⟩ := jck_some h
      refine x_iald (pc := 24) hC k_171 (by rw [l_171]; exact hb18) dX10_elementTold_24 ?_
      obtain ⟨v21, M20, e19, h⟩ := jbW_some h
      refine x_cV (pc := 25) hC mv_X10_124 (ok_X10_named hn e19) rfl (Nat.le_of_ble_eq_true rfl) k_166 rfl (by decide) (jRo0 C) (Nat.le_of_ble_eq_true rfl) dX10_elementTold_25 rfl ?_
      refine x_goto (tgt := 32) (pc := 28) hC dX10_elementTold_28 (by decide) ?_
      exact Hk8 _ _ h
  · replace h := jit_neg hc h
    refine x_iconst (pc := 7) hC dX10_elementTold_7 ?_
    exact x_iret (pc := 8) hC hR dX10_elementTold_8 (jr1 h) (jr2 h)

set_option maxHeartbeats 4000000 in
set_option maxRecDepth 20000 in
theorem ok_X10_letters {X : jX} {n : Nat} (hn : 179 ≤ n) {l1 : Int} {l2 : Int} {M : jM} {Mz : jM} (h : f_X10_letters l1 l2 M = some Mz) : jCt X n yX10_letters cX10_letters 6 (none) 3 [jA 166, jI l1, jI l2] M (none) Mz := by
  refine jCt_of (own := RX10) (ls := [jA 166, jI l1, jI l2, jN, jN, jN]) (by decide +kernel) rfl hn (Nat.le_of_ble_eq_true rfl) rfl ?_
  intro C hC hR
  unfold f_X10_letters at h
  refine x_aloadA_n (pc := 0) hC dX10_letters_0 rfl rfl k_166 (by decide) ?_
  obtain ⟨v2, e1, h⟩ := jbR_some h
  refine x_cV (pc := 1) hC mv_X10_38 (ok_X10_hasFailed hn e1) rfl (Nat.le_of_ble_eq_true rfl) k_166 rfl (by decide) (jRo0 C) (Nat.le_of_ble_eq_true rfl) dX10_letters_1 rfl ?_
  refine x_if_eq (tgt := 8) (pc := 4) hC dX10_letters_4 (by decide) (fun hc => ?_) (fun hc => ?_)
  · replace h := jit_pos hc h
    refine x_aloadA_n (pc := 8) hC dX10_letters_8 rfl rfl k_166 (by decide) ?_
    obtain ⟨v5, M4, e3, h⟩ := jbW_some h
    refine x_cV (pc := 9) hC mv_X10_52 (ok_X10_wordMany hn e3) rfl (Nat.le_of_ble_eq_true rfl) k_166 rfl (by decide) (jRo0 C) (Nat.le_of_ble_eq_true rfl) dX10_letters_9 rfl ?_
    refine x_istore_n (ls2 := [jA 166, jI l1, jI l2, jI v5, jN, jN]) (pc := 12) hC dX10_letters_12 rfl (by decide) rfl rfl rfl ?_
    refine x_iload_n (pc := 13) hC dX10_letters_13 rfl rfl ?_
    refine x_aloadA_n (pc := 14) hC dX10_letters_14 rfl rfl k_166 (by decide) ?_
    refine x_gf (pc := 15) (b := 171) hC fl_X10_87 ft10_11 k_166 (by decide) (off := 5) (by decide +kernel) (by decide) dX10_letters_15 ?_
    refine x_iconst (pc := 18) hC dX10_letters_18 ?_
    obtain ⟨hb6, h⟩ := jck_some h
    refine x_iald (pc := 19) hC k_171 (by rw [l_171]; exact hb6) dX10_letters_19 ?_
    obtain ⟨k8, Hk8, h⟩ := jk_some (P := fun k8 => ∀ (s0_7 : Int), k8 s0_7 = some Mz → jG C X n 6 0 0 28 [jA 166, jI l1, jI l2, jI v5, jN, jN] [jI s0_7] M4) h (by
      intro s0_7 h
      refine x_istore (ls2 := [jA 166, jI l1, jI l2, jI v5, jI s0_7, jN]) (pc := 28) hC dX10_letters_28 (by decide) rfl rfl rfl ?_
      refine x_iconst (pc := 30) hC dX10_letters_30 ?_
      refine x_istore (ls2 := [jA 166, jI l1, jI l2, jI v5, jI s0_7, jI 0]) (pc := 31) hC dX10_letters_31 (by decide) rfl rfl rfl ?_
      refine jlp2_ind (P := fun (l4_9 : Int) (l5_10 : Int) => jG C X n 6 0 0 33 [jA 166, jI l1, jI l2, jI v5, jI l4_9, jI l5_10] [] M4) ?_ _ _ _ h
      intro self11 l4_9 l5_10 Hself11 h
      refine x_iload (pc := 33) hC dX10_letters_33 rfl ?_
      refine x_iload_n (pc := 35) hC dX10_letters_35 rfl rfl ?_
      obtain ⟨k12, Hk12, h⟩ := jk_some (P := fun k12 => k12 = some Mz → jG C X n 6 0 0 74 [jA 166, jI l1, jI l2, jI v5, jI l4_9, jI l5_10] [] M4) h (by
        intro h
        refine x_iload (pc := 74) hC dX10_letters_74 rfl ?_
        refine x_if_ne (tgt := 84) (pc := 76) hC dX10_letters_76 (by decide) (fun hc => ?_) (fun hc => ?_)
        · replace h := jit_neg hc h
          refine x_iconst (pc := 84) hC dX10_letters_84 ?_
          refine x_istore (ls2 := [jA 166, jI l1, jI l2, jI v5, jI l4_9, jI 0]) (pc := 85) hC dX10_letters_85 (by decide) rfl rfl rfl ?_
          refine jlp2_ind (P := fun (l5_13 : Int) (M14 : jM) => jG C X n 6 0 0 87 [jA 166, jI l1, jI l2, jI v5, jI l4_9, jI l5_13] [] M14) ?_ _ _ _ h
          intro self15 l5_13 M14 Hself15 h
          refine x_iload (pc := 87) hC dX10_letters_87 rfl ?_
          refine x_iload_n (pc := 89) hC dX10_letters_89 rfl rfl ?_
          refine x_icmp_ge (tgt := 125) (pc := 90) hC dX10_letters_90 (by decide) (fun hc => ?_) (fun hc => ?_)
          · replace h := jit_pos hc h
            refine x_aloadA_n (pc := 125) hC dX10_letters_125 rfl rfl k_166 (by decide) ?_
            refine x_dup (pc := 126) hC dX10_letters_126 (show (2 : Nat) ≠ 3 by decide) ?_
            refine x_gi (pc := 127) (ji := 4) hC fl_X10_21 rfl fn10_4 k_166 dX10_letters_127 ?_
            refine x_iload_n (pc := 130) hC dX10_letters_130 rfl rfl ?_
            refine x_iadd (pc := 131) hC dX10_letters_131 ?_
            obtain ⟨M16, eM16, h⟩ := jlet_some h
            refine x_pi (pc := 132) (ji := 4) hC fl_X10_21 rfl ft10_4 k_166 dX10_letters_132 eM16 ?_
            exact x_vret (pc := 135) hC hR dX10_letters_135 (jrR h)
          · replace h := jit_neg hc h
            refine x_aloadA_n (pc := 93) hC dX10_letters_93 rfl rfl k_166 (by decide) ?_
            refine x_gf (pc := 94) (b := 172) hC fl_X10_90 ft10_12 k_166 (by decide) (off := 6) (by decide +kernel) (by decide) dX10_letters_94 ?_
            refine x_iload_n (pc := 97) hC dX10_letters_97 rfl rfl ?_
            refine x_iload (pc := 98) hC dX10_letters_98 rfl ?_
            refine x_iadd (pc := 100) hC dX10_letters_100 ?_
            refine x_aloadA_n (pc := 101) hC dX10_letters_101 rfl rfl k_166 (by decide) ?_
            refine x_gf (pc := 102) (b := 167) hC fl_X10_14 ft10_1 k_166 (by decide) (off := 1) (by decide +kernel) (by decide) dX10_letters_102 ?_
            refine x_aloadA_n (pc := 105) hC dX10_letters_105 rfl rfl k_166 (by decide) ?_
            refine x_gi (pc := 106) (ji := 4) hC fl_X10_21 rfl fn10_4 k_166 dX10_letters_106 ?_
            refine x_iload (pc := 109) hC dX10_letters_109 rfl ?_
            refine x_iadd (pc := 111) hC dX10_letters_111 ?_
            obtain ⟨hb17, h⟩ := jck_some h
            refine x_bald (pc := 112) hC k_167 (by rw [l_167]; exact hb17) dX10_letters_112 ?_
            refine x_bipush (pc := 113) hC dX10_letters_113 rfl ?_
            refine x_isub (pc := 115) hC dX10_letters_115 ?_
            refine x_iload_n (pc := 116) hC dX10_letters_116 rfl rfl ?_
            refine x_isub (pc := 117) hC dX10_letters_117 ?_
            obtain ⟨hb18, h⟩ := jck_some h
            obtain ⟨M19, eM19, h⟩ := jlet_some h
            refine x_iast (pc := 118) hC k_172 (by rw [l_172]; exact hb18) dX10_letters_118 eM19 ?_
            obtain ⟨l5_20, el5_20, h⟩ := jlet_some h
            refine x_iinc (ls2 := [jA 166, jI l1, jI l2, jI v5, jI l4_9, jI l5_20]) (pc := 119) hC dX10_letters_119 rfl (by decide) rfl el5_20 rfl ?_
            refine x_goto (tgt := 87) (pc := 122) hC dX10_letters_122 (by decide) ?_
            exact Hself15 _ _ h
        · replace h := jit_pos hc h
          refine x_aloadA_n (pc := 79) hC dX10_letters_79 rfl rfl k_166 (by decide) ?_
          obtain ⟨M22, e21, h⟩ := jbV_some h
          refine x_cV (pc := 80) hC mv_X10_49 (ok_X10_fails hn e21) rfl (Nat.le_of_ble_eq_true rfl) k_166 rfl (by decide) (jRo0 C) (Nat.le_of_ble_eq_true rfl) dX10_letters_80 rfl ?_
          exact x_vret (pc := 83) hC hR dX10_letters_83 (jrR h))
      refine x_icmp_ge (tgt := 74) (pc := 36) hC dX10_letters_36 (by decide) (fun hc => ?_) (fun hc => ?_)
      · replace h := jit_pos hc h
        exact Hk12 h
      · replace h := jit_neg hc h
        refine x_iload (pc := 39) hC dX10_letters_39 rfl ?_
        refine x_if_eq (tgt := 74) (pc := 41) hC dX10_letters_41 (by decide) (fun hc => ?_) (fun hc => ?_)
        · replace h := jit_pos hc h
          exact Hk12 h
        · replace h := jit_neg hc h
          refine x_aloadA_n (pc := 44) hC dX10_letters_44 rfl rfl k_166 (by decide) ?_
          refine x_gf (pc := 45) (b := 167) hC fl_X10_14 ft10_1 k_166 (by decide) (off := 1) (by decide +kernel) (by decide) dX10_letters_45 ?_
          refine x_aloadA_n (pc := 48) hC dX10_letters_48 rfl rfl k_166 (by decide) ?_
          refine x_gi (pc := 49) (ji := 4) hC fl_X10_21 rfl fn10_4 k_166 dX10_letters_49 ?_
          refine x_iload (pc := 52) hC dX10_letters_52 rfl ?_
          refine x_iadd (pc := 54) hC dX10_letters_54 ?_
          obtain ⟨hb23, h⟩ := jck_some h
          refine x_bald (pc := 55) hC k_167 (by rw [l_167]; exact hb23) dX10_letters_55 ?_
          refine x_bipush (pc := 56) hC dX10_letters_56 rfl ?_
          obtain ⟨k25, Hk25, h⟩ := jk_some (P := fun k25 => ∀ (s0_24 : Int), k25 s0_24 = some Mz → jG C X n 6 0 0 66 [jA 166, jI l1, jI l2, jI v5, jI l4_9, jI l5_10] [jI s0_24] M4) h (by
            intro s0_24 h
            refine x_istore (ls2 := [jA 166, jI l1, jI l2, jI v5, jI s0_24, jI l5_10]) (pc := 66) hC dX10_letters_66 (by decide) rfl rfl rfl ?_
            obtain ⟨l5_26, el5_26, h⟩ := jlet_some h
            refine x_iinc (ls2 := [jA 166, jI l1, jI l2, jI v5, jI s0_24, jI l5_26]) (pc := 68) hC dX10_letters_68 rfl (by decide) rfl el5_26 rfl ?_
            refine x_goto (tgt := 33) (pc := 71) hC dX10_letters_71 (by decide) ?_
            exact Hself11 _ _ h)
          refine x_icmp_gt (tgt := 65) (pc := 58) hC dX10_letters_58 (by decide) (fun hc => ?_) (fun hc => ?_)
          · replace h := jit_pos hc h
            refine x_iconst (pc := 65) hC dX10_letters_65 ?_
            exact Hk25 _ h
          · replace h := jit_neg hc h
            refine x_iconst (pc := 61) hC dX10_letters_61 ?_
            refine x_goto (tgt := 66) (pc := 62) hC dX10_letters_62 (by decide) ?_
            exact Hk25 _ h)
    refine x_icmp_ne (tgt := 27) (pc := 20) hC dX10_letters_20 (by decide) (fun hc => ?_) (fun hc => ?_)
    · replace h := jit_neg hc h
      refine x_iconst (pc := 27) hC dX10_letters_27 ?_
      exact Hk8 _ h
    · replace h := jit_pos hc h
      refine x_iconst (pc := 23) hC dX10_letters_23 ?_
      refine x_goto (tgt := 28) (pc := 24) hC dX10_letters_24 (by decide) ?_
      exact Hk8 _ h
  · replace h := jit_neg hc h
    exact x_vret (pc := 7) hC hR dX10_letters_7 (jrR h)

set_option maxHeartbeats 4000000 in
set_option maxRecDepth 20000 in
theorem ok_X10_code {X : jX} {n : Nat} (hn : 179 ≤ n) {l1 : Int} {M : jM} {Mz : jM} (h : f_X10_code l1 M = some Mz) : jCt X n yX10_code cX10_code 3 (none) 1 [jA 166, jI l1] M (none) Mz := by
  refine jCt_of (own := RX10) (ls := [jA 166, jI l1, jN]) (by decide +kernel) rfl hn (Nat.le_of_ble_eq_true rfl) rfl ?_
  intro C hC hR
  unfold f_X10_code at h
  refine x_aloadA_n (pc := 0) hC dX10_code_0 rfl rfl k_166 (by decide) ?_
  obtain ⟨v2, e1, h⟩ := jbR_some h
  refine x_cV (pc := 1) hC mv_X10_38 (ok_X10_hasFailed hn e1) rfl (Nat.le_of_ble_eq_true rfl) k_166 rfl (by decide) (jRo0 C) (Nat.le_of_ble_eq_true rfl) dX10_code_1 rfl ?_
  refine x_if_eq (tgt := 8) (pc := 4) hC dX10_code_4 (by decide) (fun hc => ?_) (fun hc => ?_)
  · replace h := jit_pos hc h
    refine x_aloadA_n (pc := 8) hC dX10_code_8 rfl rfl k_166 (by decide) ?_
    refine x_gf (pc := 9) (b := 171) hC fl_X10_87 ft10_11 k_166 (by decide) (off := 5) (by decide +kernel) (by decide) dX10_code_9 ?_
    refine x_sipush (pc := 12) hC dX10_code_12 rfl ?_
    refine x_aloadA_n (pc := 15) hC dX10_code_15 rfl rfl k_166 (by decide) ?_
    refine x_gf (pc := 16) (b := 171) hC fl_X10_87 ft10_11 k_166 (by decide) (off := 5) (by decide +kernel) (by decide) dX10_code_16 ?_
    refine x_iconst (pc := 19) hC dX10_code_19 ?_
    obtain ⟨hb3, h⟩ := jck_some h
    refine x_iald (pc := 20) hC k_171 (by rw [l_171]; exact hb3) dX10_code_20 ?_
    refine x_iadd (pc := 21) hC dX10_code_21 ?_
    refine x_iconst (pc := 22) hC dX10_code_22 ?_
    refine x_iadd (pc := 23) hC dX10_code_23 ?_
    obtain ⟨hb4, h⟩ := jck_some h
    refine x_iald (pc := 24) hC k_171 (by rw [l_171]; exact hb4) dX10_code_24 ?_
    obtain ⟨l2_5, el2_5, h⟩ := jlet_some h
    refine x_istore_n (ls2 := [jA 166, jI l1, jI l2_5]) (pc := 25) hC dX10_code_25 rfl (by decide) rfl el2_5 rfl ?_
    refine x_aloadA_n (pc := 26) hC dX10_code_26 rfl rfl k_166 (by decide) ?_
    refine x_gf (pc := 27) (b := 171) hC fl_X10_87 ft10_11 k_166 (by decide) (off := 5) (by decide +kernel) (by decide) dX10_code_27 ?_
    refine x_sipush (pc := 30) hC dX10_code_30 rfl ?_
    refine x_iload_n (pc := 33) hC dX10_code_33 rfl rfl ?_
    refine x_iadd (pc := 34) hC dX10_code_34 ?_
    refine x_iload_n (pc := 35) hC dX10_code_35 rfl rfl ?_
    obtain ⟨hb6, h⟩ := jck_some h
    obtain ⟨M7, eM7, h⟩ := jlet_some h
    refine x_iast (pc := 36) hC k_171 (by rw [l_171]; exact hb6) dX10_code_36 eM7 ?_
    refine x_aloadA_n (pc := 37) hC dX10_code_37 rfl rfl k_166 (by decide) ?_
    refine x_gf (pc := 38) (b := 171) hC fl_X10_87 ft10_11 k_166 (by decide) (off := 5) (by decide +kernel) (by decide) dX10_code_38 ?_
    refine x_sipush (pc := 41) hC dX10_code_41 rfl ?_
    refine x_aloadA_n (pc := 44) hC dX10_code_44 rfl rfl k_166 (by decide) ?_
    refine x_gf (pc := 45) (b := 171) hC fl_X10_87 ft10_11 k_166 (by decide) (off := 5) (by decide +kernel) (by decide) dX10_code_45 ?_
    refine x_iconst (pc := 48) hC dX10_code_48 ?_
    obtain ⟨hb8, h⟩ := jck_some h
    refine x_iald (pc := 49) hC k_171 (by rw [l_171]; exact hb8) dX10_code_49 ?_
    refine x_iadd (pc := 50) hC dX10_code_50 ?_
    refine x_iconst (pc := 51) hC dX10_code_51 ?_
    refine x_iadd (pc := 52) hC dX10_code_52 ?_
    refine x_iload_n (pc := 53) hC dX10_code_53 rfl rfl ?_
    refine x_iconst (pc := 54) hC dX10_code_54 ?_
    refine x_iadd (pc := 55) hC dX10_code_55 ?_
    obtain ⟨hb9, h⟩ := jck_some h
    obtain ⟨M10, eM10, h⟩ := jlet_some h
    refine x_iast (pc := 56) hC k_171 (by rw [l_171]; exact hb9) dX10_code_56 eM10 ?_
    exact x_vret (pc := 57) hC hR dX10_code_57 (jrR h)
  · replace h := jit_neg hc h
    exact x_vret (pc := 7) hC hR dX10_code_7 (jrR h)

set_option maxHeartbeats 4000000 in
set_option maxRecDepth 20000 in
theorem ok_X10_wordTold {X : jX} {n : Nat} (hn : 179 ≤ n) {M : jM} {rz : Int} {Mz : jM} (h : f_X10_wordTold M = some (rz, Mz)) : jCt X n yX10_wordTold cX10_wordTold 1 (some .int) 6 [jA 166] M (some (jI rz)) Mz := by
  refine jCt_of (own := RX10) (ls := [jA 166]) (by decide +kernel) rfl hn (Nat.le_of_ble_eq_true rfl) rfl ?_
  intro C hC hR
  unfold f_X10_wordTold at h
  refine x_aloadA_n (pc := 0) hC dX10_wordTold_0 rfl rfl k_166 (by decide) ?_
  refine x_ldcS (pc := 1) hC dX10_wordTold_1 sr_40 (q := 40) rfl ?_
  obtain ⟨v3, M2, e1, h⟩ := jbW_some h
  refine x_cV (pc := 3) hC mv_X10_65 (ok_X10_isWord hn (by decide) e1) rfl (Nat.le_of_ble_eq_true rfl) k_166 rfl (by decide) (jRo0 C) (Nat.le_of_ble_eq_true rfl) dX10_wordTold_3 rfl ?_
  refine x_if_eq (tgt := 13) (pc := 6) hC dX10_wordTold_6 (by decide) (fun hc => ?_) (fun hc => ?_)
  · replace h := jit_pos hc h
    refine x_aloadA_n (pc := 13) hC dX10_wordTold_13 rfl rfl k_166 (by decide) ?_
    refine x_ldcS (pc := 14) hC dX10_wordTold_14 sr_41 (q := 41) rfl ?_
    obtain ⟨v6, M5, e4, h⟩ := jbW_some h
    refine x_cV (pc := 16) hC mv_X10_65 (ok_X10_isWord hn (by decide) e4) rfl (Nat.le_of_ble_eq_true rfl) k_166 rfl (by decide) (jRo0 C) (Nat.le_of_ble_eq_true rfl) dX10_wordTold_16 rfl ?_
    refine x_if_eq (tgt := 26) (pc := 19) hC dX10_wordTold_19 (by decide) (fun hc => ?_) (fun hc => ?_)
    · replace h := jit_pos hc h
      refine x_aloadA_n (pc := 26) hC dX10_wordTold_26 rfl rfl k_166 (by decide) ?_
      refine x_ldcS (pc := 27) hC dX10_wordTold_27 sr_42 (q := 42) rfl ?_
      obtain ⟨v9, M8, e7, h⟩ := jbW_some h
      refine x_cV (pc := 29) hC mv_X10_65 (ok_X10_isWord hn (by decide) e7) rfl (Nat.le_of_ble_eq_true rfl) k_166 rfl (by decide) (jRo0 C) (Nat.le_of_ble_eq_true rfl) dX10_wordTold_29 rfl ?_
      refine x_if_eq (tgt := 39) (pc := 32) hC dX10_wordTold_32 (by decide) (fun hc => ?_) (fun hc => ?_)
      · replace h := jit_pos hc h
        refine x_aloadA_n (pc := 39) hC dX10_wordTold_39 rfl rfl k_166 (by decide) ?_
        refine x_ldcS (pc := 40) hC dX10_wordTold_40 sr_43 (q := 43) rfl ?_
        obtain ⟨v12, M11, e10, h⟩ := jbW_some h
        refine x_cV (pc := 42) hC mv_X10_65 (ok_X10_isWord hn (by decide) e10) rfl (Nat.le_of_ble_eq_true rfl) k_166 rfl (by decide) (jRo0 C) (Nat.le_of_ble_eq_true rfl) dX10_wordTold_42 rfl ?_
        refine x_if_eq (tgt := 52) (pc := 45) hC dX10_wordTold_45 (by decide) (fun hc => ?_) (fun hc => ?_)
        · replace h := jit_pos hc h
          refine x_aloadA_n (pc := 52) hC dX10_wordTold_52 rfl rfl k_166 (by decide) ?_
          refine x_ldcS (pc := 53) hC dX10_wordTold_53 sr_44 (q := 44) rfl ?_
          obtain ⟨v15, M14, e13, h⟩ := jbW_some h
          refine x_cV (pc := 55) hC mv_X10_65 (ok_X10_isWord hn (by decide) e13) rfl (Nat.le_of_ble_eq_true rfl) k_166 rfl (by decide) (jRo0 C) (Nat.le_of_ble_eq_true rfl) dX10_wordTold_55 rfl ?_
          refine x_if_eq (tgt := 65) (pc := 58) hC dX10_wordTold_58 (by decide) (fun hc => ?_) (fun hc => ?_)
          · replace h := jit_pos hc h
            refine x_aloadA_n (pc := 65) hC dX10_wordTold_65 rfl rfl k_166 (by decide) ?_
            refine x_ldcS (pc := 66) hC dX10_wordTold_66 sr_32 (q := 32) rfl ?_
            obtain ⟨v18, M17, e16, h⟩ := jbW_some h
            refine x_cV (pc := 68) hC mv_X10_65 (ok_X10_isWord hn (by decide) e16) rfl (Nat.le_of_ble_eq_true rfl) k_166 rfl (by decide) (jRo0 C) (Nat.le_of_ble_eq_true rfl) dX10_wordTold_68 rfl ?_
            refine x_if_eq (tgt := 78) (pc := 71) hC dX10_wordTold_71 (by decide) (fun hc => ?_) (fun hc => ?_)
            · replace h := jit_pos hc h
              refine x_aloadA_n (pc := 78) hC dX10_wordTold_78 rfl rfl k_166 (by decide) ?_
              refine x_ldcS (pc := 79) hC dX10_wordTold_79 sr_37 (q := 37) rfl ?_
              obtain ⟨v21, M20, e19, h⟩ := jbW_some h
              refine x_cV (pc := 81) hC mv_X10_65 (ok_X10_isWord hn (by decide) e19) rfl (Nat.le_of_ble_eq_true rfl) k_166 rfl (by decide) (jRo0 C) (Nat.le_of_ble_eq_true rfl) dX10_wordTold_81 rfl ?_
              refine x_if_eq (tgt := 92) (pc := 84) hC dX10_wordTold_84 (by decide) (fun hc => ?_) (fun hc => ?_)
              · replace h := jit_pos hc h
                refine x_aloadA_n (pc := 92) hC dX10_wordTold_92 rfl rfl k_166 (by decide) ?_
                refine x_ldcS (pc := 93) hC dX10_wordTold_93 sr_45 (q := 45) rfl ?_
                obtain ⟨v24, M23, e22, h⟩ := jbW_some h
                refine x_cV (pc := 95) hC mv_X10_65 (ok_X10_isWord hn (by decide) e22) rfl (Nat.le_of_ble_eq_true rfl) k_166 rfl (by decide) (jRo0 C) (Nat.le_of_ble_eq_true rfl) dX10_wordTold_95 rfl ?_
                refine x_if_eq (tgt := 106) (pc := 98) hC dX10_wordTold_98 (by decide) (fun hc => ?_) (fun hc => ?_)
                · replace h := jit_pos hc h
                  refine x_aloadA_n (pc := 106) hC dX10_wordTold_106 rfl rfl k_166 (by decide) ?_
                  refine x_ldcS (pc := 107) hC dX10_wordTold_107 sr_46 (q := 46) rfl ?_
                  obtain ⟨v27, M26, e25, h⟩ := jbW_some h
                  refine x_cV (pc := 109) hC mv_X10_65 (ok_X10_isWord hn (by decide) e25) rfl (Nat.le_of_ble_eq_true rfl) k_166 rfl (by decide) (jRo0 C) (Nat.le_of_ble_eq_true rfl) dX10_wordTold_109 rfl ?_
                  refine x_if_eq (tgt := 120) (pc := 112) hC dX10_wordTold_112 (by decide) (fun hc => ?_) (fun hc => ?_)
                  · replace h := jit_pos hc h
                    refine x_aloadA_n (pc := 120) hC dX10_wordTold_120 rfl rfl k_166 (by decide) ?_
                    refine x_ldcS (pc := 121) hC dX10_wordTold_121 sr_47 (q := 47) rfl ?_
                    obtain ⟨v30, M29, e28, h⟩ := jbW_some h
                    refine x_cV (pc := 123) hC mv_X10_65 (ok_X10_isWord hn (by decide) e28) rfl (Nat.le_of_ble_eq_true rfl) k_166 rfl (by decide) (jRo0 C) (Nat.le_of_ble_eq_true rfl) dX10_wordTold_123 rfl ?_
                    refine x_if_eq (tgt := 134) (pc := 126) hC dX10_wordTold_126 (by decide) (fun hc => ?_) (fun hc => ?_)
                    · replace h := jit_pos hc h
                      refine x_iconst (pc := 134) hC dX10_wordTold_134 ?_
                      exact x_iret (pc := 135) hC hR dX10_wordTold_135 (jr1 h) (jr2 h)
                    · replace h := jit_neg hc h
                      refine x_bipush (pc := 129) hC dX10_wordTold_129 rfl ?_
                      refine x_goto (tgt := 135) (pc := 131) hC dX10_wordTold_131 (by decide) ?_
                      exact x_iret (pc := 135) hC hR dX10_wordTold_135 (jr1 h) (jr2 h)
                  · replace h := jit_neg hc h
                    refine x_bipush (pc := 115) hC dX10_wordTold_115 rfl ?_
                    refine x_goto (tgt := 135) (pc := 117) hC dX10_wordTold_117 (by decide) ?_
                    exact x_iret (pc := 135) hC hR dX10_wordTold_135 (jr1 h) (jr2 h)
                · replace h := jit_neg hc h
                  refine x_bipush (pc := 101) hC dX10_wordTold_101 rfl ?_
                  refine x_goto (tgt := 135) (pc := 103) hC dX10_wordTold_103 (by decide) ?_
                  exact x_iret (pc := 135) hC hR dX10_wordTold_135 (jr1 h) (jr2 h)
              · replace h := jit_neg hc h
                refine x_bipush (pc := 87) hC dX10_wordTold_87 rfl ?_
                refine x_goto (tgt := 135) (pc := 89) hC dX10_wordTold_89 (by decide) ?_
                exact x_iret (pc := 135) hC hR dX10_wordTold_135 (jr1 h) (jr2 h)
            · replace h := jit_neg hc h
              refine x_iconst (pc := 74) hC dX10_wordTold_74 ?_
              refine x_goto (tgt := 135) (pc := 75) hC dX10_wordTold_75 (by decide) ?_
              exact x_iret (pc := 135) hC hR dX10_wordTold_135 (jr1 h) (jr2 h)
          · replace h := jit_neg hc h
            refine x_iconst (pc := 61) hC dX10_wordTold_61 ?_
            refine x_goto (tgt := 135) (pc := 62) hC dX10_wordTold_62 (by decide) ?_
            exact x_iret (pc := 135) hC hR dX10_wordTold_135 (jr1 h) (jr2 h)
        · replace h := jit_neg hc h
          refine x_iconst (pc := 48) hC dX10_wordTold_48 ?_
          refine x_goto (tgt := 135) (pc := 49) hC dX10_wordTold_49 (by decide) ?_
          exact x_iret (pc := 135) hC hR dX10_wordTold_135 (jr1 h) (jr2 h)
      · replace h := jit_neg hc h
        refine x_iconst (pc := 35) hC dX10_wordTold_35 ?_
        refine x_goto (tgt := 135) (pc := 36) hC dX10_wordTold_36 (by decide) ?_
        exact x_iret (pc := 135) hC hR dX10_wordTold_135 (jr1 h) (jr2 h)
    · replace h := jit_neg hc h
      refine x_iconst (pc := 22) hC dX10_wordTold_22 ?_
      refine x_goto (tgt := 135) (pc := 23) hC dX10_wordTold_23 (by decide) ?_
      exact x_iret (pc := 135) hC hR dX10_wordTold_135 (jr1 h) (jr2 h)
  · replace h := jit_neg hc h
    refine x_iconst (pc := 9) hC dX10_wordTold_9 ?_
    refine x_goto (tgt := 135) (pc := 10) hC dX10_wordTold_10 (by decide) ?_
    exact x_iret (pc := 135) hC hR dX10_wordTold_135 (jr1 h) (jr2 h)

set_option maxHeartbeats 4000000 in
set_option maxRecDepth 20000 in
theorem ok_X10_elementLine {X : jX} {n : Nat} (hn : 179 ≤ n) {M : jM} {Mz : jM} (h : f_X10_elementLine M = some Mz) : jCt X n yX10_elementLine cX10_elementLine 2 (none) 7 [jA 166] M (none) Mz := by
  refine jCt_of (own := RX10) (ls := [jA 166, jN]) (by decide +kernel) rfl hn (Nat.le_of_ble_eq_true rfl) rfl ?_
  intro C hC hR
  unfold f_X10_elementLine at h
  refine x_aloadA_n (pc := 0) hC dX10_elementLine_0 rfl rfl k_166 (by decide) ?_
  refine x_gf (pc := 1) (b := 171) hC fl_X10_87 ft10_11 k_166 (by decide) (off := 5) (by decide +kernel) (by decide) dX10_elementLine_1 ?_
  refine x_iconst (pc := 4) hC dX10_elementLine_4 ?_
  obtain ⟨hb1, h⟩ := jck_some h
  refine x_iald (pc := 5) hC k_171 (by rw [l_171]; exact hb1) dX10_elementLine_5 ?_
  obtain ⟨l1_2, el1_2, h⟩ := jlet_some h
  refine x_istore_n (ls2 := [jA 166, jI l1_2]) (pc := 6) hC dX10_elementLine_6 rfl (by decide) rfl el1_2 rfl ?_
  refine x_aloadA_n (pc := 7) hC dX10_elementLine_7 rfl rfl k_166 (by decide) ?_
  refine x_bipush (pc := 8) hC dX10_elementLine_8 rfl ?_
  refine x_iload_n (pc := 10) hC dX10_elementLine_10 rfl rfl ?_
  obtain ⟨M4, e3, h⟩ := jbV_some h
  refine x_cV (pc := 11) hC mv_X10_191 (ok_X10_freshName hn e3) rfl (Nat.le_of_ble_eq_true rfl) k_166 rfl (by decide) (jRo0 C) (Nat.le_of_ble_eq_true rfl) dX10_elementLine_11 rfl ?_
  refine x_aloadA_n (pc := 14) hC dX10_elementLine_14 rfl rfl k_166 (by decide) ?_
  refine x_gf (pc := 15) (b := 171) hC fl_X10_87 ft10_11 k_166 (by decide) (off := 5) (by decide +kernel) (by decide) dX10_elementLine_15 ?_
  refine x_iconst (pc := 18) hC dX10_elementLine_18 ?_
  refine x_iload_n (pc := 19) hC dX10_elementLine_19 rfl rfl ?_
  refine x_iadd (pc := 20) hC dX10_elementLine_20 ?_
  refine x_aloadA_n (pc := 21) hC dX10_elementLine_21 rfl rfl k_166 (by decide) ?_
  refine x_ldcS (pc := 22) hC dX10_elementLine_22 sr_30 (q := 30) rfl ?_
  obtain ⟨v7, M6, e5, h⟩ := jbW_some h
  refine x_cV (pc := 24) hC mv_X10_178 (ok_X10_takesWord hn (by decide) e5) rfl (Nat.le_of_ble_eq_true rfl) k_166 rfl (by decide) (jRo0 C) (Nat.le_of_ble_eq_true rfl) dX10_elementLine_24 rfl ?_
  obtain ⟨k10, Hk10, h⟩ := jk_some (P := fun k10 => ∀ (s2_8 : Int) (M9 : jM), k10 s2_8 M9 = some Mz → jG C X n 2 0 0 48 [jA 166, jI l1_2] [jI s2_8, jI (4 + l1_2), jA 171] M9) h (by
    intro s2_8 M9 h
    obtain ⟨hb11, h⟩ := jck_some h
    obtain ⟨M12, eM12, h⟩ := jlet_some h
    refine x_iast (pc := 48) hC k_171 (by rw [l_171]; exact hb11) dX10_elementLine_48 eM12 ?_
    refine x_aloadA_n (pc := 49) hC dX10_elementLine_49 rfl rfl k_166 (by decide) ?_
    refine x_gf (pc := 50) (b := 171) hC fl_X10_87 ft10_11 k_166 (by decide) (off := 5) (by decide +kernel) (by decide) dX10_elementLine_50 ?_
    refine x_iconst (pc := 53) hC dX10_elementLine_53 ?_
    refine x_iload_n (pc := 54) hC dX10_elementLine_54 rfl rfl ?_
    refine x_iadd (pc := 55) hC dX10_elementLine_55 ?_
    obtain ⟨hb13, h⟩ := jck_some h
    refine x_iald (pc := 56) hC k_171 (by rw [l_171]; exact hb13) dX10_elementLine_56 ?_
    refine x_iconst (pc := 57) hC dX10_elementLine_57 ?_
    obtain ⟨k15, Hk15, h⟩ := jk_some (P := fun k15 => ∀ (M14 : jM), k15 M14 = some Mz → jG C X n 2 0 0 74 [jA 166, jI l1_2] [] M14) h (by
      intro M14 h
      refine x_aloadA_n (pc := 74) hC dX10_elementLine_74 rfl rfl k_166 (by decide) ?_
      refine x_gf (pc := 75) (b := 172) hC fl_X10_90 ft10_12 k_166 (by decide) (off := 6) (by decide +kernel) (by decide) dX10_elementLine_75 ?_
      refine x_sipush (pc := 78) hC dX10_elementLine_78 rfl ?_
      refine x_iload_n (pc := 81) hC dX10_elementLine_81 rfl rfl ?_
      refine x_iadd (pc := 82) hC dX10_elementLine_82 ?_
      refine x_aloadA_n (pc := 83) hC dX10_elementLine_83 rfl rfl k_166 (by decide) ?_
      refine x_iconst (pc := 84) hC dX10_elementLine_84 ?_
      refine x_sipush (pc := 85) hC dX10_elementLine_85 rfl ?_
      obtain ⟨v18, M17, e16, h⟩ := jbW_some h
      refine x_cV (pc := 88) hC mv_X10_161 (ok_X10_number hn e16) rfl (Nat.le_of_ble_eq_true rfl) k_166 rfl (by decide) (jRo0 C) (Nat.le_of_ble_eq_true rfl) dX10_elementLine_88 rfl ?_
      obtain ⟨hb19, h⟩ := jck_some h
      obtain ⟨M20, eM20, h⟩ := jlet_some h
      refine x_iast (pc := 91) hC k_172 (by rw [l_172]; exact hb19) dX10_elementLine_91 eM20 ?_
      refine x_aloadA_n (pc := 92) hC dX10_elementLine_92 rfl rfl k_166 (by decide) ?_
      refine x_gf (pc := 93) (b := 171) hC fl_X10_87 ft10_11 k_166 (by decide) (off := 5) (by decide +kernel) (by decide) dX10_elementLine_93 ?_
      refine x_iconst (pc := 96) hC dX10_elementLine_96 ?_
      refine x_dup2 (pc := 97) hC dX10_elementLine_97 (show (1 : Nat) ≠ 3 by decide) (show (2 : Nat) ≠ 3 by decide) ?_
      obtain ⟨hb21, h⟩ := jck_some h
      refine x_iald (pc := 98) hC k_171 (by rw [l_171]; exact hb21) dX10_elementLine_98 ?_
      refine x_iconst (pc := 99) hC dX10_elementLine_99 ?_
      refine x_iadd (pc := 100) hC dX10_elementLine_100 ?_
      obtain ⟨hb22, h⟩ := jck_some h
      obtain ⟨M23, eM23, h⟩ := jlet_some h
      refine x_iast (pc := 101) hC k_171 (by rw [l_171]; exact hb22) dX10_elementLine_101 eM23 ?_
      exact x_vret (pc := 102) hC hR dX10_elementLine_102 (jrR h))
    refine x_icmp_ne (tgt := 74) (pc := 58) hC dX10_elementLine_58 (by decide) (fun hc => ?_) (fun hc => ?_)
    · replace h := jit_neg hc h
      exact Hk15 _ h
    · replace h := jit_pos hc h
      refine x_aloadA_n (pc := 61) hC dX10_elementLine_61 rfl rfl k_166 (by decide) ?_
      refine x_ldcS (pc := 62) hC dX10_elementLine_62 sr_32 (q := 32) rfl ?_
      obtain ⟨v26, M25, e24, h⟩ := jbW_some h
      refine x_cV (pc := 64) hC mv_X10_178 (ok_X10_takesWord hn (by decide) e24) rfl (Nat.le_of_ble_eq_true rfl) k_166 rfl (by decide) (jRo0 C) (Nat.le_of_ble_eq_true rfl) dX10_elementLine_64 rfl ?_
      refine x_if_ne (tgt := 74) (pc := 67) hC dX10_elementLine_67 (by decide) (fun hc => ?_) (fun hc => ?_)
      · replace h := jit_neg hc h
        exact Hk15 _ h
      · replace h := jit_pos hc h
        refine x_aloadA_n (pc := 70) hC dX10_elementLine_70 rfl rfl k_166 (by decide) ?_
        obtain ⟨M28, e27, h⟩ := jbV_some h
        refine x_cV (pc := 71) hC mv_X10_49 (ok_X10_fails hn e27) rfl (Nat.le_of_ble_eq_true rfl) k_166 rfl (by decide) (jRo0 C) (Nat.le_of_ble_eq_true rfl) dX10_elementLine_71 rfl ?_
        exact Hk15 _ h)
  refine x_if_eq (tgt := 34) (pc := 27) hC dX10_elementLine_27 (by decide) (fun hc => ?_) (fun hc => ?_)
  · replace h := jit_pos hc h
    refine x_aloadA_n (pc := 34) hC dX10_elementLine_34 rfl rfl k_166 (by decide) ?_
    refine x_ldcS (pc := 35) hC dX10_elementLine_35 sr_31 (q := 31) rfl ?_
    obtain ⟨v31, M30, e29, h⟩ := jbW_some h
    refine x_cV (pc := 37) hC mv_X10_178 (ok_X10_takesWord hn (by decide) e29) rfl (Nat.le_of_ble_eq_true rfl) k_166 rfl (by decide) (jRo0 C) (Nat.le_of_ble_eq_true rfl) dX10_elementLine_37 rfl ?_
    refine x_if_eq (tgt := 47) (pc := 40) hC dX10_elementLine_40 (by decide) (fun hc => ?_) (fun hc => ?_)
    · replace h := jit_pos hc h
      refine x_iconst (pc := 47) hC dX10_elementLine_47 ?_
      exact Hk10 _ _ h
    · replace h := jit_neg hc h
      refine x_iconst (pc := 43) hC dX10_elementLine_43 ?_
      refine x_goto (tgt := 48) (pc := 44) hC dX10_elementLine_44 (by decide) ?_
      exact Hk10 _ _ h
  · replace h := jit_neg hc h
    refine x_iconst (pc := 30) hC dX10_elementLine_30 ?_
    refine x_goto (tgt := 48) (pc := 31) hC dX10_elementLine_31 (by decide) ?_
    exact Hk10 _ _ h

set_option maxHeartbeats 4000000 in
set_option maxRecDepth 20000 in
theorem ok_X10_tryAt {X : jX} {n : Nat} (hn : 179 ≤ n) {l0 : Int} {l1 : Int} {M : jM} {rz : Int} (h : f_X10_tryAt l0 l1 = some rz) : jCt X n yX10_tryAt cX10_tryAt 2 (some .int) 0 [jI l0, jI l1] M (some (jI rz)) M := by
  refine jCt_of (own := RX10) (ls := [jI l0, jI l1]) (by decide +kernel) rfl hn (Nat.le_of_ble_eq_true rfl) rfl ?_
  intro C hC hR
  unfold f_X10_tryAt at h
  refine x_bipush (pc := 0) hC dX10_tryAt_0 rfl ?_
  refine x_iload_n (pc := 2) hC dX10_tryAt_2 rfl rfl ?_
  refine x_imul (pc := 3) hC dX10_tryAt_3 ?_
  refine x_iload_n (pc := 4) hC dX10_tryAt_4 rfl rfl ?_
  refine x_iadd (pc := 5) hC dX10_tryAt_5 ?_
  exact x_iret (pc := 6) hC hR dX10_tryAt_6 (jrR h) rfl

set_option maxHeartbeats 4000000 in
set_option maxRecDepth 20000 in
theorem ok_X10_callTold {X : jX} {n : Nat} (hn : 179 ≤ n) {M : jM} {rz : Int} {Mz : jM} (h : f_X10_callTold M = some (rz, Mz)) : jCt X n yX10_callTold cX10_callTold 1 (some .int) 6 [jA 166] M (some (jI rz)) Mz := by
  refine jCt_of (own := RX10) (ls := [jA 166]) (by decide +kernel) rfl hn (Nat.le_of_ble_eq_true rfl) rfl ?_
  intro C hC hR
  unfold f_X10_callTold at h
  refine x_aloadA_n (pc := 0) hC dX10_callTold_0 rfl rfl k_166 (by decide) ?_
  refine x_ldcS (pc := 1) hC dX10_callTold_1 sr_53 (q := 53) rfl ?_
  obtain ⟨v3, M2, e1, h⟩ := jbW_some h
  refine x_cV (pc := 3) hC mv_X10_65 (ok_X10_isWord hn (by decide) e1) rfl (Nat.le_of_ble_eq_true rfl) k_166 rfl (by decide) (jRo0 C) (Nat.le_of_ble_eq_true rfl) dX10_callTold_3 rfl ?_
  refine x_if_eq (tgt := 13) (pc := 6) hC dX10_callTold_6 (by decide) (fun hc => ?_) (fun hc => ?_)
  · replace h := jit_pos hc h
    refine x_aloadA_n (pc := 13) hC dX10_callTold_13 rfl rfl k_166 (by decide) ?_
    refine x_ldcS (pc := 14) hC dX10_callTold_14 sr_54 (q := 54) rfl ?_
    obtain ⟨v6, M5, e4, h⟩ := jbW_some h
    refine x_cV (pc := 16) hC mv_X10_65 (ok_X10_isWord hn (by decide) e4) rfl (Nat.le_of_ble_eq_true rfl) k_166 rfl (by decide) (jRo0 C) (Nat.le_of_ble_eq_true rfl) dX10_callTold_16 rfl ?_
    refine x_if_eq (tgt := 26) (pc := 19) hC dX10_callTold_19 (by decide) (fun hc => ?_) (fun hc => ?_)
    · replace h := jit_pos hc h
      refine x_aloadA_n (pc := 26) hC dX10_callTold_26 rfl rfl k_166 (by decide) ?_
      refine x_ldcS (pc := 27) hC dX10_callTold_27 sr_55 (q := 55) rfl ?_
      obtain ⟨v9, M8, e7, h⟩ := jbW_some h
      refine x_cV (pc := 29) hC mv_X10_65 (ok_X10_isWord hn (by decide) e7) rfl (Nat.le_of_ble_eq_true rfl) k_166 rfl (by decide) (jRo0 C) (Nat.le_of_ble_eq_true rfl) dX10_callTold_29 rfl ?_
      refine x_if_eq (tgt := 39) (pc := 32) hC dX10_callTold_32 (by decide) (fun hc => ?_) (fun hc => ?_)
      · replace h := jit_pos hc h
        refine x_iconst (pc := 39) hC dX10_callTold_39 ?_
        exact x_iret (pc := 40) hC hR dX10_callTold_40 (jr1 h) (jr2 h)
      · replace h := jit_neg hc h
        refine x_iconst (pc := 35) hC dX10_callTold_35 ?_
        refine x_goto (tgt := 40) (pc := 36) hC dX10_callTold_36 (by decide) ?_
        exact x_iret (pc := 40) hC hR dX10_callTold_40 (jr1 h) (jr2 h)
    · replace h := jit_neg hc h
      refine x_iconst (pc := 22) hC dX10_callTold_22 ?_
      refine x_goto (tgt := 40) (pc := 23) hC dX10_callTold_23 (by decide) ?_
      exact x_iret (pc := 40) hC hR dX10_callTold_40 (jr1 h) (jr2 h)
  · replace h := jit_neg hc h
    refine x_iconst (pc := 9) hC dX10_callTold_9 ?_
    refine x_goto (tgt := 40) (pc := 10) hC dX10_callTold_10 (by decide) ?_
    exact x_iret (pc := 40) hC hR dX10_callTold_40 (jr1 h) (jr2 h)

set_option maxHeartbeats 4000000 in
set_option maxRecDepth 20000 in
theorem ok_X10_doLine {X : jX} {n : Nat} (hn : 179 ≤ n) {M : jM} {Mz : jM} (h : f_X10_doLine M = some Mz) : jCt X n yX10_doLine cX10_doLine 6 (none) 7 [jA 166] M (none) Mz := by
  refine jCt_of (own := RX10) (ls := [jA 166, jN, jN, jN, jN, jN]) (by decide +kernel) rfl hn (Nat.le_of_ble_eq_true rfl) rfl ?_
  intro C hC hR
  unfold f_X10_doLine at h
  refine x_aloadA_n (pc := 0) hC dX10_doLine_0 rfl rfl k_166 (by decide) ?_
  refine x_gf (pc := 1) (b := 171) hC fl_X10_87 ft10_11 k_166 (by decide) (off := 5) (by decide +kernel) (by decide) dX10_doLine_1 ?_
  refine x_iconst (pc := 4) hC dX10_doLine_4 ?_
  obtain ⟨hb1, h⟩ := jck_some h
  refine x_iald (pc := 5) hC k_171 (by rw [l_171]; exact hb1) dX10_doLine_5 ?_
  refine x_iconst (pc := 6) hC dX10_doLine_6 ?_
  refine x_isub (pc := 7) hC dX10_doLine_7 ?_
  obtain ⟨l1_2, el1_2, h⟩ := jlet_some h
  refine x_istore_n (ls2 := [jA 166, jI l1_2, jN, jN, jN, jN]) (pc := 8) hC dX10_doLine_8 rfl (by decide) rfl el1_2 rfl ?_
  refine x_aloadA_n (pc := 9) hC dX10_doLine_9 rfl rfl k_166 (by decide) ?_
  refine x_gf (pc := 10) (b := 171) hC fl_X10_87 ft10_11 k_166 (by decide) (off := 5) (by decide +kernel) (by decide) dX10_doLine_10 ?_
  refine x_bipush (pc := 13) hC dX10_doLine_13 rfl ?_
  refine x_iload_n (pc := 15) hC dX10_doLine_15 rfl rfl ?_
  refine x_iadd (pc := 16) hC dX10_doLine_16 ?_
  obtain ⟨hb3, h⟩ := jck_some h
  refine x_iald (pc := 17) hC k_171 (by rw [l_171]; exact hb3) dX10_doLine_17 ?_
  obtain ⟨l2_4, el2_4, h⟩ := jlet_some h
  refine x_istore_n (ls2 := [jA 166, jI l1_2, jI l2_4, jN, jN, jN]) (pc := 18) hC dX10_doLine_18 rfl (by decide) rfl el2_4 rfl ?_
  refine x_iload_n (pc := 19) hC dX10_doLine_19 rfl rfl ?_
  refine x_iload_n (pc := 20) hC dX10_doLine_20 rfl rfl ?_
  obtain ⟨v6, e5, h⟩ := jbR_some h
  refine x_cS (pc := 21) hC ms_X10_199 (ok_X10_tryAt hn e5) rfl (Nat.le_of_ble_eq_true rfl) (jRo0 C) (Nat.le_of_ble_eq_true rfl) dX10_doLine_21 rfl ?_
  refine x_istore_n (ls2 := [jA 166, jI l1_2, jI l2_4, jI v6, jN, jN]) (pc := 24) hC dX10_doLine_24 rfl (by decide) rfl rfl rfl ?_
  refine x_iconst (pc := 25) hC dX10_doLine_25 ?_
  refine x_istore (ls2 := [jA 166, jI l1_2, jI l2_4, jI v6, jI 1, jN]) (pc := 26) hC dX10_doLine_26 (by decide) rfl rfl rfl ?_
  refine x_aloadA_n (pc := 28) hC dX10_doLine_28 rfl rfl k_166 (by decide) ?_
  refine x_gf (pc := 29) (b := 171) hC fl_X10_87 ft10_11 k_166 (by decide) (off := 5) (by decide +kernel) (by decide) dX10_doLine_29 ?_
  refine x_sipush (pc := 32) hC dX10_doLine_32 rfl ?_
  refine x_iconst (pc := 35) hC dX10_doLine_35 ?_
  refine x_iload_n (pc := 36) hC dX10_doLine_36 rfl rfl ?_
  refine x_imul (pc := 37) hC dX10_doLine_37 ?_
  refine x_iadd (pc := 38) hC dX10_doLine_38 ?_
  refine x_aloadA_n (pc := 39) hC dX10_doLine_39 rfl rfl k_166 (by decide) ?_
  refine x_iconst (pc := 40) hC dX10_doLine_40 ?_
  obtain ⟨v9, M8, e7, h⟩ := jbW_some h
  refine x_cV (pc := 41) hC mv_X10_202 (ok_X10_elementTold hn e7) rfl (Nat.le_of_ble_eq_true rfl) k_166 rfl (by decide) (jRo0 C) (Nat.le_of_ble_eq_true rfl) dX10_doLine_41 rfl ?_
  obtain ⟨hb10, h⟩ := jck_some h
  obtain ⟨M11, eM11, h⟩ := jlet_some h
  refine x_iast (pc := 44) hC k_171 (by rw [l_171]; exact hb10) dX10_doLine_44 eM11 ?_
  refine jlp2_ind (P := fun (l4_12 : Int) (M13 : jM) => jG C X n 6 0 0 45 [jA 166, jI l1_2, jI l2_4, jI v6, jI l4_12, jN] [] M13) ?_ _ _ _ h
  intro self14 l4_12 M13 Hself14 h
  refine x_aloadA_n (pc := 45) hC dX10_doLine_45 rfl rfl k_166 (by decide) ?_
  refine x_bipush (pc := 46) hC dX10_doLine_46 rfl ?_
  obtain ⟨v17, M16, e15, h⟩ := jbW_some h
  refine x_cV (pc := 48) hC mv_X10_42 (ok_X10_isSign hn e15) rfl (Nat.le_of_ble_eq_true rfl) k_166 rfl (by decide) (jRo0 C) (Nat.le_of_ble_eq_true rfl) dX10_doLine_48 rfl ?_
  refine x_if_eq (tgt := 128) (pc := 51) hC dX10_doLine_51 (by decide) (fun hc => ?_) (fun hc => ?_)
  · replace h := jit_pos hc h
    refine x_aloadA_n (pc := 128) hC dX10_doLine_128 rfl rfl k_166 (by decide) ?_
    refine x_gf (pc := 129) (b := 171) hC fl_X10_87 ft10_11 k_166 (by decide) (off := 5) (by decide +kernel) (by decide) dX10_doLine_129 ?_
    refine x_sipush (pc := 132) hC dX10_doLine_132 rfl ?_
    refine x_iload_n (pc := 135) hC dX10_doLine_135 rfl rfl ?_
    refine x_iadd (pc := 136) hC dX10_doLine_136 ?_
    refine x_iload (pc := 137) hC dX10_doLine_137 rfl ?_
    obtain ⟨hb18, h⟩ := jck_some h
    obtain ⟨M19, eM19, h⟩ := jlet_some h
    refine x_iast (pc := 139) hC k_171 (by rw [l_171]; exact hb18) dX10_doLine_139 eM19 ?_
    refine x_aloadA_n (pc := 140) hC dX10_doLine_140 rfl rfl k_166 (by decide) ?_
    refine x_gf (pc := 141) (b := 171) hC fl_X10_87 ft10_11 k_166 (by decide) (off := 5) (by decide +kernel) (by decide) dX10_doLine_141 ?_
    refine x_bipush (pc := 144) hC dX10_doLine_144 rfl ?_
    refine x_iload_n (pc := 146) hC dX10_doLine_146 rfl rfl ?_
    refine x_iadd (pc := 147) hC dX10_doLine_147 ?_
    refine x_aloadA_n (pc := 148) hC dX10_doLine_148 rfl rfl k_166 (by decide) ?_
    refine x_iload_n (pc := 149) hC dX10_doLine_149 rfl rfl ?_
    obtain ⟨k21, Hk21, h⟩ := jk_some (P := fun k21 => ∀ (s3_20 : Int), k21 s3_20 = some Mz → jG C X n 6 0 0 168 [jA 166, jI l1_2, jI l2_4, jI v6, jI l4_12, jN] [jI s3_20, jA 166, jI (122 + v6), jA 171] M19) h (by
      intro s3_20 h
      refine x_sipush (pc := 168) hC dX10_doLine_168 rfl ?_
      obtain ⟨v24, M23, e22, h⟩ := jbW_some h
      refine x_cV (pc := 171) hC mv_X10_161 (ok_X10_number hn e22) rfl (Nat.le_of_ble_eq_true rfl) k_166 rfl (by decide) (jRo0 C) (Nat.le_of_ble_eq_true rfl) dX10_doLine_171 rfl ?_
      obtain ⟨hb25, h⟩ := jck_some h
      obtain ⟨M26, eM26, h⟩ := jlet_some h
      refine x_iast (pc := 174) hC k_171 (by rw [l_171]; exact hb25) dX10_doLine_174 eM26 ?_
      refine x_aloadA_n (pc := 175) hC dX10_doLine_175 rfl rfl k_166 (by decide) ?_
      refine x_iconst (pc := 176) hC dX10_doLine_176 ?_
      refine x_bipush (pc := 177) hC dX10_doLine_177 rfl ?_
      refine x_iload_n (pc := 179) hC dX10_doLine_179 rfl rfl ?_
      refine x_imul (pc := 180) hC dX10_doLine_180 ?_
      refine x_iadd (pc := 181) hC dX10_doLine_181 ?_
      refine x_iconst (pc := 182) hC dX10_doLine_182 ?_
      obtain ⟨M28, e27, h⟩ := jbV_some h
      refine x_cV (pc := 183) hC mv_X10_206 (ok_X10_letters hn e27) rfl (Nat.le_of_ble_eq_true rfl) k_166 rfl (by decide) (jRo0 C) (Nat.le_of_ble_eq_true rfl) dX10_doLine_183 rfl ?_
      refine x_aloadA_n (pc := 186) hC dX10_doLine_186 rfl rfl k_166 (by decide) ?_
      refine x_gf (pc := 187) (b := 172) hC fl_X10_90 ft10_12 k_166 (by decide) (off := 6) (by decide +kernel) (by decide) dX10_doLine_187 ?_
      refine x_sipush (pc := 190) hC dX10_doLine_190 rfl ?_
      refine x_iload_n (pc := 193) hC dX10_doLine_193 rfl rfl ?_
      refine x_iadd (pc := 194) hC dX10_doLine_194 ?_
      refine x_iconst (pc := 195) hC dX10_doLine_195 ?_
      obtain ⟨hb29, h⟩ := jck_some h
      obtain ⟨M30, eM30, h⟩ := jlet_some h
      refine x_iast (pc := 196) hC k_172 (by rw [l_172]; exact hb29) dX10_doLine_196 eM30 ?_
      refine x_aloadA_n (pc := 197) hC dX10_doLine_197 rfl rfl k_166 (by decide) ?_
      obtain ⟨v33, M32, e31, h⟩ := jbW_some h
      refine x_cV (pc := 198) hC mv_X10_209 (ok_X10_callTold hn e31) rfl (Nat.le_of_ble_eq_true rfl) k_166 rfl (by decide) (jRo0 C) (Nat.le_of_ble_eq_true rfl) dX10_doLine_198 rfl ?_
      refine x_istore (ls2 := [jA 166, jI l1_2, jI l2_4, jI v6, jI l4_12, jI v33]) (pc := 201) hC dX10_doLine_201 (by decide) rfl rfl rfl ?_
      refine jlp2_ind (P := fun (l5_34 : Int) (M35 : jM) => jG C X n 6 0 0 203 [jA 166, jI l1_2, jI l2_4, jI v6, jI l4_12, jI l5_34] [] M35) ?_ _ _ _ h
      intro self36 l5_34 M35 Hself36 h
      refine x_iload (pc := 203) hC dX10_doLine_203 rfl ?_
      refine x_iconst (pc := 205) hC dX10_doLine_205 ?_
      refine x_icmp_eq (tgt := 271) (pc := 206) hC dX10_doLine_206 (by decide) (fun hc => ?_) (fun hc => ?_)
      · replace h := jit_pos hc h
        refine x_aloadA_n (pc := 271) hC dX10_doLine_271 rfl rfl k_166 (by decide) ?_
        refine x_gf (pc := 272) (b := 171) hC fl_X10_87 ft10_11 k_166 (by decide) (off := 5) (by decide +kernel) (by decide) dX10_doLine_272 ?_
        refine x_bipush (pc := 275) hC dX10_doLine_275 rfl ?_
        refine x_iload_n (pc := 277) hC dX10_doLine_277 rfl rfl ?_
        refine x_iadd (pc := 278) hC dX10_doLine_278 ?_
        refine x_dup2 (pc := 279) hC dX10_doLine_279 (show (1 : Nat) ≠ 3 by decide) (show (2 : Nat) ≠ 3 by decide) ?_
        obtain ⟨hb37, h⟩ := jck_some h
        refine x_iald (pc := 280) hC k_171 (by rw [l_171]; exact hb37) dX10_doLine_280 ?_
        refine x_iconst (pc := 281) hC dX10_doLine_281 ?_
        refine x_iadd (pc := 282) hC dX10_doLine_282 ?_
        obtain ⟨hb38, h⟩ := jck_some h
        obtain ⟨M39, eM39, h⟩ := jlet_some h
        refine x_iast (pc := 283) hC k_171 (by rw [l_171]; exact hb38) dX10_doLine_283 eM39 ?_
        refine x_aloadA_n (pc := 284) hC dX10_doLine_284 rfl rfl k_166 (by decide) ?_
        refine x_iconst (pc := 285) hC dX10_doLine_285 ?_
        obtain ⟨M40, eM40, h⟩ := jlet_some h
        refine x_pz (pc := 286) (ji := 14) hC fl_X10_215 rfl ft10_14 (by decide) k_166 dX10_doLine_286 eM40 ?_
        exact x_vret (pc := 289) hC hR dX10_doLine_289 (jrR h)
      · replace h := jit_neg hc h
        refine x_aloadA_n (pc := 209) hC dX10_doLine_209 rfl rfl k_166 (by decide) ?_
        refine x_gf (pc := 210) (b := 172) hC fl_X10_90 ft10_12 k_166 (by decide) (off := 6) (by decide +kernel) (by decide) dX10_doLine_210 ?_
        refine x_sipush (pc := 213) hC dX10_doLine_213 rfl ?_
        refine x_iload_n (pc := 216) hC dX10_doLine_216 rfl rfl ?_
        refine x_iadd (pc := 217) hC dX10_doLine_217 ?_
        obtain ⟨hb41, h⟩ := jck_some h
        refine x_iald (pc := 218) hC k_172 (by rw [l_172]; exact hb41) dX10_doLine_218 ?_
        refine x_iload (pc := 219) hC dX10_doLine_219 rfl ?_
        obtain ⟨v43, e42, h⟩ := jbR_some h
        refine x_cS (pc := 221) hC ms_X10_212 (ok_X10_isIn hn e42) rfl (Nat.le_of_ble_eq_true rfl) (jRo0 C) (Nat.le_of_ble_eq_true rfl) dX10_doLine_221 rfl ?_
        refine x_if_eq (tgt := 232) (pc := 224) hC dX10_doLine_224 (by decide) (fun hc => ?_) (fun hc => ?_)
        · replace h := jit_pos hc h
          refine x_aloadA_n (pc := 232) hC dX10_doLine_232 rfl rfl k_166 (by decide) ?_
          refine x_gf (pc := 233) (b := 172) hC fl_X10_90 ft10_12 k_166 (by decide) (off := 6) (by decide +kernel) (by decide) dX10_doLine_233 ?_
          refine x_sipush (pc := 236) hC dX10_doLine_236 rfl ?_
          refine x_iload_n (pc := 239) hC dX10_doLine_239 rfl rfl ?_
          refine x_iadd (pc := 240) hC dX10_doLine_240 ?_
          refine x_dup2 (pc := 241) hC dX10_doLine_241 (show (1 : Nat) ≠ 3 by decide) (show (2 : Nat) ≠ 3 by decide) ?_
          obtain ⟨hb44, h⟩ := jck_some h
          refine x_iald (pc := 242) hC k_172 (by rw [l_172]; exact hb44) dX10_doLine_242 ?_
          refine x_iconst (pc := 243) hC dX10_doLine_243 ?_
          refine x_iload (pc := 244) hC dX10_doLine_244 rfl ?_
          refine x_ishl (pc := 246) hC dX10_doLine_246 ?_
          refine x_ior (pc := 247) hC dX10_doLine_247 ?_
          obtain ⟨hb45, h⟩ := jck_some h
          obtain ⟨M46, eM46, h⟩ := jlet_some h
          refine x_iast (pc := 248) hC k_172 (by rw [l_172]; exact hb45) dX10_doLine_248 eM46 ?_
          refine x_aloadA_n (pc := 249) hC dX10_doLine_249 rfl rfl k_166 (by decide) ?_
          refine x_dup (pc := 250) hC dX10_doLine_250 (show (2 : Nat) ≠ 3 by decide) ?_
          refine x_gi (pc := 251) (ji := 4) hC fl_X10_21 rfl fn10_4 k_166 dX10_doLine_251 ?_
          refine x_aloadA_n (pc := 254) hC dX10_doLine_254 rfl rfl k_166 (by decide) ?_
          obtain ⟨v49, M48, e47, h⟩ := jbW_some h
          refine x_cV (pc := 255) hC mv_X10_52 (ok_X10_wordMany hn e47) rfl (Nat.le_of_ble_eq_true rfl) k_166 rfl (by decide) (jRo0 C) (Nat.le_of_ble_eq_true rfl) dX10_doLine_255 rfl ?_
          refine x_iadd (pc := 258) hC dX10_doLine_258 ?_
          obtain ⟨M50, eM50, h⟩ := jlet_some h
          refine x_pi (pc := 259) (ji := 4) hC fl_X10_21 rfl ft10_4 k_166 dX10_doLine_259 eM50 ?_
          refine x_aloadA_n (pc := 262) hC dX10_doLine_262 rfl rfl k_166 (by decide) ?_
          obtain ⟨v53, M52, e51, h⟩ := jbW_some h
          refine x_cV (pc := 263) hC mv_X10_209 (ok_X10_callTold hn e51) rfl (Nat.le_of_ble_eq_true rfl) k_166 rfl (by decide) (jRo0 C) (Nat.le_of_ble_eq_true rfl) dX10_doLine_263 rfl ?_
          refine x_istore (ls2 := [jA 166, jI l1_2, jI l2_4, jI v6, jI l4_12, jI v53]) (pc := 266) hC dX10_doLine_266 (by decide) rfl rfl rfl ?_
          refine x_goto (tgt := 203) (pc := 268) hC dX10_doLine_268 (by decide) ?_
          exact Hself36 _ _ h
        · replace h := jit_neg hc h
          refine x_aloadA_n (pc := 227) hC dX10_doLine_227 rfl rfl k_166 (by decide) ?_
          obtain ⟨M55, e54, h⟩ := jbV_some h
          refine x_cV (pc := 228) hC mv_X10_49 (ok_X10_fails hn e54) rfl (Nat.le_of_ble_eq_true rfl) k_166 rfl (by decide) (jRo0 C) (Nat.le_of_ble_eq_true rfl) dX10_doLine_228 rfl ?_
          exact x_vret (pc := 231) hC hR dX10_doLine_231 (jrR h))
    refine x_if_ne (tgt := 157) (pc := 150) hC dX10_doLine_150 (by decide) (fun hc => ?_) (fun hc => ?_)
    · replace h := jit_neg hc h
      refine x_aloadA_n (pc := 157) hC dX10_doLine_157 rfl rfl k_166 (by decide) ?_
      refine x_gf (pc := 158) (b := 171) hC fl_X10_87 ft10_11 k_166 (by decide) (off := 5) (by decide +kernel) (by decide) dX10_doLine_158 ?_
      refine x_bipush (pc := 161) hC dX10_doLine_161 rfl ?_
      refine x_iload_n (pc := 163) hC dX10_doLine_163 rfl rfl ?_
      refine x_iadd (pc := 164) hC dX10_doLine_164 ?_
      refine x_iconst (pc := 165) hC dX10_doLine_165 ?_
      refine x_isub (pc := 166) hC dX10_doLine_166 ?_
      obtain ⟨hb56, h⟩ := jck_some h
      refine x_iald (pc := 167) hC k_171 (by rw [l_171]; exact hb56) dX10_doLine_167 ?_
      exact Hk21 _ h
    · replace h := jit_pos hc h
      refine x_iconst (pc := 153) hC dX10_doLine_153 ?_
      refine x_goto (tgt := 168) (pc := 154) hC dX10_doLine_154 (by decide) ?_
      exact Hk21 _ h
  · replace h := jit_neg hc h
    refine x_iload (pc := 54) hC dX10_doLine_54 rfl ?_
    refine x_iconst (pc := 56) hC dX10_doLine_56 ?_
    obtain ⟨k57, Hk57, h⟩ := jk_some (P := fun k57 => k57 = some Mz → jG C X n 6 0 0 87 [jA 166, jI l1_2, jI l2_4, jI v6, jI l4_12, jN] [] M16) h (by
      intro h
      refine x_aloadA_n (pc := 87) hC dX10_doLine_87 rfl rfl k_166 (by decide) ?_
      obtain ⟨M59, e58, h⟩ := jbV_some h
      refine x_cV (pc := 88) hC mv_X10_49 (ok_X10_fails hn e58) rfl (Nat.le_of_ble_eq_true rfl) k_166 rfl (by decide) (jRo0 C) (Nat.le_of_ble_eq_true rfl) dX10_doLine_88 rfl ?_
      exact x_vret (pc := 91) hC hR dX10_doLine_91 (jrR h))
    refine x_icmp_eq (tgt := 87) (pc := 57) hC dX10_doLine_57 (by decide) (fun hc => ?_) (fun hc => ?_)
    · replace h := jit_pos hc h
      exact Hk57 h
    · replace h := jit_neg hc h
      refine x_aloadA_n (pc := 60) hC dX10_doLine_60 rfl rfl k_166 (by decide) ?_
      refine x_gf (pc := 61) (b := 171) hC fl_X10_87 ft10_11 k_166 (by decide) (off := 5) (by decide +kernel) (by decide) dX10_doLine_61 ?_
      refine x_iconst (pc := 64) hC dX10_doLine_64 ?_
      refine x_aloadA_n (pc := 65) hC dX10_doLine_65 rfl rfl k_166 (by decide) ?_
      refine x_gf (pc := 66) (b := 171) hC fl_X10_87 ft10_11 k_166 (by decide) (off := 5) (by decide +kernel) (by decide) dX10_doLine_66 ?_
      refine x_sipush (pc := 69) hC dX10_doLine_69 rfl ?_
      refine x_iconst (pc := 72) hC dX10_doLine_72 ?_
      refine x_iload_n (pc := 73) hC dX10_doLine_73 rfl rfl ?_
      refine x_imul (pc := 74) hC dX10_doLine_74 ?_
      refine x_iadd (pc := 75) hC dX10_doLine_75 ?_
      refine x_iload (pc := 76) hC dX10_doLine_76 rfl ?_
      refine x_iadd (pc := 78) hC dX10_doLine_78 ?_
      refine x_iconst (pc := 79) hC dX10_doLine_79 ?_
      refine x_isub (pc := 80) hC dX10_doLine_80 ?_
      obtain ⟨hb60, h⟩ := jck_some h
      refine x_iald (pc := 81) hC k_171 (by rw [l_171]; exact hb60) dX10_doLine_81 ?_
      refine x_iadd (pc := 82) hC dX10_doLine_82 ?_
      obtain ⟨hb61, h⟩ := jck_some h
      refine x_iald (pc := 83) hC k_171 (by rw [l_171]; exact hb61) dX10_doLine_83 ?_
      refine x_if_eq (tgt := 92) (pc := 84) hC dX10_doLine_84 (by decide) (fun hc => ?_) (fun hc => ?_)
      · replace h := jit_pos hc h
        refine x_aloadA_n (pc := 92) hC dX10_doLine_92 rfl rfl k_166 (by decide) ?_
        refine x_dup (pc := 93) hC dX10_doLine_93 (show (2 : Nat) ≠ 3 by decide) ?_
        refine x_gi (pc := 94) (ji := 4) hC fl_X10_21 rfl fn10_4 k_166 dX10_doLine_94 ?_
        refine x_iconst (pc := 97) hC dX10_doLine_97 ?_
        refine x_iadd (pc := 98) hC dX10_doLine_98 ?_
        obtain ⟨M62, eM62, h⟩ := jlet_some h
        refine x_pi (pc := 99) (ji := 4) hC fl_X10_21 rfl ft10_4 k_166 dX10_doLine_99 eM62 ?_
        refine x_aloadA_n (pc := 102) hC dX10_doLine_102 rfl rfl k_166 (by decide) ?_
        refine x_gf (pc := 103) (b := 171) hC fl_X10_87 ft10_11 k_166 (by decide) (off := 5) (by decide +kernel) (by decide) dX10_doLine_103 ?_
        refine x_sipush (pc := 106) hC dX10_doLine_106 rfl ?_
        refine x_iconst (pc := 109) hC dX10_doLine_109 ?_
        refine x_iload_n (pc := 110) hC dX10_doLine_110 rfl rfl ?_
        refine x_imul (pc := 111) hC dX10_doLine_111 ?_
        refine x_iadd (pc := 112) hC dX10_doLine_112 ?_
        refine x_iload (pc := 113) hC dX10_doLine_113 rfl ?_
        refine x_iadd (pc := 115) hC dX10_doLine_115 ?_
        refine x_aloadA_n (pc := 116) hC dX10_doLine_116 rfl rfl k_166 (by decide) ?_
        refine x_iconst (pc := 117) hC dX10_doLine_117 ?_
        obtain ⟨v65, M64, e63, h⟩ := jbW_some h
        refine x_cV (pc := 118) hC mv_X10_202 (ok_X10_elementTold hn e63) rfl (Nat.le_of_ble_eq_true rfl) k_166 rfl (by decide) (jRo0 C) (Nat.le_of_ble_eq_true rfl) dX10_doLine_118 rfl ?_
        obtain ⟨hb66, h⟩ := jck_some h
        obtain ⟨M67, eM67, h⟩ := jlet_some h
        refine x_iast (pc := 121) hC k_171 (by rw [l_171]; exact hb66) dX10_doLine_121 eM67 ?_
        obtain ⟨l4_68, el4_68, h⟩ := jlet_some h
        refine x_iinc (ls2 := [jA 166, jI l1_2, jI l2_4, jI v6, jI l4_68, jN]) (pc := 122) hC dX10_doLine_122 rfl (by decide) rfl el4_68 rfl ?_
        refine x_goto (tgt := 45) (pc := 125) hC dX10_doLine_125 (by decide) ?_
        exact Hself14 _ _ h
      · replace h := jit_neg hc h
        exact Hk57 h

set_option maxHeartbeats 4000000 in
set_option maxRecDepth 20000 in
theorem ok_X10_begins {X : jX} {n : Nat} (hn : 179 ≤ n) {l1 : Int} {l2 : Int} {M : jM} {rz : Int} {Mz : jM} (hl1 : 0 ≤ l1 ∧ l1 < 58) (h : f_X10_begins l1 l2 M = some (rz, Mz)) : jCt X n yX10_begins cX10_begins 3 (some .boolean) 6 [jA 166, jS l1, jI l2] M (some (jI rz)) Mz := by
  refine jCt_of (own := RX10) (ls := [jA 166, jS l1, jI l2]) (by decide +kernel) rfl hn (Nat.le_of_ble_eq_true rfl) rfl ?_
  intro C hC hR
  unfold f_X10_begins at h
  refine x_aloadA_n (pc := 0) hC dX10_begins_0 rfl rfl k_166 (by decide) ?_
  refine x_aload_n (pc := 1) hC dX10_begins_1 rfl rfl (show (6 : Nat) ≠ 0 by decide) rfl ?_
  obtain ⟨v3, M2, e1, h⟩ := jbW_some h
  refine x_cV (pc := 2) hC mv_X10_65 (ok_X10_isWord hn hl1 e1) rfl (Nat.le_of_ble_eq_true rfl) k_166 rfl (by decide) (jRo0 C) (Nat.le_of_ble_eq_true rfl) dX10_begins_2 rfl ?_
  refine x_if_ne (tgt := 10) (pc := 5) hC dX10_begins_5 (by decide) (fun hc => ?_) (fun hc => ?_)
  · replace h := jit_neg hc h
    refine x_iload_n (pc := 10) hC dX10_begins_10 rfl rfl ?_
    refine x_if_ne (tgt := 20) (pc := 11) hC dX10_begins_11 (by decide) (fun hc => ?_) (fun hc => ?_)
    · replace h := jit_neg hc h
      refine x_aloadA_n (pc := 20) hC dX10_begins_20 rfl rfl k_166 (by decide) ?_
      refine x_dup (pc := 21) hC dX10_begins_21 (show (2 : Nat) ≠ 3 by decide) ?_
      refine x_gi (pc := 22) (ji := 4) hC fl_X10_21 rfl fn10_4 k_166 dX10_begins_22 ?_
      refine x_aload_n (pc := 25) hC dX10_begins_25 rfl rfl (show (6 : Nat) ≠ 0 by decide) rfl ?_
      refine x_slen (pc := 26) hC mv_X10_56 (Nat.le_of_ble_eq_true rfl) (jRo0 C) (Nat.le_of_ble_eq_true rfl) hl1 dX10_begins_26 ?_
      refine x_iadd (pc := 29) hC dX10_begins_29 ?_
      obtain ⟨M4, eM4, h⟩ := jlet_some h
      refine x_pi (pc := 30) (ji := 4) hC fl_X10_21 rfl ft10_4 k_166 dX10_begins_30 eM4 ?_
      refine x_iconst (pc := 33) hC dX10_begins_33 ?_
      exact x_zret (pc := 34) hC hR dX10_begins_34 (Or.inr jw1) (jr1 h) (jr2 h)
    · replace h := jit_pos hc h
      refine x_aloadA_n (pc := 14) hC dX10_begins_14 rfl rfl k_166 (by decide) ?_
      obtain ⟨M6, e5, h⟩ := jbV_some h
      refine x_cV (pc := 15) hC mv_X10_49 (ok_X10_fails hn e5) rfl (Nat.le_of_ble_eq_true rfl) k_166 rfl (by decide) (jRo0 C) (Nat.le_of_ble_eq_true rfl) dX10_begins_15 rfl ?_
      refine x_iconst (pc := 18) hC dX10_begins_18 ?_
      exact x_zret (pc := 19) hC hR dX10_begins_19 (Or.inr jw1) (jr1 h) (jr2 h)
  · replace h := jit_pos hc h
    refine x_iconst (pc := 8) hC dX10_begins_8 ?_
    exact x_zret (pc := 9) hC hR dX10_begins_9 (Or.inl jw0) (jr1 h) (jr2 h)

set_option maxHeartbeats 4000000 in
set_option maxRecDepth 20000 in
theorem ok_X10_all {X : jX} {n : Nat} (hn : 179 ≤ n) {M : jM} {Mz : jM} (h : f_X10_all M = some Mz) : jCt X n yX10_all cX10_all 1 (none) 0 [jA 166] M (none) Mz := by
  refine jCt_of (own := RX10) (ls := [jA 166]) (by decide +kernel) rfl hn (Nat.le_of_ble_eq_true rfl) rfl ?_
  intro C hC hR
  unfold f_X10_all at h
  refine x_aloadA_n (pc := 0) hC dX10_all_0 rfl rfl k_166 (by decide) ?_
  refine x_iconst (pc := 1) hC dX10_all_1 ?_
  refine x_aloadA_n (pc := 2) hC dX10_all_2 rfl rfl k_166 (by decide) ?_
  refine x_gf (pc := 3) (b := 169) hC fl_X10_81 ft10_9 k_166 (by decide) (off := 3) (by decide +kernel) (by decide) dX10_all_3 ?_
  refine x_iconst (pc := 6) hC dX10_all_6 ?_
  obtain ⟨hb1, h⟩ := jck_some h
  refine x_iald (pc := 7) hC k_169 (by rw [l_169]; exact hb1) dX10_all_7 ?_
  refine x_ishl (pc := 8) hC dX10_all_8 ?_
  refine x_iconst (pc := 9) hC dX10_all_9 ?_
  refine x_isub (pc := 10) hC dX10_all_10 ?_
  obtain ⟨M2, eM2, h⟩ := jlet_some h
  refine x_pi (pc := 11) (ji := 15) hC fl_X10_275 rfl ft10_15 k_166 dX10_all_11 eM2 ?_
  refine x_aloadA_n (pc := 14) hC dX10_all_14 rfl rfl k_166 (by decide) ?_
  refine x_sipush (pc := 15) hC dX10_all_15 rfl ?_
  obtain ⟨M3, eM3, h⟩ := jlet_some h
  refine x_pi (pc := 18) (ji := 16) hC fl_X10_278 rfl ft10_16 k_166 dX10_all_18 eM3 ?_
  refine x_aloadA_n (pc := 21) hC dX10_all_21 rfl rfl k_166 (by decide) ?_
  refine x_iconst (pc := 22) hC dX10_all_22 ?_
  obtain ⟨M4, eM4, h⟩ := jlet_some h
  refine x_pi (pc := 23) (ji := 17) hC fl_X10_281 rfl ft10_17 k_166 dX10_all_23 eM4 ?_
  refine x_aloadA_n (pc := 26) hC dX10_all_26 rfl rfl k_166 (by decide) ?_
  refine x_iconst (pc := 27) hC dX10_all_27 ?_
  obtain ⟨M5, eM5, h⟩ := jlet_some h
  refine x_pi (pc := 28) (ji := 19) hC fl_X10_284 rfl ft10_19 k_166 dX10_all_28 eM5 ?_
  refine x_aloadA_n (pc := 31) hC dX10_all_31 rfl rfl k_166 (by decide) ?_
  refine x_iconst (pc := 32) hC dX10_all_32 ?_
  obtain ⟨M6, eM6, h⟩ := jlet_some h
  refine x_pz (pc := 33) (ji := 22) hC fl_X10_287 rfl ft10_22 (by decide) k_166 dX10_all_33 eM6 ?_
  exact x_vret (pc := 36) hC hR dX10_all_36 (jrR h)

set_option maxHeartbeats 4000000 in
set_option maxRecDepth 20000 in
theorem ok_X10_is {X : jX} {n : Nat} (hn : 179 ≤ n) {l1 : Int} {l2 : Int} {M : jM} {rz : Int} (h : f_X10_is l1 l2 M = some rz) : jCt X n yX10_is cX10_is 3 (some .boolean) 1 [jA 166, jI l1, jI l2] M (some (jI rz)) M := by
  refine jCt_of (own := RX10) (ls := [jA 166, jI l1, jI l2]) (by decide +kernel) rfl hn (Nat.le_of_ble_eq_true rfl) rfl ?_
  intro C hC hR
  unfold f_X10_is at h
  refine x_iload_n (pc := 0) hC dX10_is_0 rfl rfl ?_
  refine x_iconst (pc := 1) hC dX10_is_1 ?_
  refine x_aloadA_n (pc := 2) hC dX10_is_2 rfl rfl k_166 (by decide) ?_
  refine x_gf (pc := 3) (b := 169) hC fl_X10_81 ft10_9 k_166 (by decide) (off := 3) (by decide +kernel) (by decide) dX10_is_3 ?_
  refine x_bipush (pc := 6) hC dX10_is_6 rfl ?_
  refine x_iload_n (pc := 8) hC dX10_is_8 rfl rfl ?_
  refine x_iadd (pc := 9) hC dX10_is_9 ?_
  obtain ⟨hb1, h⟩ := jck_some h
  refine x_iald (pc := 10) hC k_169 (by rw [l_169]; exact hb1) dX10_is_10 ?_
  refine x_iconst (pc := 11) hC dX10_is_11 ?_
  refine x_isub (pc := 12) hC dX10_is_12 ?_
  obtain ⟨v3, e2, h⟩ := jbR_some h
  refine x_cS (pc := 13) hC ms_X10_69 (ok_X10_in hn e2) rfl (Nat.le_of_ble_eq_true rfl) (jRo0 C) (Nat.le_of_ble_eq_true rfl) dX10_is_13 rfl ?_
  refine x_if_eq (tgt := 60) (pc := 16) hC dX10_is_16 (by decide) (fun hc => ?_) (fun hc => ?_)
  · replace h := jit_pos hc h
    refine x_iconst (pc := 60) hC dX10_is_60 ?_
    exact x_zret (pc := 61) hC hR dX10_is_61 (Or.inl jw0) (jrR h) rfl
  · replace h := jit_neg hc h
    refine x_aloadA_n (pc := 19) hC dX10_is_19 rfl rfl k_166 (by decide) ?_
    refine x_gf (pc := 20) (b := 170) hC fl_X10_84 ft10_10 k_166 (by decide) (off := 4) (by decide +kernel) (by decide) dX10_is_20 ?_
    refine x_sipush (pc := 23) hC dX10_is_23 rfl ?_
    refine x_iload_n (pc := 26) hC dX10_is_26 rfl rfl ?_
    refine x_iload_n (pc := 27) hC dX10_is_27 rfl rfl ?_
    obtain ⟨v5, e4, h⟩ := jbR_some h
    refine x_cS (pc := 28) hC ms_X10_199 (ok_X10_tryAt hn e4) rfl (Nat.le_of_ble_eq_true rfl) (jRo0 C) (Nat.le_of_ble_eq_true rfl) dX10_is_28 rfl ?_
    refine x_iadd (pc := 31) hC dX10_is_31 ?_
    obtain ⟨hb6, h⟩ := jck_some h
    refine x_iald (pc := 32) hC k_170 (by rw [l_170]; exact hb6) dX10_is_32 ?_
    refine x_if_ne (tgt := 60) (pc := 33) hC dX10_is_33 (by decide) (fun hc => ?_) (fun hc => ?_)
    · replace h := jit_neg hc h
      refine x_iconst (pc := 60) hC dX10_is_60 ?_
      exact x_zret (pc := 61) hC hR dX10_is_61 (Or.inl jw0) (jrR h) rfl
    · replace h := jit_pos hc h
      refine x_aloadA_n (pc := 36) hC dX10_is_36 rfl rfl k_166 (by decide) ?_
      refine x_gf (pc := 37) (b := 169) hC fl_X10_81 ft10_9 k_166 (by decide) (off := 3) (by decide +kernel) (by decide) dX10_is_37 ?_
      refine x_bipush (pc := 40) hC dX10_is_40 rfl ?_
      refine x_iload_n (pc := 42) hC dX10_is_42 rfl rfl ?_
      refine x_iload_n (pc := 43) hC dX10_is_43 rfl rfl ?_
      obtain ⟨v8, e7, h⟩ := jbR_some h
      refine x_cS (pc := 44) hC ms_X10_199 (ok_X10_tryAt hn e7) rfl (Nat.le_of_ble_eq_true rfl) (jRo0 C) (Nat.le_of_ble_eq_true rfl) dX10_is_44 rfl ?_
      refine x_iadd (pc := 47) hC dX10_is_47 ?_
      obtain ⟨hb9, h⟩ := jck_some h
      refine x_iald (pc := 48) hC k_169 (by rw [l_169]; exact hb9) dX10_is_48 ?_
      refine x_aloadA_n (pc := 49) hC dX10_is_49 rfl rfl k_166 (by decide) ?_
      refine x_gi (pc := 50) (ji := 16) hC fl_X10_278 rfl fn10_16 k_166 dX10_is_50 ?_
      refine x_icmp_gt (tgt := 60) (pc := 53) hC dX10_is_53 (by decide) (fun hc => ?_) (fun hc => ?_)
      · replace h := jit_pos hc h
        refine x_iconst (pc := 60) hC dX10_is_60 ?_
        exact x_zret (pc := 61) hC hR dX10_is_61 (Or.inl jw0) (jrR h) rfl
      · replace h := jit_neg hc h
        refine x_iconst (pc := 56) hC dX10_is_56 ?_
        refine x_goto (tgt := 61) (pc := 57) hC dX10_is_57 (by decide) ?_
        exact x_zret (pc := 61) hC hR dX10_is_61 (Or.inr jw1) (jrR h) rfl

set_option maxHeartbeats 4000000 in
set_option maxRecDepth 20000 in
theorem ok_X10_elementOf {X : jX} {n : Nat} (hn : 179 ≤ n) {l1 : Int} {l2 : Int} {l3 : Int} {M : jM} {rz : Int} (h : f_X10_elementOf l1 l2 l3 M = some rz) : jCt X n yX10_elementOf cX10_elementOf 4 (some .int) 1 [jA 166, jI l1, jI l2, jI l3] M (some (jI rz)) M := by
  refine jCt_of (own := RX10) (ls := [jA 166, jI l1, jI l2, jI l3]) (by decide +kernel) rfl hn (Nat.le_of_ble_eq_true rfl) rfl ?_
  intro C hC hR
  unfold f_X10_elementOf at h
  refine x_aloadA_n (pc := 0) hC dX10_elementOf_0 rfl rfl k_166 (by decide) ?_
  refine x_gf (pc := 1) (b := 169) hC fl_X10_81 ft10_9 k_166 (by decide) (off := 3) (by decide +kernel) (by decide) dX10_elementOf_1 ?_
  refine x_sipush (pc := 4) hC dX10_elementOf_4 rfl ?_
  refine x_iconst (pc := 7) hC dX10_elementOf_7 ?_
  refine x_iload_n (pc := 8) hC dX10_elementOf_8 rfl rfl ?_
  refine x_iload_n (pc := 9) hC dX10_elementOf_9 rfl rfl ?_
  obtain ⟨v2, e1, h⟩ := jbR_some h
  refine x_cS (pc := 10) hC ms_X10_199 (ok_X10_tryAt hn e1) rfl (Nat.le_of_ble_eq_true rfl) (jRo0 C) (Nat.le_of_ble_eq_true rfl) dX10_elementOf_10 rfl ?_
  refine x_imul (pc := 13) hC dX10_elementOf_13 ?_
  refine x_iadd (pc := 14) hC dX10_elementOf_14 ?_
  refine x_iload_n (pc := 15) hC dX10_elementOf_15 rfl rfl ?_
  refine x_iadd (pc := 16) hC dX10_elementOf_16 ?_
  obtain ⟨hb3, h⟩ := jck_some h
  refine x_iald (pc := 17) hC k_169 (by rw [l_169]; exact hb3) dX10_elementOf_17 ?_
  exact x_iret (pc := 18) hC hR dX10_elementOf_18 (jrR h) rfl

set_option maxHeartbeats 4000000 in
set_option maxRecDepth 20000 in
theorem ok_X10_elementsOf {X : jX} {n : Nat} (hn : 179 ≤ n) {l1 : Int} {l2 : Int} {M : jM} {rz : Int} (h : f_X10_elementsOf l1 l2 M = some rz) : jCt X n yX10_elementsOf cX10_elementsOf 3 (some .int) 1 [jA 166, jI l1, jI l2] M (some (jI rz)) M := by
  refine jCt_of (own := RX10) (ls := [jA 166, jI l1, jI l2]) (by decide +kernel) rfl hn (Nat.le_of_ble_eq_true rfl) rfl ?_
  intro C hC hR
  unfold f_X10_elementsOf at h
  refine x_aloadA_n (pc := 0) hC dX10_elementsOf_0 rfl rfl k_166 (by decide) ?_
  refine x_gf (pc := 1) (b := 169) hC fl_X10_81 ft10_9 k_166 (by decide) (off := 3) (by decide +kernel) (by decide) dX10_elementsOf_1 ?_
  refine x_sipush (pc := 4) hC dX10_elementsOf_4 rfl ?_
  refine x_iload_n (pc := 7) hC dX10_elementsOf_7 rfl rfl ?_
  refine x_iload_n (pc := 8) hC dX10_elementsOf_8 rfl rfl ?_
  obtain ⟨v2, e1, h⟩ := jbR_some h
  refine x_cS (pc := 9) hC ms_X10_199 (ok_X10_tryAt hn e1) rfl (Nat.le_of_ble_eq_true rfl) (jRo0 C) (Nat.le_of_ble_eq_true rfl) dX10_elementsOf_9 rfl ?_
  refine x_iadd (pc := 12) hC dX10_elementsOf_12 ?_
  obtain ⟨hb3, h⟩ := jck_some h
  refine x_iald (pc := 13) hC k_169 (by rw [l_169]; exact hb3) dX10_elementsOf_13 ?_
  exact x_iret (pc := 14) hC hR dX10_elementsOf_14 (jrR h) rfl

set_option maxHeartbeats 4000000 in
set_option maxRecDepth 20000 in
theorem ok_X10_isJump {X : jX} {n : Nat} (hn : 179 ≤ n) {l1 : Int} {M : jM} {rz : Int} (h : f_X10_isJump l1 M = some rz) : jCt X n yX10_isJump cX10_isJump 2 (some .boolean) 0 [jA 166, jI l1] M (some (jI rz)) M := by
  refine jCt_of (own := RX10) (ls := [jA 166, jI l1]) (by decide +kernel) rfl hn (Nat.le_of_ble_eq_true rfl) rfl ?_
  intro C hC hR
  unfold f_X10_isJump at h
  refine x_aloadA_n (pc := 0) hC dX10_isJump_0 rfl rfl k_166 (by decide) ?_
  refine x_gf (pc := 1) (b := 169) hC fl_X10_81 ft10_9 k_166 (by decide) (off := 3) (by decide +kernel) (by decide) dX10_isJump_1 ?_
  refine x_iconst (pc := 4) hC dX10_isJump_4 ?_
  refine x_iload_n (pc := 5) hC dX10_isJump_5 rfl rfl ?_
  refine x_iadd (pc := 6) hC dX10_isJump_6 ?_
  obtain ⟨hb1, h⟩ := jck_some h
  refine x_iald (pc := 7) hC k_169 (by rw [l_169]; exact hb1) dX10_isJump_7 ?_
  refine x_if_ne (tgt := 15) (pc := 8) hC dX10_isJump_8 (by decide) (fun hc => ?_) (fun hc => ?_)
  · replace h := jit_neg hc h
    refine x_iconst (pc := 15) hC dX10_isJump_15 ?_
    exact x_zret (pc := 16) hC hR dX10_isJump_16 (Or.inl jw0) (jrR h) rfl
  · replace h := jit_pos hc h
    refine x_iconst (pc := 11) hC dX10_isJump_11 ?_
    refine x_goto (tgt := 16) (pc := 12) hC dX10_isJump_12 (by decide) ?_
    exact x_zret (pc := 16) hC hR dX10_isJump_16 (Or.inr jw1) (jrR h) rfl

set_option maxHeartbeats 4000000 in
set_option maxRecDepth 20000 in
theorem ok_X10_callsOf {X : jX} {n : Nat} (hn : 179 ≤ n) {l1 : Int} {l2 : Int} {M : jM} {rz : Int} (h : f_X10_callsOf l1 l2 M = some rz) : jCt X n yX10_callsOf cX10_callsOf 3 (some .int) 1 [jA 166, jI l1, jI l2] M (some (jI rz)) M := by
  refine jCt_of (own := RX10) (ls := [jA 166, jI l1, jI l2]) (by decide +kernel) rfl hn (Nat.le_of_ble_eq_true rfl) rfl ?_
  intro C hC hR
  unfold f_X10_callsOf at h
  refine x_aloadA_n (pc := 0) hC dX10_callsOf_0 rfl rfl k_166 (by decide) ?_
  refine x_gi (pc := 1) (ji := 22) hC fl_X10_287 rfl fn10_22 k_166 dX10_callsOf_1 ?_
  refine x_if_eq (tgt := 11) (pc := 4) hC dX10_callsOf_4 (by decide) (fun hc => ?_) (fun hc => ?_)
  · replace h := jit_pos hc h
    refine x_aloadA_n (pc := 11) hC dX10_callsOf_11 rfl rfl k_166 (by decide) ?_
    refine x_gf (pc := 12) (b := 170) hC fl_X10_84 ft10_10 k_166 (by decide) (off := 4) (by decide +kernel) (by decide) dX10_callsOf_12 ?_
    refine x_sipush (pc := 15) hC dX10_callsOf_15 rfl ?_
    refine x_iload_n (pc := 18) hC dX10_callsOf_18 rfl rfl ?_
    refine x_iload_n (pc := 19) hC dX10_callsOf_19 rfl rfl ?_
    obtain ⟨v2, e1, h⟩ := jbR_some h
    refine x_cS (pc := 20) hC ms_X10_199 (ok_X10_tryAt hn e1) rfl (Nat.le_of_ble_eq_true rfl) (jRo0 C) (Nat.le_of_ble_eq_true rfl) dX10_callsOf_20 rfl ?_
    refine x_iadd (pc := 23) hC dX10_callsOf_23 ?_
    obtain ⟨hb3, h⟩ := jck_some h
    refine x_iald (pc := 24) hC k_170 (by rw [l_170]; exact hb3) dX10_callsOf_24 ?_
    exact x_iret (pc := 25) hC hR dX10_callsOf_25 (jrR h) rfl
  · replace h := jit_neg hc h
    refine x_iconst (pc := 7) hC dX10_callsOf_7 ?_
    refine x_goto (tgt := 25) (pc := 8) hC dX10_callsOf_8 (by decide) ?_
    exact x_iret (pc := 25) hC hR dX10_callsOf_25 (jrR h) rfl

set_option maxHeartbeats 4000000 in
set_option maxRecDepth 20000 in
theorem ok_X10_isLate {X : jX} {n : Nat} (hn : 179 ≤ n) {l1 : Int} {l2 : Int} {M : jM} {rz : Int} (h : f_X10_isLate l1 l2 M = some rz) : jCt X n yX10_isLate cX10_isLate 3 (some .boolean) 2 [jA 166, jI l1, jI l2] M (some (jI rz)) M := by
  refine jCt_of (own := RX10) (ls := [jA 166, jI l1, jI l2]) (by decide +kernel) rfl hn (Nat.le_of_ble_eq_true rfl) rfl ?_
  intro C hC hR
  unfold f_X10_isLate at h
  refine x_iload_n (pc := 0) hC dX10_isLate_0 rfl rfl ?_
  refine x_aloadA_n (pc := 1) hC dX10_isLate_1 rfl rfl k_166 (by decide) ?_
  refine x_gi (pc := 2) (ji := 17) hC fl_X10_281 rfl fn10_17 k_166 dX10_isLate_2 ?_
  refine x_icmp_ne (tgt := 17) (pc := 5) hC dX10_isLate_5 (by decide) (fun hc => ?_) (fun hc => ?_)
  · replace h := jit_neg hc h
    refine x_aloadA_n (pc := 17) hC dX10_isLate_17 rfl rfl k_166 (by decide) ?_
    refine x_aloadA_n (pc := 18) hC dX10_isLate_18 rfl rfl k_166 (by decide) ?_
    refine x_iload_n (pc := 19) hC dX10_isLate_19 rfl rfl ?_
    refine x_iload_n (pc := 20) hC dX10_isLate_20 rfl rfl ?_
    refine x_iconst (pc := 21) hC dX10_isLate_21 ?_
    obtain ⟨v2, e1, h⟩ := jbR_some h
    refine x_cV (pc := 22) hC mv_X10_293 (ok_X10_elementOf hn e1) rfl (Nat.le_of_ble_eq_true rfl) k_166 rfl (by decide) (jRo0 C) (Nat.le_of_ble_eq_true rfl) dX10_isLate_22 rfl ?_
    obtain ⟨v4, e3, h⟩ := jbR_some h
    refine x_cV (pc := 25) hC mv_X10_297 (ok_X10_isJump hn e3) rfl (Nat.le_of_ble_eq_true rfl) k_166 rfl (by decide) (jRo0 C) (Nat.le_of_ble_eq_true rfl) dX10_isLate_25 rfl ?_
    refine x_if_eq (tgt := 59) (pc := 28) hC dX10_isLate_28 (by decide) (fun hc => ?_) (fun hc => ?_)
    · replace h := jit_pos hc h
      refine x_iconst (pc := 59) hC dX10_isLate_59 ?_
      exact x_zret (pc := 60) hC hR dX10_isLate_60 (Or.inl jw0) (jrR h) rfl
    · replace h := jit_neg hc h
      refine x_aloadA_n (pc := 31) hC dX10_isLate_31 rfl rfl k_166 (by decide) ?_
      refine x_gf (pc := 32) (b := 169) hC fl_X10_81 ft10_9 k_166 (by decide) (off := 3) (by decide +kernel) (by decide) dX10_isLate_32 ?_
      refine x_bipush (pc := 35) hC dX10_isLate_35 rfl ?_
      refine x_iload_n (pc := 37) hC dX10_isLate_37 rfl rfl ?_
      refine x_iload_n (pc := 38) hC dX10_isLate_38 rfl rfl ?_
      obtain ⟨v6, e5, h⟩ := jbR_some h
      refine x_cS (pc := 39) hC ms_X10_199 (ok_X10_tryAt hn e5) rfl (Nat.le_of_ble_eq_true rfl) (jRo0 C) (Nat.le_of_ble_eq_true rfl) dX10_isLate_39 rfl ?_
      refine x_iadd (pc := 42) hC dX10_isLate_42 ?_
      obtain ⟨hb7, h⟩ := jck_some h
      refine x_iald (pc := 43) hC k_169 (by rw [l_169]; exact hb7) dX10_isLate_43 ?_
      refine x_aloadA_n (pc := 44) hC dX10_isLate_44 rfl rfl k_166 (by decide) ?_
      refine x_gf (pc := 45) (b := 170) hC fl_X10_84 ft10_10 k_166 (by decide) (off := 4) (by decide +kernel) (by decide) dX10_isLate_45 ?_
      refine x_sipush (pc := 48) hC dX10_isLate_48 rfl ?_
      obtain ⟨hb8, h⟩ := jck_some h
      refine x_iald (pc := 51) hC k_170 (by rw [l_170]; exact hb8) dX10_isLate_51 ?_
      refine x_icmp_lt (tgt := 59) (pc := 52) hC dX10_isLate_52 (by decide) (fun hc => ?_) (fun hc => ?_)
      · replace h := jit_pos hc h
        refine x_iconst (pc := 59) hC dX10_isLate_59 ?_
        exact x_zret (pc := 60) hC hR dX10_isLate_60 (Or.inl jw0) (jrR h) rfl
      · replace h := jit_neg hc h
        refine x_iconst (pc := 55) hC dX10_isLate_55 ?_
        refine x_goto (tgt := 60) (pc := 56) hC dX10_isLate_56 (by decide) ?_
        exact x_zret (pc := 60) hC hR dX10_isLate_60 (Or.inr jw1) (jrR h) rfl
  · replace h := jit_pos hc h
    refine x_aloadA_n (pc := 8) hC dX10_isLate_8 rfl rfl k_166 (by decide) ?_
    refine x_gi (pc := 9) (ji := 18) hC fl_X10_290 rfl fn10_18 k_166 dX10_isLate_9 ?_
    refine x_iload_n (pc := 12) hC dX10_isLate_12 rfl rfl ?_
    obtain ⟨v10, e9, h⟩ := jbR_some h
    refine x_cS (pc := 13) hC ms_X10_212 (ok_X10_isIn hn e9) rfl (Nat.le_of_ble_eq_true rfl) (jRo0 C) (Nat.le_of_ble_eq_true rfl) dX10_isLate_13 rfl ?_
    obtain ⟨hz11, h⟩ := jck_some h
    exact x_zret (pc := 16) hC hR dX10_isLate_16 hz11 (jrR h) rfl

set_option maxHeartbeats 4000000 in
set_option maxRecDepth 20000 in
theorem ok_X10_gradeBy {X : jX} {n : Nat} (hn : 179 ≤ n) {l1 : Int} {l2 : Int} {l3 : Int} {M : jM} {rz : Int} (h : f_X10_gradeBy l1 l2 l3 M = some rz) : jCt X n yX10_gradeBy cX10_gradeBy 4 (some .int) 1 [jA 166, jI l1, jI l2, jI l3] M (some (jI rz)) M := by
  refine jCt_of (own := RX10) (ls := [jA 166, jI l1, jI l2, jI l3]) (by decide +kernel) rfl hn (Nat.le_of_ble_eq_true rfl) rfl ?_
  intro C hC hR
  unfold f_X10_gradeBy at h
  refine x_iload_n (pc := 0) hC dX10_gradeBy_0 rfl rfl ?_
  refine x_aloadA_n (pc := 1) hC dX10_gradeBy_1 rfl rfl k_166 (by decide) ?_
  refine x_gi (pc := 2) (ji := 19) hC fl_X10_284 rfl fn10_19 k_166 dX10_gradeBy_2 ?_
  obtain ⟨k1, Hk1, h⟩ := jk_some (P := fun k1 => k1 = some rz → jG C X n 4 0 0 23 [jA 166, jI l1, jI l2, jI l3] [] M) h (by
    intro h
    refine x_aloadA_n (pc := 23) hC dX10_gradeBy_23 rfl rfl k_166 (by decide) ?_
    refine x_gf (pc := 24) (b := 170) hC fl_X10_84 ft10_10 k_166 (by decide) (off := 4) (by decide +kernel) (by decide) dX10_gradeBy_24 ?_
    refine x_iconst (pc := 27) hC dX10_gradeBy_27 ?_
    refine x_bipush (pc := 28) hC dX10_gradeBy_28 rfl ?_
    refine x_iload_n (pc := 30) hC dX10_gradeBy_30 rfl rfl ?_
    refine x_iload_n (pc := 31) hC dX10_gradeBy_31 rfl rfl ?_
    obtain ⟨v3, e2, h⟩ := jbR_some h
    refine x_cS (pc := 32) hC ms_X10_199 (ok_X10_tryAt hn e2) rfl (Nat.le_of_ble_eq_true rfl) (jRo0 C) (Nat.le_of_ble_eq_true rfl) dX10_gradeBy_32 rfl ?_
    refine x_imul (pc := 35) hC dX10_gradeBy_35 ?_
    refine x_iadd (pc := 36) hC dX10_gradeBy_36 ?_
    refine x_iload_n (pc := 37) hC dX10_gradeBy_37 rfl rfl ?_
    refine x_iadd (pc := 38) hC dX10_gradeBy_38 ?_
    obtain ⟨hb4, h⟩ := jck_some h
    refine x_iald (pc := 39) hC k_170 (by rw [l_170]; exact hb4) dX10_gradeBy_39 ?_
    exact x_iret (pc := 40) hC hR dX10_gradeBy_40 (jrR h) rfl)
  refine x_icmp_ne (tgt := 23) (pc := 5) hC dX10_gradeBy_5 (by decide) (fun hc => ?_) (fun hc => ?_)
  · replace h := jit_neg hc h
    exact Hk1 h
  · replace h := jit_pos hc h
    refine x_iload_n (pc := 8) hC dX10_gradeBy_8 rfl rfl ?_
    refine x_aloadA_n (pc := 9) hC dX10_gradeBy_9 rfl rfl k_166 (by decide) ?_
    refine x_gi (pc := 10) (ji := 20) hC fl_X10_300 rfl fn10_20 k_166 dX10_gradeBy_10 ?_
    refine x_icmp_ne (tgt := 23) (pc := 13) hC dX10_gradeBy_13 (by decide) (fun hc => ?_) (fun hc => ?_)
    · replace h := jit_neg hc h
      exact Hk1 h
    · replace h := jit_pos hc h
      refine x_aloadA_n (pc := 16) hC dX10_gradeBy_16 rfl rfl k_166 (by decide) ?_
      refine x_gi (pc := 17) (ji := 21) hC fl_X10_303 rfl fn10_21 k_166 dX10_gradeBy_17 ?_
      refine x_goto (tgt := 40) (pc := 20) hC dX10_gradeBy_20 (by decide) ?_
      exact x_iret (pc := 40) hC hR dX10_gradeBy_40 (jrR h) rfl

set_option maxHeartbeats 4000000 in
set_option maxRecDepth 20000 in
theorem ok_X10_trimmed {X : jX} {n : Nat} (hn : 179 ≤ n) {l1 : Int} {M : jM} {rz : Int} {Mz : jM} (h : f_X10_trimmed l1 M = some (rz, Mz)) : jCt X n yX10_trimmed cX10_trimmed 5 (some .int) 1 [jA 166, jI l1] M (some (jI rz)) Mz := by
  refine jCt_of (own := RX10) (ls := [jA 166, jI l1, jN, jN, jN]) (by decide +kernel) rfl hn (Nat.le_of_ble_eq_true rfl) rfl ?_
  intro C hC hR
  unfold f_X10_trimmed at h
  refine x_iconst (pc := 0) hC dX10_trimmed_0 ?_
  refine x_istore_n (ls2 := [jA 166, jI l1, jI 1, jN, jN]) (pc := 1) hC dX10_trimmed_1 rfl (by decide) rfl rfl rfl ?_
  refine jlp2_ind (P := fun (l2_1 : Int) (M2 : jM) => jG C X n 5 0 0 2 [jA 166, jI l1, jI l2_1, jN, jN] [] M2) ?_ _ _ _ h
  intro self3 l2_1 M2 Hself3 h
  refine x_iload_n (pc := 2) hC dX10_trimmed_2 rfl rfl ?_
  refine x_iload_n (pc := 3) hC dX10_trimmed_3 rfl rfl ?_
  refine x_icmp_ge (tgt := 74) (pc := 4) hC dX10_trimmed_4 (by decide) (fun hc => ?_) (fun hc => ?_)
  · replace h := jit_pos hc h
    refine x_aloadA_n (pc := 74) hC dX10_trimmed_74 rfl rfl k_166 (by decide) ?_
    refine x_gf (pc := 75) (b := 170) hC fl_X10_84 ft10_10 k_166 (by decide) (off := 4) (by decide +kernel) (by decide) dX10_trimmed_75 ?_
    refine x_sipush (pc := 78) hC dX10_trimmed_78 rfl ?_
    obtain ⟨hb4, h⟩ := jck_some h
    refine x_iald (pc := 81) hC k_170 (by rw [l_170]; exact hb4) dX10_trimmed_81 ?_
    refine x_iload_n (pc := 82) hC dX10_trimmed_82 rfl rfl ?_
    refine x_iconst (pc := 83) hC dX10_trimmed_83 ?_
    refine x_isub (pc := 84) hC dX10_trimmed_84 ?_
    refine x_iconst (pc := 85) hC dX10_trimmed_85 ?_
    refine x_idiv (pc := 86) hC dX10_trimmed_86 (by decide) ?_
    obtain ⟨v6, e5, h⟩ := jbR_some h
    refine x_cS (pc := 87) hC ms_X10_306 (ok_J9_min_7cf53 hn e5) rfl (Nat.le_of_ble_eq_true rfl) (jRo0 C) (Nat.le_of_ble_eq_true rfl) dX10_trimmed_87 rfl ?_
    refine x_istore_n (ls2 := [jA 166, jI l1, jI v6, jN, jN]) (pc := 90) hC dX10_trimmed_90 rfl (by decide) rfl rfl rfl ?_
    refine x_iconst (pc := 91) hC dX10_trimmed_91 ?_
    refine x_istore_n (ls2 := [jA 166, jI l1, jI v6, jI 0, jN]) (pc := 92) hC dX10_trimmed_92 rfl (by decide) rfl rfl rfl ?_
    refine x_iload_n (pc := 93) hC dX10_trimmed_93 rfl rfl ?_
    refine x_istore (ls2 := [jA 166, jI l1, jI v6, jI 0, jI v6]) (pc := 94) hC dX10_trimmed_94 (by decide) rfl rfl rfl ?_
    refine jlp2_ind (P := fun (l3_7 : Int) (l4_8 : Int) => jG C X n 5 0 0 96 [jA 166, jI l1, jI v6, jI l3_7, jI l4_8] [] M2) ?_ _ _ _ h
    intro self9 l3_7 l4_8 Hself9 h
    refine x_iload (pc := 96) hC dX10_trimmed_96 rfl ?_
    refine x_iload_n (pc := 98) hC dX10_trimmed_98 rfl rfl ?_
    refine x_iload_n (pc := 99) hC dX10_trimmed_99 rfl rfl ?_
    refine x_isub (pc := 100) hC dX10_trimmed_100 ?_
    refine x_icmp_ge (tgt := 120) (pc := 101) hC dX10_trimmed_101 (by decide) (fun hc => ?_) (fun hc => ?_)
    · replace h := jit_pos hc h
      refine x_bipush (pc := 120) hC dX10_trimmed_120 rfl ?_
      refine x_iload_n (pc := 122) hC dX10_trimmed_122 rfl rfl ?_
      refine x_imul (pc := 123) hC dX10_trimmed_123 ?_
      refine x_iload_n (pc := 124) hC dX10_trimmed_124 rfl rfl ?_
      refine x_iconst (pc := 125) hC dX10_trimmed_125 ?_
      refine x_iload_n (pc := 126) hC dX10_trimmed_126 rfl rfl ?_
      refine x_imul (pc := 127) hC dX10_trimmed_127 ?_
      refine x_isub (pc := 128) hC dX10_trimmed_128 ?_
      obtain ⟨v11, e10, h⟩ := jbR_some h
      refine x_cS (pc := 129) hC ms_X10_309 (ok_J9_floorDiv_7cf53 hn e10) rfl (Nat.le_of_ble_eq_true rfl) (jRo0 C) (Nat.le_of_ble_eq_true rfl) dX10_trimmed_129 rfl ?_
      exact x_iret (pc := 132) hC hR dX10_trimmed_132 (jr1 h) (jr2 h)
    · replace h := jit_neg hc h
      refine x_iload_n (pc := 104) hC dX10_trimmed_104 rfl rfl ?_
      refine x_aloadA_n (pc := 105) hC dX10_trimmed_105 rfl rfl k_166 (by decide) ?_
      refine x_gf (pc := 106) (b := 173) hC fl_X10_93 ft10_23 k_166 (by decide) (off := 7) (by decide +kernel) (by decide) dX10_trimmed_106 ?_
      refine x_iload (pc := 109) hC dX10_trimmed_109 rfl ?_
      obtain ⟨hb12, h⟩ := jck_some h
      refine x_iald (pc := 111) hC k_173 (by rw [l_173]; exact hb12) dX10_trimmed_111 ?_
      refine x_iadd (pc := 112) hC dX10_trimmed_112 ?_
      obtain ⟨l3_13, el3_13, h⟩ := jlet_some h
      refine x_istore_n (ls2 := [jA 166, jI l1, jI v6, jI l3_13, jI l4_8]) (pc := 113) hC dX10_trimmed_113 rfl (by decide) rfl el3_13 rfl ?_
      obtain ⟨l4_14, el4_14, h⟩ := jlet_some h
      refine x_iinc (ls2 := [jA 166, jI l1, jI v6, jI l3_13, jI l4_14]) (pc := 114) hC dX10_trimmed_114 rfl (by decide) rfl el4_14 rfl ?_
      refine x_goto (tgt := 96) (pc := 117) hC dX10_trimmed_117 (by decide) ?_
      exact Hself9 _ _ h
  · replace h := jit_neg hc h
    refine x_iload_n (pc := 7) hC dX10_trimmed_7 rfl rfl ?_
    refine x_istore_n (ls2 := [jA 166, jI l1, jI l2_1, jI l2_1, jN]) (pc := 8) hC dX10_trimmed_8 rfl (by decide) rfl rfl rfl ?_
    refine jlp2_ind (P := fun (l3_15 : Int) (M16 : jM) => jG C X n 5 0 0 9 [jA 166, jI l1, jI l2_1, jI l3_15, jN] [] M16) ?_ _ _ _ h
    intro self17 l3_15 M16 Hself17 h
    refine x_iload_n (pc := 9) hC dX10_trimmed_9 rfl rfl ?_
    refine x_if_le (tgt := 68) (pc := 10) hC dX10_trimmed_10 (by decide) (fun hc => ?_) (fun hc => ?_)
    · replace h := jit_pos hc h
      obtain ⟨l2_18, el2_18, h⟩ := jlet_some h
      refine x_iinc (ls2 := [jA 166, jI l1, jI l2_18, jI l3_15, jN]) (pc := 68) hC dX10_trimmed_68 rfl (by decide) rfl el2_18 rfl ?_
      refine x_goto (tgt := 2) (pc := 71) hC dX10_trimmed_71 (by decide) ?_
      refine x_kill 3 (ls2 := [jA 166, jI l1, jI l2_18, jN, jN]) rfl ?_
      exact Hself3 _ _ h
    · replace h := jit_neg hc h
      refine x_aloadA_n (pc := 13) hC dX10_trimmed_13 rfl rfl k_166 (by decide) ?_
      refine x_gf (pc := 14) (b := 173) hC fl_X10_93 ft10_23 k_166 (by decide) (off := 7) (by decide +kernel) (by decide) dX10_trimmed_14 ?_
      refine x_iload_n (pc := 17) hC dX10_trimmed_17 rfl rfl ?_
      refine x_iconst (pc := 18) hC dX10_trimmed_18 ?_
      refine x_isub (pc := 19) hC dX10_trimmed_19 ?_
      obtain ⟨hb19, h⟩ := jck_some h
      refine x_iald (pc := 20) hC k_173 (by rw [l_173]; exact hb19) dX10_trimmed_20 ?_
      refine x_aloadA_n (pc := 21) hC dX10_trimmed_21 rfl rfl k_166 (by decide) ?_
      refine x_gf (pc := 22) (b := 173) hC fl_X10_93 ft10_23 k_166 (by decide) (off := 7) (by decide +kernel) (by decide) dX10_trimmed_22 ?_
      refine x_iload_n (pc := 25) hC dX10_trimmed_25 rfl rfl ?_
      obtain ⟨hb20, h⟩ := jck_some h
      refine x_iald (pc := 26) hC k_173 (by rw [l_173]; exact hb20) dX10_trimmed_26 ?_
      refine x_icmp_le (tgt := 68) (pc := 27) hC dX10_trimmed_27 (by decide) (fun hc => ?_) (fun hc => ?_)
      · replace h := jit_pos hc h
        obtain ⟨l2_21, el2_21, h⟩ := jlet_some h
        refine x_iinc (ls2 := [jA 166, jI l1, jI l2_21, jI l3_15, jN]) (pc := 68) hC dX10_trimmed_68 rfl (by decide) rfl el2_21 rfl ?_
        refine x_goto (tgt := 2) (pc := 71) hC dX10_trimmed_71 (by decide) ?_
        refine x_kill 3 (ls2 := [jA 166, jI l1, jI l2_21, jN, jN]) rfl ?_
        exact Hself3 _ _ h
      · replace h := jit_neg hc h
        refine x_aloadA_n (pc := 30) hC dX10_trimmed_30 rfl rfl k_166 (by decide) ?_
        refine x_gf (pc := 31) (b := 173) hC fl_X10_93 ft10_23 k_166 (by decide) (off := 7) (by decide +kernel) (by decide) dX10_trimmed_31 ?_
        refine x_iload_n (pc := 34) hC dX10_trimmed_34 rfl rfl ?_
        obtain ⟨hb22, h⟩ := jck_some h
        refine x_iald (pc := 35) hC k_173 (by rw [l_173]; exact hb22) dX10_trimmed_35 ?_
        obtain ⟨l4_23, el4_23, h⟩ := jlet_some h
        refine x_istore (ls2 := [jA 166, jI l1, jI l2_1, jI l3_15, jI l4_23]) (pc := 36) hC dX10_trimmed_36 (by decide) rfl el4_23 rfl ?_
        refine x_aloadA_n (pc := 38) hC dX10_trimmed_38 rfl rfl k_166 (by decide) ?_
        refine x_gf (pc := 39) (b := 173) hC fl_X10_93 ft10_23 k_166 (by decide) (off := 7) (by decide +kernel) (by decide) dX10_trimmed_39 ?_
        refine x_iload_n (pc := 42) hC dX10_trimmed_42 rfl rfl ?_
        refine x_aloadA_n (pc := 43) hC dX10_trimmed_43 rfl rfl k_166 (by decide) ?_
        refine x_gf (pc := 44) (b := 173) hC fl_X10_93 ft10_23 k_166 (by decide) (off := 7) (by decide +kernel) (by decide) dX10_trimmed_44 ?_
        refine x_iload_n (pc := 47) hC dX10_trimmed_47 rfl rfl ?_
        refine x_iconst (pc := 48) hC dX10_trimmed_48 ?_
        refine x_isub (pc := 49) hC dX10_trimmed_49 ?_
        obtain ⟨hb24, h⟩ := jck_some h
        refine x_iald (pc := 50) hC k_173 (by rw [l_173]; exact hb24) dX10_trimmed_50 ?_
        obtain ⟨hb25, h⟩ := jck_some h
        obtain ⟨M26, eM26, h⟩ := jlet_some h
        refine x_iast (pc := 51) hC k_173 (by rw [l_173]; exact hb25) dX10_trimmed_51 eM26 ?_
        refine x_aloadA_n (pc := 52) hC dX10_trimmed_52 rfl rfl k_166 (by decide) ?_
        refine x_gf (pc := 53) (b := 173) hC fl_X10_93 ft10_23 k_166 (by decide) (off := 7) (by decide +kernel) (by decide) dX10_trimmed_53 ?_
        refine x_iload_n (pc := 56) hC dX10_trimmed_56 rfl rfl ?_
        refine x_iconst (pc := 57) hC dX10_trimmed_57 ?_
        refine x_isub (pc := 58) hC dX10_trimmed_58 ?_
        refine x_iload (pc := 59) hC dX10_trimmed_59 rfl ?_
        obtain ⟨hb27, h⟩ := jck_some h
        obtain ⟨M28, eM28, h⟩ := jlet_some h
        refine x_iast (pc := 61) hC k_173 (by rw [l_173]; exact hb27) dX10_trimmed_61 eM28 ?_
        obtain ⟨l3_29, el3_29, h⟩ := jlet_some h
        refine x_iinc (ls2 := [jA 166, jI l1, jI l2_1, jI l3_29, jI l4_23]) (pc := 62) hC dX10_trimmed_62 rfl (by decide) rfl el3_29 rfl ?_
        refine x_goto (tgt := 9) (pc := 65) hC dX10_trimmed_65 (by decide) ?_
        refine x_kill 4 (ls2 := [jA 166, jI l1, jI l2_1, jI l3_29, jN]) rfl ?_
        exact Hself17 _ _ h

set_option maxHeartbeats 4000000 in
set_option maxRecDepth 20000 in
theorem ok_X10_meanOf {X : jX} {n : Nat} (hn : 179 ≤ n) {l1 : Int} {l2 : Int} {M : jM} {rz : Int} {Mz : jM} (h : f_X10_meanOf l1 l2 M = some (rz, Mz)) : jCt X n yX10_meanOf cX10_meanOf 5 (some .int) 2 [jA 166, jI l1, jI l2] M (some (jI rz)) Mz := by
  refine jCt_of (own := RX10) (ls := [jA 166, jI l1, jI l2, jN, jN]) (by decide +kernel) rfl hn (Nat.le_of_ble_eq_true rfl) rfl ?_
  intro C hC hR
  unfold f_X10_meanOf at h
  refine x_iconst (pc := 0) hC dX10_meanOf_0 ?_
  refine x_istore_n (ls2 := [jA 166, jI l1, jI l2, jI 0, jN]) (pc := 1) hC dX10_meanOf_1 rfl (by decide) rfl rfl rfl ?_
  refine x_iconst (pc := 2) hC dX10_meanOf_2 ?_
  refine x_istore (ls2 := [jA 166, jI l1, jI l2, jI 0, jI 0]) (pc := 3) hC dX10_meanOf_3 (by decide) rfl rfl rfl ?_
  refine jlp3_ind (P := fun (l3_1 : Int) (l4_2 : Int) (M3 : jM) => jG C X n 5 0 0 5 [jA 166, jI l1, jI l2, jI l3_1, jI l4_2] [] M3) ?_ _ _ _ _ h
  intro self4 l3_1 l4_2 M3 Hself4 h
  refine x_iload (pc := 5) hC dX10_meanOf_5 rfl ?_
  refine x_aloadA_n (pc := 7) hC dX10_meanOf_7 rfl rfl k_166 (by decide) ?_
  refine x_gf (pc := 8) (b := 169) hC fl_X10_81 ft10_9 k_166 (by decide) (off := 3) (by decide +kernel) (by decide) dX10_meanOf_8 ?_
  refine x_iconst (pc := 11) hC dX10_meanOf_11 ?_
  obtain ⟨hb5, h⟩ := jck_some h
  refine x_iald (pc := 12) hC k_169 (by rw [l_169]; exact hb5) dX10_meanOf_12 ?_
  refine x_icmp_ge (tgt := 54) (pc := 13) hC dX10_meanOf_13 (by decide) (fun hc => ?_) (fun hc => ?_)
  · replace h := jit_pos hc h
    refine x_aloadA_n (pc := 54) hC dX10_meanOf_54 rfl rfl k_166 (by decide) ?_
    refine x_iload_n (pc := 55) hC dX10_meanOf_55 rfl rfl ?_
    obtain ⟨v8, M7, e6, h⟩ := jbW_some h
    refine x_cV (pc := 56) hC mv_X10_315 (ok_X10_trimmed hn e6) rfl (Nat.le_of_ble_eq_true rfl) k_166 rfl (by decide) (jRo0 C) (Nat.le_of_ble_eq_true rfl) dX10_meanOf_56 rfl ?_
    exact x_iret (pc := 59) hC hR dX10_meanOf_59 (jr1 h) (jr2 h)
  · replace h := jit_neg hc h
    refine x_aloadA_n (pc := 16) hC dX10_meanOf_16 rfl rfl k_166 (by decide) ?_
    refine x_gi (pc := 17) (ji := 15) hC fl_X10_275 rfl fn10_15 k_166 dX10_meanOf_17 ?_
    refine x_iload (pc := 20) hC dX10_meanOf_20 rfl ?_
    obtain ⟨v10, e9, h⟩ := jbR_some h
    refine x_cS (pc := 22) hC ms_X10_212 (ok_X10_isIn hn e9) rfl (Nat.le_of_ble_eq_true rfl) (jRo0 C) (Nat.le_of_ble_eq_true rfl) dX10_meanOf_22 rfl ?_
    refine x_if_ne (tgt := 31) (pc := 25) hC dX10_meanOf_25 (by decide) (fun hc => ?_) (fun hc => ?_)
    · replace h := jit_neg hc h
      refine x_aloadA_n (pc := 31) hC dX10_meanOf_31 rfl rfl k_166 (by decide) ?_
      refine x_gf (pc := 32) (b := 173) hC fl_X10_93 ft10_23 k_166 (by decide) (off := 7) (by decide +kernel) (by decide) dX10_meanOf_32 ?_
      refine x_iload_n (pc := 35) hC dX10_meanOf_35 rfl rfl ?_
      refine x_aloadA_n (pc := 36) hC dX10_meanOf_36 rfl rfl k_166 (by decide) ?_
      refine x_iload_n (pc := 37) hC dX10_meanOf_37 rfl rfl ?_
      refine x_iload_n (pc := 38) hC dX10_meanOf_38 rfl rfl ?_
      refine x_iload (pc := 39) hC dX10_meanOf_39 rfl ?_
      obtain ⟨v12, e11, h⟩ := jbR_some h
      refine x_cV (pc := 41) hC mv_X10_312 (ok_X10_gradeBy hn e11) rfl (Nat.le_of_ble_eq_true rfl) k_166 rfl (by decide) (jRo0 C) (Nat.le_of_ble_eq_true rfl) dX10_meanOf_41 rfl ?_
      obtain ⟨hb13, h⟩ := jck_some h
      obtain ⟨M14, eM14, h⟩ := jlet_some h
      refine x_iast (pc := 44) hC k_173 (by rw [l_173]; exact hb13) dX10_meanOf_44 eM14 ?_
      obtain ⟨l3_15, el3_15, h⟩ := jlet_some h
      refine x_iinc (ls2 := [jA 166, jI l1, jI l2, jI l3_15, jI l4_2]) (pc := 45) hC dX10_meanOf_45 rfl (by decide) rfl el3_15 rfl ?_
      obtain ⟨l4_16, el4_16, h⟩ := jlet_some h
      refine x_iinc (ls2 := [jA 166, jI l1, jI l2, jI l3_15, jI l4_16]) (pc := 48) hC dX10_meanOf_48 rfl (by decide) rfl el4_16 rfl ?_
      refine x_goto (tgt := 5) (pc := 51) hC dX10_meanOf_51 (by decide) ?_
      exact Hself4 _ _ _ h
    · replace h := jit_pos hc h
      refine x_goto (tgt := 48) (pc := 28) hC dX10_meanOf_28 (by decide) ?_
      obtain ⟨l4_17, el4_17, h⟩ := jlet_some h
      refine x_iinc (ls2 := [jA 166, jI l1, jI l2, jI l3_1, jI l4_17]) (pc := 48) hC dX10_meanOf_48 rfl (by decide) rfl el4_17 rfl ?_
      refine x_goto (tgt := 5) (pc := 51) hC dX10_meanOf_51 (by decide) ?_
      exact Hself4 _ _ _ h

set_option maxHeartbeats 4000000 in
set_option maxRecDepth 20000 in
theorem ok_X10_markAt {X : jX} {n : Nat} (hn : 179 ≤ n) {l1 : Int} {l2 : Int} {l3 : Int} {M : jM} {rz : Int} (h : f_X10_markAt l1 l2 l3 = some rz) : jCt X n yX10_markAt cX10_markAt 4 (some .int) 0 [jA 166, jI l1, jI l2, jI l3] M (some (jI rz)) M := by
  refine jCt_of (own := RX10) (ls := [jA 166, jI l1, jI l2, jI l3]) (by decide +kernel) rfl hn (Nat.le_of_ble_eq_true rfl) rfl ?_
  intro C hC hR
  unfold f_X10_markAt at h
  refine x_sipush (pc := 0) hC dX10_markAt_0 rfl ?_
  refine x_bipush (pc := 3) hC dX10_markAt_3 rfl ?_
  refine x_iconst (pc := 5) hC dX10_markAt_5 ?_
  refine x_iload_n (pc := 6) hC dX10_markAt_6 rfl rfl ?_
  refine x_imul (pc := 7) hC dX10_markAt_7 ?_
  refine x_iload_n (pc := 8) hC dX10_markAt_8 rfl rfl ?_
  refine x_iadd (pc := 9) hC dX10_markAt_9 ?_
  refine x_imul (pc := 10) hC dX10_markAt_10 ?_
  refine x_iadd (pc := 11) hC dX10_markAt_11 ?_
  refine x_iload_n (pc := 12) hC dX10_markAt_12 rfl rfl ?_
  refine x_iadd (pc := 13) hC dX10_markAt_13 ?_
  exact x_iret (pc := 14) hC hR dX10_markAt_14 (jrR h) rfl

set_option maxHeartbeats 4000000 in
set_option maxRecDepth 20000 in
theorem ok_X10_componentOf {X : jX} {n : Nat} (hn : 179 ≤ n) {l1 : Int} {l2 : Int} {M : jM} {rz : Int} {Mz : jM} (h : f_X10_componentOf l1 l2 M = some (rz, Mz)) : jCt X n yX10_componentOf cX10_componentOf 5 (some .int) 2 [jA 166, jI l1, jI l2] M (some (jI rz)) Mz := by
  refine jCt_of (own := RX10) (ls := [jA 166, jI l1, jI l2, jN, jN]) (by decide +kernel) rfl hn (Nat.le_of_ble_eq_true rfl) rfl ?_
  intro C hC hR
  unfold f_X10_componentOf at h
  refine x_iconst (pc := 0) hC dX10_componentOf_0 ?_
  refine x_istore_n (ls2 := [jA 166, jI l1, jI l2, jI 0, jN]) (pc := 1) hC dX10_componentOf_1 rfl (by decide) rfl rfl rfl ?_
  refine x_iconst (pc := 2) hC dX10_componentOf_2 ?_
  refine x_istore (ls2 := [jA 166, jI l1, jI l2, jI 0, jI 0]) (pc := 3) hC dX10_componentOf_3 (by decide) rfl rfl rfl ?_
  refine jlp3_ind (P := fun (l3_1 : Int) (l4_2 : Int) (M3 : jM) => jG C X n 5 0 0 5 [jA 166, jI l1, jI l2, jI l3_1, jI l4_2] [] M3) ?_ _ _ _ _ h
  intro self4 l3_1 l4_2 M3 Hself4 h
  refine x_iload (pc := 5) hC dX10_componentOf_5 rfl ?_
  refine x_aloadA_n (pc := 7) hC dX10_componentOf_7 rfl rfl k_166 (by decide) ?_
  refine x_gf (pc := 8) (b := 169) hC fl_X10_81 ft10_9 k_166 (by decide) (off := 3) (by decide +kernel) (by decide) dX10_componentOf_8 ?_
  refine x_iconst (pc := 11) hC dX10_componentOf_11 ?_
  obtain ⟨hb5, h⟩ := jck_some h
  refine x_iald (pc := 12) hC k_169 (by rw [l_169]; exact hb5) dX10_componentOf_12 ?_
  refine x_icmp_ge (tgt := 59) (pc := 13) hC dX10_componentOf_13 (by decide) (fun hc => ?_) (fun hc => ?_)
  · replace h := jit_pos hc h
    refine x_aloadA_n (pc := 59) hC dX10_componentOf_59 rfl rfl k_166 (by decide) ?_
    refine x_iload_n (pc := 60) hC dX10_componentOf_60 rfl rfl ?_
    obtain ⟨v8, M7, e6, h⟩ := jbW_some h
    refine x_cV (pc := 61) hC mv_X10_315 (ok_X10_trimmed hn e6) rfl (Nat.le_of_ble_eq_true rfl) k_166 rfl (by decide) (jRo0 C) (Nat.le_of_ble_eq_true rfl) dX10_componentOf_61 rfl ?_
    refine x_aloadA_n (pc := 64) hC dX10_componentOf_64 rfl rfl k_166 (by decide) ?_
    refine x_gf (pc := 65) (b := 170) hC fl_X10_84 ft10_10 k_166 (by decide) (off := 4) (by decide +kernel) (by decide) dX10_componentOf_65 ?_
    refine x_sipush (pc := 68) hC dX10_componentOf_68 rfl ?_
    refine x_iload_n (pc := 71) hC dX10_componentOf_71 rfl rfl ?_
    refine x_iadd (pc := 72) hC dX10_componentOf_72 ?_
    obtain ⟨hb9, h⟩ := jck_some h
    refine x_iald (pc := 73) hC k_170 (by rw [l_170]; exact hb9) dX10_componentOf_73 ?_
    refine x_imul (pc := 74) hC dX10_componentOf_74 ?_
    refine x_bipush (pc := 75) hC dX10_componentOf_75 rfl ?_
    refine x_idiv (pc := 77) hC dX10_componentOf_77 (by decide) ?_
    exact x_iret (pc := 78) hC hR dX10_componentOf_78 (jr1 h) (jr2 h)
  · replace h := jit_neg hc h
    refine x_aloadA_n (pc := 16) hC dX10_componentOf_16 rfl rfl k_166 (by decide) ?_
    refine x_gi (pc := 17) (ji := 15) hC fl_X10_275 rfl fn10_15 k_166 dX10_componentOf_17 ?_
    refine x_iload (pc := 20) hC dX10_componentOf_20 rfl ?_
    obtain ⟨v11, e10, h⟩ := jbR_some h
    refine x_cS (pc := 22) hC ms_X10_212 (ok_X10_isIn hn e10) rfl (Nat.le_of_ble_eq_true rfl) (jRo0 C) (Nat.le_of_ble_eq_true rfl) dX10_componentOf_22 rfl ?_
    refine x_if_ne (tgt := 31) (pc := 25) hC dX10_componentOf_25 (by decide) (fun hc => ?_) (fun hc => ?_)
    · replace h := jit_neg hc h
      refine x_aloadA_n (pc := 31) hC dX10_componentOf_31 rfl rfl k_166 (by decide) ?_
      refine x_gf (pc := 32) (b := 173) hC fl_X10_93 ft10_23 k_166 (by decide) (off := 7) (by decide +kernel) (by decide) dX10_componentOf_32 ?_
      refine x_iload_n (pc := 35) hC dX10_componentOf_35 rfl rfl ?_
      refine x_aloadA_n (pc := 36) hC dX10_componentOf_36 rfl rfl k_166 (by decide) ?_
      refine x_gf (pc := 37) (b := 170) hC fl_X10_84 ft10_10 k_166 (by decide) (off := 4) (by decide +kernel) (by decide) dX10_componentOf_37 ?_
      refine x_aloadA_n (pc := 40) hC dX10_componentOf_40 rfl rfl k_166 (by decide) ?_
      refine x_iload_n (pc := 41) hC dX10_componentOf_41 rfl rfl ?_
      refine x_iload_n (pc := 42) hC dX10_componentOf_42 rfl rfl ?_
      refine x_iload (pc := 43) hC dX10_componentOf_43 rfl ?_
      obtain ⟨v13, e12, h⟩ := jbR_some h
      refine x_cV (pc := 45) hC mv_X10_319 (ok_X10_markAt hn e12) rfl (Nat.le_of_ble_eq_true rfl) k_166 rfl (by decide) (jRo0 C) (Nat.le_of_ble_eq_true rfl) dX10_componentOf_45 rfl ?_
      obtain ⟨hb14, h⟩ := jck_some h
      refine x_iald (pc := 48) hC k_170 (by rw [l_170]; exact hb14) dX10_componentOf_48 ?_
      obtain ⟨hb15, h⟩ := jck_some h
      obtain ⟨M16, eM16, h⟩ := jlet_some h
      refine x_iast (pc := 49) hC k_173 (by rw [l_173]; exact hb15) dX10_componentOf_49 eM16 ?_
      obtain ⟨l3_17, el3_17, h⟩ := jlet_some h
      refine x_iinc (ls2 := [jA 166, jI l1, jI l2, jI l3_17, jI l4_2]) (pc := 50) hC dX10_componentOf_50 rfl (by decide) rfl el3_17 rfl ?_
      obtain ⟨l4_18, el4_18, h⟩ := jlet_some h
      refine x_iinc (ls2 := [jA 166, jI l1, jI l2, jI l3_17, jI l4_18]) (pc := 53) hC dX10_componentOf_53 rfl (by decide) rfl el4_18 rfl ?_
      refine x_goto (tgt := 5) (pc := 56) hC dX10_componentOf_56 (by decide) ?_
      exact Hself4 _ _ _ h
    · replace h := jit_pos hc h
      refine x_goto (tgt := 53) (pc := 28) hC dX10_componentOf_28 (by decide) ?_
      obtain ⟨l4_19, el4_19, h⟩ := jlet_some h
      refine x_iinc (ls2 := [jA 166, jI l1, jI l2, jI l3_1, jI l4_19]) (pc := 53) hC dX10_componentOf_53 rfl (by decide) rfl el4_19 rfl ?_
      refine x_goto (tgt := 5) (pc := 56) hC dX10_componentOf_56 (by decide) ?_
      exact Hself4 _ _ _ h

