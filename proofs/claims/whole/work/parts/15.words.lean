/-! ===== words by their places; links ===== -/
theorem jTB_at {x : Cond} (i : Nat) (h : lw_tbl[i]? = some x) (hg : goodWord x = true) : x ∈ jTB := jTB_mem (List.mem_of_getElem? h) hg
theorem jNB_mem {x : Cond} (h : x ∈ lw_tbl) (hg : jnest x = true) : x ∈ jNB := List.mem_filter.mpr ⟨h, hg⟩
theorem jTB_r (ws : List Cond) (ps : List Nat) (hp : ws = ps.filterMap (fun i => lw_tbl[i]?)) (h : ws.all goodWord = true) : ∀ x ∈ ws, x ∈ jTB := by
  intro x hx
  have h1 := List.all_eq_true.mp h x hx
  rw [hp] at hx
  obtain ⟨i, -, hi⟩ := List.mem_filterMap.mp hx
  exact jTB_at i hi h1
theorem inX0 : ∀ x ∈ u_ws RX0 TX0 6, x ∈ jTB := jTB_r _ [496, 498, 500, 502, 504, 506] (by decide +kernel) (by decide +kernel)
theorem lnX0 : ∀ a, jkd a = 0 → (jln a).toNat = 6 := fun a h => by rw [jlen (k := 0) (l2 := 6) (by decide +kernel) h]; rfl
theorem inX1 : ∀ x ∈ u_ws RX1 TX1 8, x ∈ jTB := jTB_r _ [340, 342, 344, 346, 348, 350, 352, 354] (by decide +kernel) (by decide +kernel)
theorem lnX1 : ∀ a, jkd a = 1 → (jln a).toNat = 8 := fun a h => by rw [jlen (k := 1) (l2 := 8) (by decide +kernel) h]; rfl
theorem inX2 : ∀ x ∈ u_ws RX2 TX2 4, x ∈ jTB := jTB_r _ [194, 196, 198, 200] (by decide +kernel) (by decide +kernel)
theorem lnX2 : ∀ a, jkd a = 2 → (jln a).toNat = 4 := fun a h => by rw [jlen (k := 2) (l2 := 4) (by decide +kernel) h]; rfl
theorem inX3 : ∀ x ∈ u_ws RX3 TX3 2, x ∈ jTB := jTB_r _ [519, 521] (by decide +kernel) (by decide +kernel)
theorem lnX3 : ∀ a, jkd a = 3 → (jln a).toNat = 2 := fun a h => by rw [jlen (k := 3) (l2 := 2) (by decide +kernel) h]; rfl
theorem inX4 : ∀ x ∈ u_ws RX4 TX4 9, x ∈ jTB := jTB_r _ [372, 374, 376, 378, 380, 382, 384, 386, 388] (by decide +kernel) (by decide +kernel)
theorem lnX4 : ∀ a, jkd a = 4 → (jln a).toNat = 9 := fun a h => by rw [jlen (k := 4) (l2 := 9) (by decide +kernel) h]; rfl
theorem inX5 : ∀ x ∈ u_ws RX5 TX5 7, x ∈ jTB := jTB_r _ [220, 222, 224, 226, 228, 230, 232] (by decide +kernel) (by decide +kernel)
theorem lnX5 : ∀ a, jkd a = 5 → (jln a).toNat = 7 := fun a h => by rw [jlen (k := 5) (l2 := 7) (by decide +kernel) h]; rfl
theorem inX6 : ∀ x ∈ u_ws RX6 TX6 8, x ∈ jTB := jTB_r _ [284, 286, 288, 290, 292, 294, 296, 298] (by decide +kernel) (by decide +kernel)
theorem lnX6 : ∀ a, jkd a = 6 → (jln a).toNat = 8 := fun a h => by rw [jlen (k := 6) (l2 := 8) (by decide +kernel) h]; rfl
theorem inX7 : ∀ x ∈ u_ws RX7 TX7 7, x ∈ jTB := jTB_r _ [468, 470, 472, 474, 476, 478, 480] (by decide +kernel) (by decide +kernel)
theorem lnX7 : ∀ a, jkd a = 7 → (jln a).toNat = 7 := fun a h => by rw [jlen (k := 7) (l2 := 7) (by decide +kernel) h]; rfl
theorem inX8 : ∀ x ∈ u_ws RX8 TX8 15, x ∈ jTB := jTB_r _ [428, 430, 432, 434, 436, 438, 440, 442, 444, 446, 448, 450, 452, 454, 456] (by decide +kernel) (by decide +kernel)
theorem lnX8 : ∀ a, jkd a = 8 → (jln a).toNat = 15 := fun a h => by rw [jlen (k := 8) (l2 := 15) (by decide +kernel) h]; rfl
theorem inX9 : ∀ x ∈ u_ws RX9 TX9 9, x ∈ jTB := jTB_r _ [533, 535, 537, 539, 541, 543, 545, 547, 549] (by decide +kernel) (by decide +kernel)
theorem lnX9 : ∀ a, jkd a = 9 → (jln a).toNat = 9 := fun a h => by rw [jlen (k := 9) (l2 := 9) (by decide +kernel) h]; rfl
theorem inX10 : ∀ x ∈ u_ws RX10 TX10 32, x ∈ jTB := jTB_r _ [1558, 1560, 1562, 1564, 1566, 1568, 1570, 1572, 1574, 1576, 1578, 1580, 1582, 1584, 1586, 1588, 1590, 1592, 1594, 1596, 1598, 1600, 1602, 1604, 1606, 1608, 1610, 1612, 1614, 1616, 1618, 1620] (by decide +kernel) (by decide +kernel)
theorem lnX10 : ∀ a, jkd a = 10 → (jln a).toNat = 32 := fun a h => by rw [jlen (k := 10) (l2 := 32) (by decide +kernel) h]; rfl
theorem ft0_0 : jft 0 0 = 0 := by decide +kernel
theorem fn0_0 : jft 0 0 ≠ 1 := by decide +kernel
theorem ft0_1 : jft 0 1 = 0 := by decide +kernel
theorem fn0_1 : jft 0 1 ≠ 1 := by decide +kernel
theorem ft0_2 : jft 0 2 = 1 := by decide +kernel
theorem ft0_3 : jft 0 3 = 1 := by decide +kernel
theorem ft0_4 : jft 0 4 = 1 := by decide +kernel
theorem ft0_5 : jft 0 5 = 1 := by decide +kernel
theorem ft1_0 : jft 1 0 = 0 := by decide +kernel
theorem fn1_0 : jft 1 0 ≠ 1 := by decide +kernel
theorem ft1_1 : jft 1 1 = 1 := by decide +kernel
theorem ft1_2 : jft 1 2 = 1 := by decide +kernel
theorem ft1_3 : jft 1 3 = 1 := by decide +kernel
theorem ft1_4 : jft 1 4 = 1 := by decide +kernel
theorem ft1_5 : jft 1 5 = 1 := by decide +kernel
theorem ft1_6 : jft 1 6 = 1 := by decide +kernel
theorem ft1_7 : jft 1 7 = 1 := by decide +kernel
theorem ft2_0 : jft 2 0 = 0 := by decide +kernel
theorem fn2_0 : jft 2 0 ≠ 1 := by decide +kernel
theorem ft2_1 : jft 2 1 = 1 := by decide +kernel
theorem ft2_2 : jft 2 2 = 1 := by decide +kernel
theorem ft2_3 : jft 2 3 = 0 := by decide +kernel
theorem fn2_3 : jft 2 3 ≠ 1 := by decide +kernel
theorem ft3_0 : jft 3 0 = 1 := by decide +kernel
theorem ft3_1 : jft 3 1 = 0 := by decide +kernel
theorem fn3_1 : jft 3 1 ≠ 1 := by decide +kernel
theorem ft4_0 : jft 4 0 = 1 := by decide +kernel
theorem ft4_1 : jft 4 1 = 1 := by decide +kernel
theorem ft4_2 : jft 4 2 = 0 := by decide +kernel
theorem fn4_2 : jft 4 2 ≠ 1 := by decide +kernel
theorem ft4_3 : jft 4 3 = 0 := by decide +kernel
theorem fn4_3 : jft 4 3 ≠ 1 := by decide +kernel
theorem ft4_4 : jft 4 4 = 0 := by decide +kernel
theorem fn4_4 : jft 4 4 ≠ 1 := by decide +kernel
theorem ft4_5 : jft 4 5 = 0 := by decide +kernel
theorem fn4_5 : jft 4 5 ≠ 1 := by decide +kernel
theorem ft4_6 : jft 4 6 = 0 := by decide +kernel
theorem fn4_6 : jft 4 6 ≠ 1 := by decide +kernel
theorem ft4_7 : jft 4 7 = 0 := by decide +kernel
theorem fn4_7 : jft 4 7 ≠ 1 := by decide +kernel
theorem ft4_8 : jft 4 8 = 2 := by decide +kernel
theorem fn4_8 : jft 4 8 ≠ 1 := by decide +kernel
theorem ft5_0 : jft 5 0 = 0 := by decide +kernel
theorem fn5_0 : jft 5 0 ≠ 1 := by decide +kernel
theorem ft5_1 : jft 5 1 = 0 := by decide +kernel
theorem fn5_1 : jft 5 1 ≠ 1 := by decide +kernel
theorem ft5_2 : jft 5 2 = 1 := by decide +kernel
theorem ft5_3 : jft 5 3 = 1 := by decide +kernel
theorem ft5_4 : jft 5 4 = 1 := by decide +kernel
theorem ft5_5 : jft 5 5 = 1 := by decide +kernel
theorem ft5_6 : jft 5 6 = 1 := by decide +kernel
theorem ft6_0 : jft 6 0 = 0 := by decide +kernel
theorem fn6_0 : jft 6 0 ≠ 1 := by decide +kernel
theorem ft6_1 : jft 6 1 = 0 := by decide +kernel
theorem fn6_1 : jft 6 1 ≠ 1 := by decide +kernel
theorem ft6_2 : jft 6 2 = 0 := by decide +kernel
theorem fn6_2 : jft 6 2 ≠ 1 := by decide +kernel
theorem ft6_3 : jft 6 3 = 1 := by decide +kernel
theorem ft6_4 : jft 6 4 = 1 := by decide +kernel
theorem ft6_5 : jft 6 5 = 1 := by decide +kernel
theorem ft6_6 : jft 6 6 = 1 := by decide +kernel
theorem ft6_7 : jft 6 7 = 1 := by decide +kernel
theorem ft7_0 : jft 7 0 = 1 := by decide +kernel
theorem ft7_1 : jft 7 1 = 1 := by decide +kernel
theorem ft7_2 : jft 7 2 = 1 := by decide +kernel
theorem ft7_3 : jft 7 3 = 1 := by decide +kernel
theorem ft7_4 : jft 7 4 = 1 := by decide +kernel
theorem ft7_5 : jft 7 5 = 1 := by decide +kernel
theorem ft7_6 : jft 7 6 = 1 := by decide +kernel
theorem ft8_0 : jft 8 0 = 1 := by decide +kernel
theorem ft8_1 : jft 8 1 = 1 := by decide +kernel
theorem ft8_2 : jft 8 2 = 0 := by decide +kernel
theorem fn8_2 : jft 8 2 ≠ 1 := by decide +kernel
theorem ft8_3 : jft 8 3 = 0 := by decide +kernel
theorem fn8_3 : jft 8 3 ≠ 1 := by decide +kernel
theorem ft8_4 : jft 8 4 = 0 := by decide +kernel
theorem fn8_4 : jft 8 4 ≠ 1 := by decide +kernel
theorem ft8_5 : jft 8 5 = 0 := by decide +kernel
theorem fn8_5 : jft 8 5 ≠ 1 := by decide +kernel
theorem ft8_6 : jft 8 6 = 0 := by decide +kernel
theorem fn8_6 : jft 8 6 ≠ 1 := by decide +kernel
theorem ft8_7 : jft 8 7 = 0 := by decide +kernel
theorem fn8_7 : jft 8 7 ≠ 1 := by decide +kernel
theorem ft8_8 : jft 8 8 = 0 := by decide +kernel
theorem fn8_8 : jft 8 8 ≠ 1 := by decide +kernel
theorem ft8_9 : jft 8 9 = 1 := by decide +kernel
theorem ft8_10 : jft 8 10 = 1 := by decide +kernel
theorem ft8_11 : jft 8 11 = 1 := by decide +kernel
theorem ft8_12 : jft 8 12 = 1 := by decide +kernel
theorem ft8_13 : jft 8 13 = 1 := by decide +kernel
theorem ft8_14 : jft 8 14 = 1 := by decide +kernel
theorem ft9_0 : jft 9 0 = 1 := by decide +kernel
theorem ft9_1 : jft 9 1 = 0 := by decide +kernel
theorem fn9_1 : jft 9 1 ≠ 1 := by decide +kernel
theorem ft9_2 : jft 9 2 = 0 := by decide +kernel
theorem fn9_2 : jft 9 2 ≠ 1 := by decide +kernel
theorem ft9_3 : jft 9 3 = 1 := by decide +kernel
theorem ft9_4 : jft 9 4 = 1 := by decide +kernel
theorem ft9_5 : jft 9 5 = 1 := by decide +kernel
theorem ft9_6 : jft 9 6 = 1 := by decide +kernel
theorem ft9_7 : jft 9 7 = 1 := by decide +kernel
theorem ft9_8 : jft 9 8 = 1 := by decide +kernel
theorem ft10_0 : jft 10 0 = 0 := by decide +kernel
theorem fn10_0 : jft 10 0 ≠ 1 := by decide +kernel
theorem ft10_1 : jft 10 1 = 1 := by decide +kernel
theorem ft10_2 : jft 10 2 = 0 := by decide +kernel
theorem fn10_2 : jft 10 2 ≠ 1 := by decide +kernel
theorem ft10_3 : jft 10 3 = 1 := by decide +kernel
theorem ft10_4 : jft 10 4 = 0 := by decide +kernel
theorem fn10_4 : jft 10 4 ≠ 1 := by decide +kernel
theorem ft10_5 : jft 10 5 = 0 := by decide +kernel
theorem fn10_5 : jft 10 5 ≠ 1 := by decide +kernel
theorem ft10_6 : jft 10 6 = 0 := by decide +kernel
theorem fn10_6 : jft 10 6 ≠ 1 := by decide +kernel
theorem ft10_7 : jft 10 7 = 0 := by decide +kernel
theorem fn10_7 : jft 10 7 ≠ 1 := by decide +kernel
theorem ft10_8 : jft 10 8 = 0 := by decide +kernel
theorem fn10_8 : jft 10 8 ≠ 1 := by decide +kernel
theorem ft10_9 : jft 10 9 = 1 := by decide +kernel
theorem ft10_10 : jft 10 10 = 1 := by decide +kernel
theorem ft10_11 : jft 10 11 = 1 := by decide +kernel
theorem ft10_12 : jft 10 12 = 1 := by decide +kernel
theorem ft10_13 : jft 10 13 = 0 := by decide +kernel
theorem fn10_13 : jft 10 13 ≠ 1 := by decide +kernel
theorem ft10_14 : jft 10 14 = 2 := by decide +kernel
theorem fn10_14 : jft 10 14 ≠ 1 := by decide +kernel
theorem ft10_15 : jft 10 15 = 0 := by decide +kernel
theorem fn10_15 : jft 10 15 ≠ 1 := by decide +kernel
theorem ft10_16 : jft 10 16 = 0 := by decide +kernel
theorem fn10_16 : jft 10 16 ≠ 1 := by decide +kernel
theorem ft10_17 : jft 10 17 = 0 := by decide +kernel
theorem fn10_17 : jft 10 17 ≠ 1 := by decide +kernel
theorem ft10_18 : jft 10 18 = 0 := by decide +kernel
theorem fn10_18 : jft 10 18 ≠ 1 := by decide +kernel
theorem ft10_19 : jft 10 19 = 0 := by decide +kernel
theorem fn10_19 : jft 10 19 ≠ 1 := by decide +kernel
theorem ft10_20 : jft 10 20 = 0 := by decide +kernel
theorem fn10_20 : jft 10 20 ≠ 1 := by decide +kernel
theorem ft10_21 : jft 10 21 = 0 := by decide +kernel
theorem fn10_21 : jft 10 21 ≠ 1 := by decide +kernel
theorem ft10_22 : jft 10 22 = 2 := by decide +kernel
theorem fn10_22 : jft 10 22 ≠ 1 := by decide +kernel
theorem ft10_23 : jft 10 23 = 1 := by decide +kernel
theorem ft10_24 : jft 10 24 = 1 := by decide +kernel
theorem ft10_25 : jft 10 25 = 1 := by decide +kernel
theorem ft10_26 : jft 10 26 = 1 := by decide +kernel
theorem ft10_27 : jft 10 27 = 1 := by decide +kernel
theorem ft10_28 : jft 10 28 = 1 := by decide +kernel
theorem ft10_29 : jft 10 29 = 0 := by decide +kernel
theorem fn10_29 : jft 10 29 ≠ 1 := by decide +kernel
theorem ft10_30 : jft 10 30 = 1 := by decide +kernel
theorem ft10_31 : jft 10 31 = 0 := by decide +kernel
theorem fn10_31 : jft 10 31 ≠ 1 := by decide +kernel
theorem fl_X9_9 : jFL RX9 9 9 0 true := ⟨RX9, TX9, 9, tyX9, rfl, by decide, inX9, tyX9_ok, nmX9, Or.inl (jTB_mem wm_524 rfl), rfl, rfl, lnX9, by decide, fun h => absurd h (by rw [ft9_0]; decide), fun h => absurd h (by rw [ft9_0]; decide), fun _ => Or.inr ⟨_, rfl⟩, fun h => by cases h⟩
theorem nf9_1 : ∀ off : Int, ((1 : Nat), off) ∉ jfo 9 := by
  intro off h
  have h2 : jfo 9 = [(0, 1), (5, 108), (6, 109), (7, 158), (8, 163)] := by decide +kernel
  rw [h2] at h
  simp at h
theorem fl_X9_13 : jFL RX9 13 9 1 false := ⟨RX9, TX9, 9, tyX9, rfl, by decide, inX9, tyX9_ok, nmX9, Or.inl (jTB_mem wm_525 rfl), rfl, rfl, lnX9, by decide, fun _ => rfl, fun h => absurd h (by rw [ft9_1]; decide), fun h => absurd h (by rw [ft9_1]; decide), fun _ => nf9_1⟩
theorem nf9_2 : ∀ off : Int, ((2 : Nat), off) ∉ jfo 9 := by
  intro off h
  have h2 : jfo 9 = [(0, 1), (5, 108), (6, 109), (7, 158), (8, 163)] := by decide +kernel
  rw [h2] at h
  simp at h
theorem fl_X9_17 : jFL RX9 17 9 2 false := ⟨RX9, TX9, 9, tyX9, rfl, by decide, inX9, tyX9_ok, nmX9, Or.inl (jTB_mem wm_526 rfl), rfl, rfl, lnX9, by decide, fun _ => rfl, fun h => absurd h (by rw [ft9_2]; decide), fun h => absurd h (by rw [ft9_2]; decide), fun _ => nf9_2⟩
theorem nf9_3 : ∀ off : Int, ((3 : Nat), off) ∉ jfo 9 := by
  intro off h
  have h2 : jfo 9 = [(0, 1), (5, 108), (6, 109), (7, 158), (8, 163)] := by decide +kernel
  rw [h2] at h
  simp at h
theorem fl_X9_23 : jFL RX9 23 9 3 false := ⟨RX9, TX9, 9, tyX9, rfl, by decide, inX9, tyX9_ok, nmX9, Or.inl (jTB_mem wm_527 rfl), rfl, rfl, lnX9, by decide, fun h => absurd h (by rw [ft9_3]; decide), fun h => absurd h (by rw [ft9_3]; decide), fun _ => Or.inl ⟨_, rfl⟩, fun _ => nf9_3⟩
theorem nf9_4 : ∀ off : Int, ((4 : Nat), off) ∉ jfo 9 := by
  intro off h
  have h2 : jfo 9 = [(0, 1), (5, 108), (6, 109), (7, 158), (8, 163)] := by decide +kernel
  rw [h2] at h
  simp at h
theorem fl_X9_27 : jFL RX9 27 9 4 false := ⟨RX9, TX9, 9, tyX9, rfl, by decide, inX9, tyX9_ok, nmX9, Or.inl (jTB_mem wm_528 rfl), rfl, rfl, lnX9, by decide, fun h => absurd h (by rw [ft9_4]; decide), fun h => absurd h (by rw [ft9_4]; decide), fun _ => Or.inl ⟨_, rfl⟩, fun _ => nf9_4⟩
theorem fl_X9_35 : jFL RX9 35 9 5 true := ⟨RX9, TX9, 9, tyX9, rfl, by decide, inX9, tyX9_ok, nmX9, Or.inl (jTB_mem wm_529 rfl), rfl, rfl, lnX9, by decide, fun h => absurd h (by rw [ft9_5]; decide), fun h => absurd h (by rw [ft9_5]; decide), fun _ => Or.inl ⟨_, rfl⟩, fun h => by cases h⟩
theorem fl_X9_44 : jFL RX9 44 9 6 true := ⟨RX9, TX9, 9, tyX9, rfl, by decide, inX9, tyX9_ok, nmX9, Or.inl (jTB_mem wm_530 rfl), rfl, rfl, lnX9, by decide, fun h => absurd h (by rw [ft9_6]; decide), fun h => absurd h (by rw [ft9_6]; decide), fun _ => Or.inl ⟨_, rfl⟩, fun h => by cases h⟩
theorem fl_X9_51 : jFL RX9 51 9 7 true := ⟨RX9, TX9, 9, tyX9, rfl, by decide, inX9, tyX9_ok, nmX9, Or.inl (jTB_mem wm_531 rfl), rfl, rfl, lnX9, by decide, fun h => absurd h (by rw [ft9_7]; decide), fun h => absurd h (by rw [ft9_7]; decide), fun _ => Or.inl ⟨_, rfl⟩, fun h => by cases h⟩
theorem fl_X9_58 : jFL RX9 58 9 8 true := ⟨RX9, TX9, 9, tyX9, rfl, by decide, inX9, tyX9_ok, nmX9, Or.inl (jTB_mem wm_532 rfl), rfl, rfl, lnX9, by decide, fun h => absurd h (by rw [ft9_8]; decide), fun h => absurd h (by rw [ft9_8]; decide), fun _ => Or.inl ⟨_, rfl⟩, fun h => by cases h⟩
theorem fl_X9_80 : jFL RX9 80 1 6 true := ⟨RX1, TX1, 8, tyX1, rfl, by decide, inX1, tyX1_ok, nmX1, Or.inr ⟨"IceJudge", jNB_mem wm_331 rfl⟩, rfl, rfl, lnX1, by decide, fun h => absurd h (by rw [ft1_6]; decide), fun h => absurd h (by rw [ft1_6]; decide), fun _ => Or.inl ⟨_, rfl⟩, fun h => by cases h⟩
theorem nf2_3 : ∀ off : Int, ((3 : Nat), off) ∉ jfo 2 := by
  intro off h
  have h2 : jfo 2 = [(1, 1), (2, 2)] := by decide +kernel
  rw [h2] at h
  simp at h
theorem fl_X9_84 : jFL RX9 84 2 3 false := ⟨RX2, TX2, 4, tyX2, rfl, by decide, inX2, tyX2_ok, nmX2, Or.inr ⟨"IceJudge", jNB_mem wm_192 rfl⟩, rfl, rfl, lnX2, by decide, fun _ => rfl, fun h => absurd h (by rw [ft2_3]; decide), fun h => absurd h (by rw [ft2_3]; decide), fun _ => nf2_3⟩
theorem fl_X9_99 : jFL RX9 99 1 2 true := ⟨RX1, TX1, 8, tyX1, rfl, by decide, inX1, tyX1_ok, nmX1, Or.inr ⟨"IceJudge", jNB_mem wm_313 rfl⟩, rfl, rfl, lnX1, by decide, fun h => absurd h (by rw [ft1_2]; decide), fun h => absurd h (by rw [ft1_2]; decide), fun _ => Or.inl ⟨_, rfl⟩, fun h => by cases h⟩
theorem fl_X9_102 : jFL RX9 102 1 3 true := ⟨RX1, TX1, 8, tyX1, rfl, by decide, inX1, tyX1_ok, nmX1, Or.inr ⟨"IceJudge", jNB_mem wm_318 rfl⟩, rfl, rfl, lnX1, by decide, fun h => absurd h (by rw [ft1_3]; decide), fun h => absurd h (by rw [ft1_3]; decide), fun _ => Or.inr ⟨_, rfl⟩, fun h => by cases h⟩
theorem fl_X9_105 : jFL RX9 105 1 4 true := ⟨RX1, TX1, 8, tyX1, rfl, by decide, inX1, tyX1_ok, nmX1, Or.inr ⟨"IceJudge", jNB_mem wm_322 rfl⟩, rfl, rfl, lnX1, by decide, fun h => absurd h (by rw [ft1_4]; decide), fun h => absurd h (by rw [ft1_4]; decide), fun _ => Or.inr ⟨_, rfl⟩, fun h => by cases h⟩
theorem fl_X9_117 : jFL RX9 117 1 7 true := ⟨RX1, TX1, 8, tyX1, rfl, by decide, inX1, tyX1_ok, nmX1, Or.inr ⟨"IceJudge", jNB_mem wm_337 rfl⟩, rfl, rfl, lnX1, by decide, fun h => absurd h (by rw [ft1_7]; decide), fun h => absurd h (by rw [ft1_7]; decide), fun _ => Or.inr ⟨_, rfl⟩, fun h => by cases h⟩
theorem fl_X9_125 : jFL RX9 125 6 3 true := ⟨RX6, TX6, 8, tyX6, rfl, by decide, inX6, tyX6_ok, nmX6, Or.inr ⟨"IceJudge", jNB_mem wm_261 rfl⟩, rfl, rfl, lnX6, by decide, fun h => absurd h (by rw [ft6_3]; decide), fun h => absurd h (by rw [ft6_3]; decide), fun _ => Or.inr ⟨_, rfl⟩, fun h => by cases h⟩
theorem fl_X9_130 : jFL RX9 130 6 4 true := ⟨RX6, TX6, 8, tyX6, rfl, by decide, inX6, tyX6_ok, nmX6, Or.inr ⟨"IceJudge", jNB_mem wm_266 rfl⟩, rfl, rfl, lnX6, by decide, fun h => absurd h (by rw [ft6_4]; decide), fun h => absurd h (by rw [ft6_4]; decide), fun _ => Or.inr ⟨_, rfl⟩, fun h => by cases h⟩
theorem fl_X9_136 : jFL RX9 136 6 6 true := ⟨RX6, TX6, 8, tyX6, rfl, by decide, inX6, tyX6_ok, nmX6, Or.inr ⟨"IceJudge", jNB_mem wm_276 rfl⟩, rfl, rfl, lnX6, by decide, fun h => absurd h (by rw [ft6_6]; decide), fun h => absurd h (by rw [ft6_6]; decide), fun _ => Or.inr ⟨_, rfl⟩, fun h => by cases h⟩
theorem fl_X9_145 : jFL RX9 145 8 9 true := ⟨RX8, TX8, 15, tyX8, rfl, by decide, inX8, tyX8_ok, nmX8, Or.inr ⟨"IceJudge", jNB_mem wm_421 rfl⟩, rfl, rfl, lnX8, by decide, fun h => absurd h (by rw [ft8_9]; decide), fun h => absurd h (by rw [ft8_9]; decide), fun _ => Or.inr ⟨_, rfl⟩, fun h => by cases h⟩
theorem fl_X9_167 : jFL RX9 167 6 7 true := ⟨RX6, TX6, 8, tyX6, rfl, by decide, inX6, tyX6_ok, nmX6, Or.inr ⟨"IceJudge", jNB_mem wm_281 rfl⟩, rfl, rfl, lnX6, by decide, fun h => absurd h (by rw [ft6_7]; decide), fun h => absurd h (by rw [ft6_7]; decide), fun _ => Or.inr ⟨_, rfl⟩, fun h => by cases h⟩
theorem nf8_6 : ∀ off : Int, ((6 : Nat), off) ∉ jfo 8 := by
  intro off h
  have h2 : jfo 8 = [(9, 1), (10, 2), (11, 3), (12, 4), (13, 5), (14, 6)] := by decide +kernel
  rw [h2] at h
  simp at h
theorem fl_X9_185 : jFL RX9 185 8 6 false := ⟨RX8, TX8, 15, tyX8, rfl, by decide, inX8, tyX8_ok, nmX8, Or.inr ⟨"IceJudge", jNB_mem wm_413 rfl⟩, rfl, rfl, lnX8, by decide, fun _ => rfl, fun h => absurd h (by rw [ft8_6]; decide), fun h => absurd h (by rw [ft8_6]; decide), fun _ => nf8_6⟩
theorem nf8_7 : ∀ off : Int, ((7 : Nat), off) ∉ jfo 8 := by
  intro off h
  have h2 : jfo 8 = [(9, 1), (10, 2), (11, 3), (12, 4), (13, 5), (14, 6)] := by decide +kernel
  rw [h2] at h
  simp at h
theorem fl_X9_188 : jFL RX9 188 8 7 false := ⟨RX8, TX8, 15, tyX8, rfl, by decide, inX8, tyX8_ok, nmX8, Or.inr ⟨"IceJudge", jNB_mem wm_415 rfl⟩, rfl, rfl, lnX8, by decide, fun _ => rfl, fun h => absurd h (by rw [ft8_7]; decide), fun h => absurd h (by rw [ft8_7]; decide), fun _ => nf8_7⟩
theorem fl_X9_191 : jFL RX9 191 8 12 true := ⟨RX8, TX8, 15, tyX8, rfl, by decide, inX8, tyX8_ok, nmX8, Or.inr ⟨"IceJudge", jNB_mem wm_425 rfl⟩, rfl, rfl, lnX8, by decide, fun h => absurd h (by rw [ft8_12]; decide), fun h => absurd h (by rw [ft8_12]; decide), fun _ => Or.inr ⟨_, rfl⟩, fun h => by cases h⟩
theorem nf8_5 : ∀ off : Int, ((5 : Nat), off) ∉ jfo 8 := by
  intro off h
  have h2 : jfo 8 = [(9, 1), (10, 2), (11, 3), (12, 4), (13, 5), (14, 6)] := by decide +kernel
  rw [h2] at h
  simp at h
theorem fl_X9_196 : jFL RX9 196 8 5 false := ⟨RX8, TX8, 15, tyX8, rfl, by decide, inX8, tyX8_ok, nmX8, Or.inr ⟨"IceJudge", jNB_mem wm_410 rfl⟩, rfl, rfl, lnX8, by decide, fun _ => rfl, fun h => absurd h (by rw [ft8_5]; decide), fun h => absurd h (by rw [ft8_5]; decide), fun _ => nf8_5⟩
theorem nf8_8 : ∀ off : Int, ((8 : Nat), off) ∉ jfo 8 := by
  intro off h
  have h2 : jfo 8 = [(9, 1), (10, 2), (11, 3), (12, 4), (13, 5), (14, 6)] := by decide +kernel
  rw [h2] at h
  simp at h
theorem fl_X9_199 : jFL RX9 199 8 8 false := ⟨RX8, TX8, 15, tyX8, rfl, by decide, inX8, tyX8_ok, nmX8, Or.inr ⟨"IceJudge", jNB_mem wm_419 rfl⟩, rfl, rfl, lnX8, by decide, fun _ => rfl, fun h => absurd h (by rw [ft8_8]; decide), fun h => absurd h (by rw [ft8_8]; decide), fun _ => nf8_8⟩
theorem fl_X9_204 : jFL RX9 204 1 5 true := ⟨RX1, TX1, 8, tyX1, rfl, by decide, inX1, tyX1_ok, nmX1, Or.inr ⟨"IceJudge", jNB_mem wm_326 rfl⟩, rfl, rfl, lnX1, by decide, fun h => absurd h (by rw [ft1_5]; decide), fun h => absurd h (by rw [ft1_5]; decide), fun _ => Or.inl ⟨_, rfl⟩, fun h => by cases h⟩
theorem nf5_0 : ∀ off : Int, ((0 : Nat), off) ∉ jfo 5 := by
  intro off h
  have h2 : jfo 5 = [(2, 1), (3, 2), (4, 3), (5, 4), (6, 5)] := by decide +kernel
  rw [h2] at h
  simp at h
theorem fl_X9_208 : jFL RX9 208 5 0 false := ⟨RX5, TX5, 7, tyX5, rfl, by decide, inX5, tyX5_ok, nmX5, Or.inr ⟨"IceJudge", jNB_mem wm_212 rfl⟩, rfl, rfl, lnX5, by decide, fun _ => rfl, fun h => absurd h (by rw [ft5_0]; decide), fun h => absurd h (by rw [ft5_0]; decide), fun _ => nf5_0⟩
theorem fl_X9_251 : jFL RX9 251 1 1 true := ⟨RX1, TX1, 8, tyX1, rfl, by decide, inX1, tyX1_ok, nmX1, Or.inr ⟨"IceJudge", jNB_mem wm_310 rfl⟩, rfl, rfl, lnX1, by decide, fun h => absurd h (by rw [ft1_1]; decide), fun h => absurd h (by rw [ft1_1]; decide), fun _ => Or.inr ⟨_, rfl⟩, fun h => by cases h⟩
theorem nf6_1 : ∀ off : Int, ((1 : Nat), off) ∉ jfo 6 := by
  intro off h
  have h2 : jfo 6 = [(3, 1), (4, 2), (5, 3), (6, 4), (7, 5)] := by decide +kernel
  rw [h2] at h
  simp at h
theorem fl_X9_254 : jFL RX9 254 6 1 false := ⟨RX6, TX6, 8, tyX6, rfl, by decide, inX6, tyX6_ok, nmX6, Or.inr ⟨"IceJudge", jNB_mem wm_255 rfl⟩, rfl, rfl, lnX6, by decide, fun _ => rfl, fun h => absurd h (by rw [ft6_1]; decide), fun h => absurd h (by rw [ft6_1]; decide), fun _ => nf6_1⟩
theorem nf0_0 : ∀ off : Int, ((0 : Nat), off) ∉ jfo 0 := by
  intro off h
  have h2 : jfo 0 = [(2, 1), (3, 2), (4, 3), (5, 4)] := by decide +kernel
  rw [h2] at h
  simp at h
theorem fl_X9_264 : jFL RX9 264 0 0 false := ⟨RX0, TX0, 6, tyX0, rfl, by decide, inX0, tyX0_ok, nmX0, Or.inr ⟨"IceJudge", jNB_mem wm_490 rfl⟩, rfl, rfl, lnX0, by decide, fun _ => rfl, fun h => absurd h (by rw [ft0_0]; decide), fun h => absurd h (by rw [ft0_0]; decide), fun _ => nf0_0⟩
theorem fl_X9_286 : jFL RX9 286 7 4 true := ⟨RX7, TX7, 7, tyX7, rfl, by decide, inX7, tyX7_ok, nmX7, Or.inr ⟨"IceJudge", jNB_mem wm_465 rfl⟩, rfl, rfl, lnX7, by decide, fun h => absurd h (by rw [ft7_4]; decide), fun h => absurd h (by rw [ft7_4]; decide), fun _ => Or.inr ⟨_, rfl⟩, fun h => by cases h⟩
theorem nf1_0 : ∀ off : Int, ((0 : Nat), off) ∉ jfo 1 := by
  intro off h
  have h2 : jfo 1 = [(1, 1), (2, 2), (3, 5), (4, 6), (5, 7), (6, 13), (7, 16)] := by decide +kernel
  rw [h2] at h
  simp at h
theorem fl_X9_295 : jFL RX9 295 1 0 false := ⟨RX1, TX1, 8, tyX1, rfl, by decide, inX1, tyX1_ok, nmX1, Or.inr ⟨"IceJudge", jNB_mem wm_305 rfl⟩, rfl, rfl, lnX1, by decide, fun _ => rfl, fun h => absurd h (by rw [ft1_0]; decide), fun h => absurd h (by rw [ft1_0]; decide), fun _ => nf1_0⟩
theorem fl_X9_336 : jFL RX9 336 7 1 true := ⟨RX7, TX7, 7, tyX7, rfl, by decide, inX7, tyX7_ok, nmX7, Or.inr ⟨"IceJudge", jNB_mem wm_461 rfl⟩, rfl, rfl, lnX7, by decide, fun h => absurd h (by rw [ft7_1]; decide), fun h => absurd h (by rw [ft7_1]; decide), fun _ => Or.inr ⟨_, rfl⟩, fun h => by cases h⟩
theorem nf3_1 : ∀ off : Int, ((1 : Nat), off) ∉ jfo 3 := by
  intro off h
  have h2 : jfo 3 = [(0, 1)] := by decide +kernel
  rw [h2] at h
  simp at h
theorem fl_X9_347 : jFL RX9 347 3 1 false := ⟨RX3, TX3, 2, tyX3, rfl, by decide, inX3, tyX3_ok, nmX3, Or.inr ⟨"IceJudge", jNB_mem wm_518 rfl⟩, rfl, rfl, lnX3, by decide, fun _ => rfl, fun h => absurd h (by rw [ft3_1]; decide), fun h => absurd h (by rw [ft3_1]; decide), fun _ => nf3_1⟩
theorem fl_X9_348 : jFL RX9 348 3 0 true := ⟨RX3, TX3, 2, tyX3, rfl, by decide, inX3, tyX3_ok, nmX3, Or.inr ⟨"IceJudge", jNB_mem wm_516 rfl⟩, rfl, rfl, lnX3, by decide, fun h => absurd h (by rw [ft3_0]; decide), fun h => absurd h (by rw [ft3_0]; decide), fun _ => Or.inr ⟨_, rfl⟩, fun h => by cases h⟩
theorem nf6_0 : ∀ off : Int, ((0 : Nat), off) ∉ jfo 6 := by
  intro off h
  have h2 : jfo 6 = [(3, 1), (4, 2), (5, 3), (6, 4), (7, 5)] := by decide +kernel
  rw [h2] at h
  simp at h
theorem fl_X9_351 : jFL RX9 351 6 0 false := ⟨RX6, TX6, 8, tyX6, rfl, by decide, inX6, tyX6_ok, nmX6, Or.inr ⟨"IceJudge", jNB_mem wm_252 rfl⟩, rfl, rfl, lnX6, by decide, fun _ => rfl, fun h => absurd h (by rw [ft6_0]; decide), fun h => absurd h (by rw [ft6_0]; decide), fun _ => nf6_0⟩
theorem fl_X0_9 : jFL RX0 9 0 0 false := ⟨RX0, TX0, 6, tyX0, rfl, by decide, inX0, tyX0_ok, nmX0, Or.inl (jTB_mem wm_489 rfl), rfl, rfl, lnX0, by decide, fun _ => rfl, fun h => absurd h (by rw [ft0_0]; decide), fun h => absurd h (by rw [ft0_0]; decide), fun _ => nf0_0⟩
theorem nf0_1 : ∀ off : Int, ((1 : Nat), off) ∉ jfo 0 := by
  intro off h
  have h2 : jfo 0 = [(2, 1), (3, 2), (4, 3), (5, 4)] := by decide +kernel
  rw [h2] at h
  simp at h
theorem fl_X0_15 : jFL RX0 15 0 1 false := ⟨RX0, TX0, 6, tyX0, rfl, by decide, inX0, tyX0_ok, nmX0, Or.inl (jTB_mem wm_491 rfl), rfl, rfl, lnX0, by decide, fun _ => rfl, fun h => absurd h (by rw [ft0_1]; decide), fun h => absurd h (by rw [ft0_1]; decide), fun _ => nf0_1⟩
theorem fl_X0_18 : jFL RX0 18 0 2 true := ⟨RX0, TX0, 6, tyX0, rfl, by decide, inX0, tyX0_ok, nmX0, Or.inl (jTB_mem wm_492 rfl), rfl, rfl, lnX0, by decide, fun h => absurd h (by rw [ft0_2]; decide), fun h => absurd h (by rw [ft0_2]; decide), fun _ => Or.inr ⟨_, rfl⟩, fun h => by cases h⟩
theorem fl_X0_22 : jFL RX0 22 0 3 true := ⟨RX0, TX0, 6, tyX0, rfl, by decide, inX0, tyX0_ok, nmX0, Or.inl (jTB_mem wm_493 rfl), rfl, rfl, lnX0, by decide, fun h => absurd h (by rw [ft0_3]; decide), fun h => absurd h (by rw [ft0_3]; decide), fun _ => Or.inr ⟨_, rfl⟩, fun h => by cases h⟩
theorem fl_X0_25 : jFL RX0 25 0 4 true := ⟨RX0, TX0, 6, tyX0, rfl, by decide, inX0, tyX0_ok, nmX0, Or.inl (jTB_mem wm_494 rfl), rfl, rfl, lnX0, by decide, fun h => absurd h (by rw [ft0_4]; decide), fun h => absurd h (by rw [ft0_4]; decide), fun _ => Or.inr ⟨_, rfl⟩, fun h => by cases h⟩
theorem fl_X0_28 : jFL RX0 28 0 5 true := ⟨RX0, TX0, 6, tyX0, rfl, by decide, inX0, tyX0_ok, nmX0, Or.inl (jTB_mem wm_495 rfl), rfl, rfl, lnX0, by decide, fun h => absurd h (by rw [ft0_5]; decide), fun h => absurd h (by rw [ft0_5]; decide), fun _ => Or.inr ⟨_, rfl⟩, fun h => by cases h⟩
theorem fl_X0_37 : jFL RX0 37 1 7 true := ⟨RX1, TX1, 8, tyX1, rfl, by decide, inX1, tyX1_ok, nmX1, Or.inr ⟨"IceJudge", jNB_mem wm_336 rfl⟩, rfl, rfl, lnX1, by decide, fun h => absurd h (by rw [ft1_7]; decide), fun h => absurd h (by rw [ft1_7]; decide), fun _ => Or.inr ⟨_, rfl⟩, fun h => by cases h⟩
theorem fl_X0_43 : jFL RX0 43 6 7 true := ⟨RX6, TX6, 8, tyX6, rfl, by decide, inX6, tyX6_ok, nmX6, Or.inr ⟨"IceJudge", jNB_mem wm_279 rfl⟩, rfl, rfl, lnX6, by decide, fun h => absurd h (by rw [ft6_7]; decide), fun h => absurd h (by rw [ft6_7]; decide), fun _ => Or.inr ⟨_, rfl⟩, fun h => by cases h⟩
theorem fl_X0_48 : jFL RX0 48 6 6 true := ⟨RX6, TX6, 8, tyX6, rfl, by decide, inX6, tyX6_ok, nmX6, Or.inr ⟨"IceJudge", jNB_mem wm_275 rfl⟩, rfl, rfl, lnX6, by decide, fun h => absurd h (by rw [ft6_6]; decide), fun h => absurd h (by rw [ft6_6]; decide), fun _ => Or.inr ⟨_, rfl⟩, fun h => by cases h⟩
theorem fl_X0_51 : jFL RX0 51 1 3 true := ⟨RX1, TX1, 8, tyX1, rfl, by decide, inX1, tyX1_ok, nmX1, Or.inr ⟨"IceJudge", jNB_mem wm_317 rfl⟩, rfl, rfl, lnX1, by decide, fun h => absurd h (by rw [ft1_3]; decide), fun h => absurd h (by rw [ft1_3]; decide), fun _ => Or.inr ⟨_, rfl⟩, fun h => by cases h⟩
theorem fl_X0_54 : jFL RX0 54 1 1 true := ⟨RX1, TX1, 8, tyX1, rfl, by decide, inX1, tyX1_ok, nmX1, Or.inr ⟨"IceJudge", jNB_mem wm_308 rfl⟩, rfl, rfl, lnX1, by decide, fun h => absurd h (by rw [ft1_1]; decide), fun h => absurd h (by rw [ft1_1]; decide), fun _ => Or.inr ⟨_, rfl⟩, fun h => by cases h⟩
theorem fl_X0_57 : jFL RX0 57 6 1 false := ⟨RX6, TX6, 8, tyX6, rfl, by decide, inX6, tyX6_ok, nmX6, Or.inr ⟨"IceJudge", jNB_mem wm_254 rfl⟩, rfl, rfl, lnX6, by decide, fun _ => rfl, fun h => absurd h (by rw [ft6_1]; decide), fun h => absurd h (by rw [ft6_1]; decide), fun _ => nf6_1⟩
theorem fl_X1_9 : jFL RX1 9 1 0 false := ⟨RX1, TX1, 8, tyX1, rfl, by decide, inX1, tyX1_ok, nmX1, Or.inl (jTB_mem wm_301 rfl), rfl, rfl, lnX1, by decide, fun _ => rfl, fun h => absurd h (by rw [ft1_0]; decide), fun h => absurd h (by rw [ft1_0]; decide), fun _ => nf1_0⟩
theorem fl_X1_15 : jFL RX1 15 1 1 true := ⟨RX1, TX1, 8, tyX1, rfl, by decide, inX1, tyX1_ok, nmX1, Or.inl (jTB_mem wm_306 rfl), rfl, rfl, lnX1, by decide, fun h => absurd h (by rw [ft1_1]; decide), fun h => absurd h (by rw [ft1_1]; decide), fun _ => Or.inr ⟨_, rfl⟩, fun h => by cases h⟩
theorem fl_X1_24 : jFL RX1 24 1 2 true := ⟨RX1, TX1, 8, tyX1, rfl, by decide, inX1, tyX1_ok, nmX1, Or.inl (jTB_mem wm_311 rfl), rfl, rfl, lnX1, by decide, fun h => absurd h (by rw [ft1_2]; decide), fun h => absurd h (by rw [ft1_2]; decide), fun _ => Or.inl ⟨_, rfl⟩, fun h => by cases h⟩
theorem fl_X1_28 : jFL RX1 28 1 3 true := ⟨RX1, TX1, 8, tyX1, rfl, by decide, inX1, tyX1_ok, nmX1, Or.inl (jTB_mem wm_315 rfl), rfl, rfl, lnX1, by decide, fun h => absurd h (by rw [ft1_3]; decide), fun h => absurd h (by rw [ft1_3]; decide), fun _ => Or.inr ⟨_, rfl⟩, fun h => by cases h⟩
theorem fl_X1_31 : jFL RX1 31 1 4 true := ⟨RX1, TX1, 8, tyX1, rfl, by decide, inX1, tyX1_ok, nmX1, Or.inl (jTB_mem wm_320 rfl), rfl, rfl, lnX1, by decide, fun h => absurd h (by rw [ft1_4]; decide), fun h => absurd h (by rw [ft1_4]; decide), fun _ => Or.inr ⟨_, rfl⟩, fun h => by cases h⟩
theorem fl_X1_37 : jFL RX1 37 1 5 true := ⟨RX1, TX1, 8, tyX1, rfl, by decide, inX1, tyX1_ok, nmX1, Or.inl (jTB_mem wm_324 rfl), rfl, rfl, lnX1, by decide, fun h => absurd h (by rw [ft1_5]; decide), fun h => absurd h (by rw [ft1_5]; decide), fun _ => Or.inl ⟨_, rfl⟩, fun h => by cases h⟩
theorem fl_X1_41 : jFL RX1 41 1 6 true := ⟨RX1, TX1, 8, tyX1, rfl, by decide, inX1, tyX1_ok, nmX1, Or.inl (jTB_mem wm_328 rfl), rfl, rfl, lnX1, by decide, fun h => absurd h (by rw [ft1_6]; decide), fun h => absurd h (by rw [ft1_6]; decide), fun _ => Or.inl ⟨_, rfl⟩, fun h => by cases h⟩
theorem fl_X1_46 : jFL RX1 46 1 7 true := ⟨RX1, TX1, 8, tyX1, rfl, by decide, inX1, tyX1_ok, nmX1, Or.inl (jTB_mem wm_333 rfl), rfl, rfl, lnX1, by decide, fun h => absurd h (by rw [ft1_7]; decide), fun h => absurd h (by rw [ft1_7]; decide), fun _ => Or.inr ⟨_, rfl⟩, fun h => by cases h⟩
theorem fl_X2_9 : jFL RX2 9 2 3 false := ⟨RX2, TX2, 4, tyX2, rfl, by decide, inX2, tyX2_ok, nmX2, Or.inl (jTB_mem wm_190 rfl), rfl, rfl, lnX2, by decide, fun _ => rfl, fun h => absurd h (by rw [ft2_3]; decide), fun h => absurd h (by rw [ft2_3]; decide), fun _ => nf2_3⟩
theorem fl_X2_15 : jFL RX2 15 2 0 true := ⟨RX2, TX2, 4, tyX2, rfl, by decide, inX2, tyX2_ok, nmX2, Or.inl (jTB_mem wm_187 rfl), rfl, rfl, lnX2, by decide, fun _ => rfl, fun h => absurd h (by rw [ft2_0]; decide), fun h => absurd h (by rw [ft2_0]; decide), fun h => by cases h⟩
theorem fl_X2_18 : jFL RX2 18 2 1 true := ⟨RX2, TX2, 4, tyX2, rfl, by decide, inX2, tyX2_ok, nmX2, Or.inl (jTB_mem wm_188 rfl), rfl, rfl, lnX2, by decide, fun h => absurd h (by rw [ft2_1]; decide), fun h => absurd h (by rw [ft2_1]; decide), fun _ => Or.inr ⟨_, rfl⟩, fun h => by cases h⟩
theorem fl_X2_22 : jFL RX2 22 2 2 true := ⟨RX2, TX2, 4, tyX2, rfl, by decide, inX2, tyX2_ok, nmX2, Or.inl (jTB_mem wm_189 rfl), rfl, rfl, lnX2, by decide, fun h => absurd h (by rw [ft2_2]; decide), fun h => absurd h (by rw [ft2_2]; decide), fun _ => Or.inr ⟨_, rfl⟩, fun h => by cases h⟩
theorem fl_X3_9 : jFL RX3 9 3 0 true := ⟨RX3, TX3, 2, tyX3, rfl, by decide, inX3, tyX3_ok, nmX3, Or.inl (jTB_mem wm_515 rfl), rfl, rfl, lnX3, by decide, fun h => absurd h (by rw [ft3_0]; decide), fun h => absurd h (by rw [ft3_0]; decide), fun _ => Or.inr ⟨_, rfl⟩, fun h => by cases h⟩
theorem fl_X3_15 : jFL RX3 15 3 1 false := ⟨RX3, TX3, 2, tyX3, rfl, by decide, inX3, tyX3_ok, nmX3, Or.inl (jTB_mem wm_517 rfl), rfl, rfl, lnX3, by decide, fun _ => rfl, fun h => absurd h (by rw [ft3_1]; decide), fun h => absurd h (by rw [ft3_1]; decide), fun _ => nf3_1⟩
theorem fl_X3_19 : jFL RX3 19 1 7 true := ⟨RX1, TX1, 8, tyX1, rfl, by decide, inX1, tyX1_ok, nmX1, Or.inr ⟨"IceJudge", jNB_mem wm_335 rfl⟩, rfl, rfl, lnX1, by decide, fun h => absurd h (by rw [ft1_7]; decide), fun h => absurd h (by rw [ft1_7]; decide), fun _ => Or.inr ⟨_, rfl⟩, fun h => by cases h⟩
theorem fl_X3_25 : jFL RX3 25 1 6 true := ⟨RX1, TX1, 8, tyX1, rfl, by decide, inX1, tyX1_ok, nmX1, Or.inr ⟨"IceJudge", jNB_mem wm_330 rfl⟩, rfl, rfl, lnX1, by decide, fun h => absurd h (by rw [ft1_6]; decide), fun h => absurd h (by rw [ft1_6]; decide), fun _ => Or.inl ⟨_, rfl⟩, fun h => by cases h⟩
theorem fl_X3_37 : jFL RX3 37 8 8 false := ⟨RX8, TX8, 15, tyX8, rfl, by decide, inX8, tyX8_ok, nmX8, Or.inr ⟨"IceJudge", jNB_mem wm_417 rfl⟩, rfl, rfl, lnX8, by decide, fun _ => rfl, fun h => absurd h (by rw [ft8_8]; decide), fun h => absurd h (by rw [ft8_8]; decide), fun _ => nf8_8⟩
theorem fl_X3_45 : jFL RX3 45 6 0 false := ⟨RX6, TX6, 8, tyX6, rfl, by decide, inX6, tyX6_ok, nmX6, Or.inr ⟨"IceJudge", jNB_mem wm_248 rfl⟩, rfl, rfl, lnX6, by decide, fun _ => rfl, fun h => absurd h (by rw [ft6_0]; decide), fun h => absurd h (by rw [ft6_0]; decide), fun _ => nf6_0⟩
theorem fl_X3_58 : jFL RX3 58 6 4 true := ⟨RX6, TX6, 8, tyX6, rfl, by decide, inX6, tyX6_ok, nmX6, Or.inr ⟨"IceJudge", jNB_mem wm_264 rfl⟩, rfl, rfl, lnX6, by decide, fun h => absurd h (by rw [ft6_4]; decide), fun h => absurd h (by rw [ft6_4]; decide), fun _ => Or.inr ⟨_, rfl⟩, fun h => by cases h⟩
theorem fl_X3_61 : jFL RX3 61 1 2 true := ⟨RX1, TX1, 8, tyX1, rfl, by decide, inX1, tyX1_ok, nmX1, Or.inr ⟨"IceJudge", jNB_mem wm_312 rfl⟩, rfl, rfl, lnX1, by decide, fun h => absurd h (by rw [ft1_2]; decide), fun h => absurd h (by rw [ft1_2]; decide), fun _ => Or.inl ⟨_, rfl⟩, fun h => by cases h⟩
theorem fl_X3_64 : jFL RX3 64 6 5 true := ⟨RX6, TX6, 8, tyX6, rfl, by decide, inX6, tyX6_ok, nmX6, Or.inr ⟨"IceJudge", jNB_mem wm_269 rfl⟩, rfl, rfl, lnX6, by decide, fun h => absurd h (by rw [ft6_5]; decide), fun h => absurd h (by rw [ft6_5]; decide), fun _ => Or.inr ⟨_, rfl⟩, fun h => by cases h⟩
theorem fl_X3_67 : jFL RX3 67 6 6 true := ⟨RX6, TX6, 8, tyX6, rfl, by decide, inX6, tyX6_ok, nmX6, Or.inr ⟨"IceJudge", jNB_mem wm_274 rfl⟩, rfl, rfl, lnX6, by decide, fun h => absurd h (by rw [ft6_6]; decide), fun h => absurd h (by rw [ft6_6]; decide), fun _ => Or.inr ⟨_, rfl⟩, fun h => by cases h⟩
theorem nf4_2 : ∀ off : Int, ((2 : Nat), off) ∉ jfo 4 := by
  intro off h
  have h2 : jfo 4 = [(0, -107)] := by decide +kernel
  rw [h2] at h
  simp at h
theorem fl_X4_9 : jFL RX4 9 4 2 false := ⟨RX4, TX4, 9, tyX4, rfl, by decide, inX4, tyX4_ok, nmX4, Or.inl (jTB_mem wm_365 rfl), rfl, rfl, lnX4, by decide, fun _ => rfl, fun h => absurd h (by rw [ft4_2]; decide), fun h => absurd h (by rw [ft4_2]; decide), fun _ => nf4_2⟩
theorem nf4_3 : ∀ off : Int, ((3 : Nat), off) ∉ jfo 4 := by
  intro off h
  have h2 : jfo 4 = [(0, -107)] := by decide +kernel
  rw [h2] at h
  simp at h
theorem fl_X4_15 : jFL RX4 15 4 3 false := ⟨RX4, TX4, 9, tyX4, rfl, by decide, inX4, tyX4_ok, nmX4, Or.inl (jTB_mem wm_366 rfl), rfl, rfl, lnX4, by decide, fun _ => rfl, fun h => absurd h (by rw [ft4_3]; decide), fun h => absurd h (by rw [ft4_3]; decide), fun _ => nf4_3⟩
theorem nf4_4 : ∀ off : Int, ((4 : Nat), off) ∉ jfo 4 := by
  intro off h
  have h2 : jfo 4 = [(0, -107)] := by decide +kernel
  rw [h2] at h
  simp at h
theorem fl_X4_18 : jFL RX4 18 4 4 false := ⟨RX4, TX4, 9, tyX4, rfl, by decide, inX4, tyX4_ok, nmX4, Or.inl (jTB_mem wm_367 rfl), rfl, rfl, lnX4, by decide, fun _ => rfl, fun h => absurd h (by rw [ft4_4]; decide), fun h => absurd h (by rw [ft4_4]; decide), fun _ => nf4_4⟩
theorem nf4_5 : ∀ off : Int, ((5 : Nat), off) ∉ jfo 4 := by
  intro off h
  have h2 : jfo 4 = [(0, -107)] := by decide +kernel
  rw [h2] at h
  simp at h
theorem fl_X4_21 : jFL RX4 21 4 5 false := ⟨RX4, TX4, 9, tyX4, rfl, by decide, inX4, tyX4_ok, nmX4, Or.inl (jTB_mem wm_368 rfl), rfl, rfl, lnX4, by decide, fun _ => rfl, fun h => absurd h (by rw [ft4_5]; decide), fun h => absurd h (by rw [ft4_5]; decide), fun _ => nf4_5⟩
theorem nf4_6 : ∀ off : Int, ((6 : Nat), off) ∉ jfo 4 := by
  intro off h
  have h2 : jfo 4 = [(0, -107)] := by decide +kernel
  rw [h2] at h
  simp at h
theorem fl_X4_24 : jFL RX4 24 4 6 false := ⟨RX4, TX4, 9, tyX4, rfl, by decide, inX4, tyX4_ok, nmX4, Or.inl (jTB_mem wm_369 rfl), rfl, rfl, lnX4, by decide, fun _ => rfl, fun h => absurd h (by rw [ft4_6]; decide), fun h => absurd h (by rw [ft4_6]; decide), fun _ => nf4_6⟩
theorem nf4_7 : ∀ off : Int, ((7 : Nat), off) ∉ jfo 4 := by
  intro off h
  have h2 : jfo 4 = [(0, -107)] := by decide +kernel
  rw [h2] at h
  simp at h
theorem fl_X4_27 : jFL RX4 27 4 7 false := ⟨RX4, TX4, 9, tyX4, rfl, by decide, inX4, tyX4_ok, nmX4, Or.inl (jTB_mem wm_370 rfl), rfl, rfl, lnX4, by decide, fun _ => rfl, fun h => absurd h (by rw [ft4_7]; decide), fun h => absurd h (by rw [ft4_7]; decide), fun _ => nf4_7⟩
theorem nf4_8 : ∀ off : Int, ((8 : Nat), off) ∉ jfo 4 := by
  intro off h
  have h2 : jfo 4 = [(0, -107)] := by decide +kernel
  rw [h2] at h
  simp at h
theorem fl_X4_30 : jFL RX4 30 4 8 false := ⟨RX4, TX4, 9, tyX4, rfl, by decide, inX4, tyX4_ok, nmX4, Or.inl (jTB_mem wm_371 rfl), rfl, rfl, lnX4, by decide, fun h => absurd h (by rw [ft4_8]; decide), fun _ => rfl, fun h => absurd h (by rw [ft4_8]; decide), fun _ => nf4_8⟩
theorem fl_X4_34 : jFL RX4 34 4 0 true := ⟨RX4, TX4, 9, tyX4, rfl, by decide, inX4, tyX4_ok, nmX4, Or.inl (jTB_mem wm_363 rfl), rfl, rfl, lnX4, by decide, fun h => absurd h (by rw [ft4_0]; decide), fun h => absurd h (by rw [ft4_0]; decide), fun _ => Or.inr ⟨_, rfl⟩, fun h => by cases h⟩
theorem nf4_1 : ∀ off : Int, ((1 : Nat), off) ∉ jfo 4 := by
  intro off h
  have h2 : jfo 4 = [(0, -107)] := by decide +kernel
  rw [h2] at h
  simp at h
theorem fl_X4_38 : jFL RX4 38 4 1 false := ⟨RX4, TX4, 9, tyX4, rfl, by decide, inX4, tyX4_ok, nmX4, Or.inl (jTB_mem wm_364 rfl), rfl, rfl, lnX4, by decide, fun h => absurd h (by rw [ft4_1]; decide), fun h => absurd h (by rw [ft4_1]; decide), fun _ => Or.inl ⟨_, rfl⟩, fun _ => nf4_1⟩
theorem fl_X4_117 : jFL RX4 117 1 2 true := ⟨RX1, TX1, 8, tyX1, rfl, by decide, inX1, tyX1_ok, nmX1, Or.inr ⟨"IceJudge", jNB_mem wm_314 rfl⟩, rfl, rfl, lnX1, by decide, fun h => absurd h (by rw [ft1_2]; decide), fun h => absurd h (by rw [ft1_2]; decide), fun _ => Or.inl ⟨_, rfl⟩, fun h => by cases h⟩
theorem fl_X4_121 : jFL RX4 121 2 3 false := ⟨RX2, TX2, 4, tyX2, rfl, by decide, inX2, tyX2_ok, nmX2, Or.inr ⟨"IceJudge", jNB_mem wm_193 rfl⟩, rfl, rfl, lnX2, by decide, fun _ => rfl, fun h => absurd h (by rw [ft2_3]; decide), fun h => absurd h (by rw [ft2_3]; decide), fun _ => nf2_3⟩
theorem fl_X4_135 : jFL RX4 135 1 4 true := ⟨RX1, TX1, 8, tyX1, rfl, by decide, inX1, tyX1_ok, nmX1, Or.inr ⟨"IceJudge", jNB_mem wm_323 rfl⟩, rfl, rfl, lnX1, by decide, fun h => absurd h (by rw [ft1_4]; decide), fun h => absurd h (by rw [ft1_4]; decide), fun _ => Or.inr ⟨_, rfl⟩, fun h => by cases h⟩
theorem fl_X4_138 : jFL RX4 138 1 3 true := ⟨RX1, TX1, 8, tyX1, rfl, by decide, inX1, tyX1_ok, nmX1, Or.inr ⟨"IceJudge", jNB_mem wm_319 rfl⟩, rfl, rfl, lnX1, by decide, fun h => absurd h (by rw [ft1_3]; decide), fun h => absurd h (by rw [ft1_3]; decide), fun _ => Or.inr ⟨_, rfl⟩, fun h => by cases h⟩
theorem fl_X4_141 : jFL RX4 141 1 0 false := ⟨RX1, TX1, 8, tyX1, rfl, by decide, inX1, tyX1_ok, nmX1, Or.inr ⟨"IceJudge", jNB_mem wm_304 rfl⟩, rfl, rfl, lnX1, by decide, fun _ => rfl, fun h => absurd h (by rw [ft1_0]; decide), fun h => absurd h (by rw [ft1_0]; decide), fun _ => nf1_0⟩
theorem fl_X4_150 : jFL RX4 150 1 1 true := ⟨RX1, TX1, 8, tyX1, rfl, by decide, inX1, tyX1_ok, nmX1, Or.inr ⟨"IceJudge", jNB_mem wm_309 rfl⟩, rfl, rfl, lnX1, by decide, fun h => absurd h (by rw [ft1_1]; decide), fun h => absurd h (by rw [ft1_1]; decide), fun _ => Or.inr ⟨_, rfl⟩, fun h => by cases h⟩
theorem fl_X4_153 : jFL RX4 153 1 6 true := ⟨RX1, TX1, 8, tyX1, rfl, by decide, inX1, tyX1_ok, nmX1, Or.inr ⟨"IceJudge", jNB_mem wm_332 rfl⟩, rfl, rfl, lnX1, by decide, fun h => absurd h (by rw [ft1_6]; decide), fun h => absurd h (by rw [ft1_6]; decide), fun _ => Or.inl ⟨_, rfl⟩, fun h => by cases h⟩
theorem fl_X4_156 : jFL RX4 156 1 7 true := ⟨RX1, TX1, 8, tyX1, rfl, by decide, inX1, tyX1_ok, nmX1, Or.inr ⟨"IceJudge", jNB_mem wm_339 rfl⟩, rfl, rfl, lnX1, by decide, fun h => absurd h (by rw [ft1_7]; decide), fun h => absurd h (by rw [ft1_7]; decide), fun _ => Or.inr ⟨_, rfl⟩, fun h => by cases h⟩
theorem nf6_2 : ∀ off : Int, ((2 : Nat), off) ∉ jfo 6 := by
  intro off h
  have h2 : jfo 6 = [(3, 1), (4, 2), (5, 3), (6, 4), (7, 5)] := by decide +kernel
  rw [h2] at h
  simp at h
theorem fl_X4_160 : jFL RX4 160 6 2 false := ⟨RX6, TX6, 8, tyX6, rfl, by decide, inX6, tyX6_ok, nmX6, Or.inr ⟨"IceJudge", jNB_mem wm_258 rfl⟩, rfl, rfl, lnX6, by decide, fun _ => rfl, fun h => absurd h (by rw [ft6_2]; decide), fun h => absurd h (by rw [ft6_2]; decide), fun _ => nf6_2⟩
theorem fl_X4_169 : jFL RX4 169 6 0 false := ⟨RX6, TX6, 8, tyX6, rfl, by decide, inX6, tyX6_ok, nmX6, Or.inr ⟨"IceJudge", jNB_mem wm_251 rfl⟩, rfl, rfl, lnX6, by decide, fun _ => rfl, fun h => absurd h (by rw [ft6_0]; decide), fun h => absurd h (by rw [ft6_0]; decide), fun _ => nf6_0⟩
theorem fl_X4_176 : jFL RX4 176 6 3 true := ⟨RX6, TX6, 8, tyX6, rfl, by decide, inX6, tyX6_ok, nmX6, Or.inr ⟨"IceJudge", jNB_mem wm_262 rfl⟩, rfl, rfl, lnX6, by decide, fun h => absurd h (by rw [ft6_3]; decide), fun h => absurd h (by rw [ft6_3]; decide), fun _ => Or.inr ⟨_, rfl⟩, fun h => by cases h⟩
theorem fl_X4_182 : jFL RX4 182 6 5 true := ⟨RX6, TX6, 8, tyX6, rfl, by decide, inX6, tyX6_ok, nmX6, Or.inr ⟨"IceJudge", jNB_mem wm_271 rfl⟩, rfl, rfl, lnX6, by decide, fun h => absurd h (by rw [ft6_5]; decide), fun h => absurd h (by rw [ft6_5]; decide), fun _ => Or.inr ⟨_, rfl⟩, fun h => by cases h⟩
theorem fl_X4_184 : jFL RX4 184 6 4 true := ⟨RX6, TX6, 8, tyX6, rfl, by decide, inX6, tyX6_ok, nmX6, Or.inr ⟨"IceJudge", jNB_mem wm_267 rfl⟩, rfl, rfl, lnX6, by decide, fun h => absurd h (by rw [ft6_4]; decide), fun h => absurd h (by rw [ft6_4]; decide), fun _ => Or.inr ⟨_, rfl⟩, fun h => by cases h⟩
theorem fl_X4_187 : jFL RX4 187 6 7 true := ⟨RX6, TX6, 8, tyX6, rfl, by decide, inX6, tyX6_ok, nmX6, Or.inr ⟨"IceJudge", jNB_mem wm_283 rfl⟩, rfl, rfl, lnX6, by decide, fun h => absurd h (by rw [ft6_7]; decide), fun h => absurd h (by rw [ft6_7]; decide), fun _ => Or.inr ⟨_, rfl⟩, fun h => by cases h⟩
theorem fl_X4_191 : jFL RX4 191 6 6 true := ⟨RX6, TX6, 8, tyX6, rfl, by decide, inX6, tyX6_ok, nmX6, Or.inr ⟨"IceJudge", jNB_mem wm_277 rfl⟩, rfl, rfl, lnX6, by decide, fun h => absurd h (by rw [ft6_6]; decide), fun h => absurd h (by rw [ft6_6]; decide), fun _ => Or.inr ⟨_, rfl⟩, fun h => by cases h⟩
theorem fl_X4_193 : jFL RX4 193 1 5 true := ⟨RX1, TX1, 8, tyX1, rfl, by decide, inX1, tyX1_ok, nmX1, Or.inr ⟨"IceJudge", jNB_mem wm_327 rfl⟩, rfl, rfl, lnX1, by decide, fun h => absurd h (by rw [ft1_5]; decide), fun h => absurd h (by rw [ft1_5]; decide), fun _ => Or.inl ⟨_, rfl⟩, fun h => by cases h⟩
theorem nf5_1 : ∀ off : Int, ((1 : Nat), off) ∉ jfo 5 := by
  intro off h
  have h2 : jfo 5 = [(2, 1), (3, 2), (4, 3), (5, 4), (6, 5)] := by decide +kernel
  rw [h2] at h
  simp at h
theorem fl_X4_200 : jFL RX4 200 5 1 false := ⟨RX5, TX5, 7, tyX5, rfl, by decide, inX5, tyX5_ok, nmX5, Or.inr ⟨"IceJudge", jNB_mem wm_214 rfl⟩, rfl, rfl, lnX5, by decide, fun _ => rfl, fun h => absurd h (by rw [ft5_1]; decide), fun h => absurd h (by rw [ft5_1]; decide), fun _ => nf5_1⟩
theorem fl_X5_9 : jFL RX5 9 5 0 false := ⟨RX5, TX5, 7, tyX5, rfl, by decide, inX5, tyX5_ok, nmX5, Or.inl (jTB_mem wm_210 rfl), rfl, rfl, lnX5, by decide, fun _ => rfl, fun h => absurd h (by rw [ft5_0]; decide), fun h => absurd h (by rw [ft5_0]; decide), fun _ => nf5_0⟩
theorem fl_X5_15 : jFL RX5 15 5 1 false := ⟨RX5, TX5, 7, tyX5, rfl, by decide, inX5, tyX5_ok, nmX5, Or.inl (jTB_mem wm_213 rfl), rfl, rfl, lnX5, by decide, fun _ => rfl, fun h => absurd h (by rw [ft5_1]; decide), fun h => absurd h (by rw [ft5_1]; decide), fun _ => nf5_1⟩
theorem fl_X5_18 : jFL RX5 18 5 2 true := ⟨RX5, TX5, 7, tyX5, rfl, by decide, inX5, tyX5_ok, nmX5, Or.inl (jTB_mem wm_215 rfl), rfl, rfl, lnX5, by decide, fun h => absurd h (by rw [ft5_2]; decide), fun h => absurd h (by rw [ft5_2]; decide), fun _ => Or.inr ⟨_, rfl⟩, fun h => by cases h⟩
theorem fl_X5_22 : jFL RX5 22 5 3 true := ⟨RX5, TX5, 7, tyX5, rfl, by decide, inX5, tyX5_ok, nmX5, Or.inl (jTB_mem wm_216 rfl), rfl, rfl, lnX5, by decide, fun h => absurd h (by rw [ft5_3]; decide), fun h => absurd h (by rw [ft5_3]; decide), fun _ => Or.inr ⟨_, rfl⟩, fun h => by cases h⟩
theorem fl_X5_25 : jFL RX5 25 5 4 true := ⟨RX5, TX5, 7, tyX5, rfl, by decide, inX5, tyX5_ok, nmX5, Or.inl (jTB_mem wm_217 rfl), rfl, rfl, lnX5, by decide, fun h => absurd h (by rw [ft5_4]; decide), fun h => absurd h (by rw [ft5_4]; decide), fun _ => Or.inr ⟨_, rfl⟩, fun h => by cases h⟩
theorem fl_X5_28 : jFL RX5 28 5 5 true := ⟨RX5, TX5, 7, tyX5, rfl, by decide, inX5, tyX5_ok, nmX5, Or.inl (jTB_mem wm_218 rfl), rfl, rfl, lnX5, by decide, fun h => absurd h (by rw [ft5_5]; decide), fun h => absurd h (by rw [ft5_5]; decide), fun _ => Or.inr ⟨_, rfl⟩, fun h => by cases h⟩
theorem fl_X5_31 : jFL RX5 31 5 6 true := ⟨RX5, TX5, 7, tyX5, rfl, by decide, inX5, tyX5_ok, nmX5, Or.inl (jTB_mem wm_219 rfl), rfl, rfl, lnX5, by decide, fun h => absurd h (by rw [ft5_6]; decide), fun h => absurd h (by rw [ft5_6]; decide), fun _ => Or.inr ⟨_, rfl⟩, fun h => by cases h⟩
theorem fl_X6_9 : jFL RX6 9 6 0 false := ⟨RX6, TX6, 8, tyX6, rfl, by decide, inX6, tyX6_ok, nmX6, Or.inl (jTB_mem wm_247 rfl), rfl, rfl, lnX6, by decide, fun _ => rfl, fun h => absurd h (by rw [ft6_0]; decide), fun h => absurd h (by rw [ft6_0]; decide), fun _ => nf6_0⟩
theorem fl_X6_15 : jFL RX6 15 6 1 false := ⟨RX6, TX6, 8, tyX6, rfl, by decide, inX6, tyX6_ok, nmX6, Or.inl (jTB_mem wm_253 rfl), rfl, rfl, lnX6, by decide, fun _ => rfl, fun h => absurd h (by rw [ft6_1]; decide), fun h => absurd h (by rw [ft6_1]; decide), fun _ => nf6_1⟩
theorem fl_X6_18 : jFL RX6 18 6 2 false := ⟨RX6, TX6, 8, tyX6, rfl, by decide, inX6, tyX6_ok, nmX6, Or.inl (jTB_mem wm_256 rfl), rfl, rfl, lnX6, by decide, fun _ => rfl, fun h => absurd h (by rw [ft6_2]; decide), fun h => absurd h (by rw [ft6_2]; decide), fun _ => nf6_2⟩
theorem fl_X6_21 : jFL RX6 21 6 3 true := ⟨RX6, TX6, 8, tyX6, rfl, by decide, inX6, tyX6_ok, nmX6, Or.inl (jTB_mem wm_259 rfl), rfl, rfl, lnX6, by decide, fun h => absurd h (by rw [ft6_3]; decide), fun h => absurd h (by rw [ft6_3]; decide), fun _ => Or.inr ⟨_, rfl⟩, fun h => by cases h⟩
theorem fl_X6_25 : jFL RX6 25 6 4 true := ⟨RX6, TX6, 8, tyX6, rfl, by decide, inX6, tyX6_ok, nmX6, Or.inl (jTB_mem wm_263 rfl), rfl, rfl, lnX6, by decide, fun h => absurd h (by rw [ft6_4]; decide), fun h => absurd h (by rw [ft6_4]; decide), fun _ => Or.inr ⟨_, rfl⟩, fun h => by cases h⟩
theorem fl_X6_28 : jFL RX6 28 6 5 true := ⟨RX6, TX6, 8, tyX6, rfl, by decide, inX6, tyX6_ok, nmX6, Or.inl (jTB_mem wm_268 rfl), rfl, rfl, lnX6, by decide, fun h => absurd h (by rw [ft6_5]; decide), fun h => absurd h (by rw [ft6_5]; decide), fun _ => Or.inr ⟨_, rfl⟩, fun h => by cases h⟩
theorem fl_X6_31 : jFL RX6 31 6 6 true := ⟨RX6, TX6, 8, tyX6, rfl, by decide, inX6, tyX6_ok, nmX6, Or.inl (jTB_mem wm_272 rfl), rfl, rfl, lnX6, by decide, fun h => absurd h (by rw [ft6_6]; decide), fun h => absurd h (by rw [ft6_6]; decide), fun _ => Or.inr ⟨_, rfl⟩, fun h => by cases h⟩
theorem fl_X6_34 : jFL RX6 34 6 7 true := ⟨RX6, TX6, 8, tyX6, rfl, by decide, inX6, tyX6_ok, nmX6, Or.inl (jTB_mem wm_278 rfl), rfl, rfl, lnX6, by decide, fun h => absurd h (by rw [ft6_7]; decide), fun h => absurd h (by rw [ft6_7]; decide), fun _ => Or.inr ⟨_, rfl⟩, fun h => by cases h⟩
theorem fl_X7_11 : jFL RX7 11 7 1 true := ⟨RX7, TX7, 7, tyX7, rfl, by decide, inX7, tyX7_ok, nmX7, Or.inl (jTB_mem wm_460 rfl), rfl, rfl, lnX7, by decide, fun h => absurd h (by rw [ft7_1]; decide), fun h => absurd h (by rw [ft7_1]; decide), fun _ => Or.inr ⟨_, rfl⟩, fun h => by cases h⟩
theorem fl_X7_17 : jFL RX7 17 7 2 true := ⟨RX7, TX7, 7, tyX7, rfl, by decide, inX7, tyX7_ok, nmX7, Or.inl (jTB_mem wm_462 rfl), rfl, rfl, lnX7, by decide, fun h => absurd h (by rw [ft7_2]; decide), fun h => absurd h (by rw [ft7_2]; decide), fun _ => Or.inr ⟨_, rfl⟩, fun h => by cases h⟩
theorem fl_X7_21 : jFL RX7 21 7 3 true := ⟨RX7, TX7, 7, tyX7, rfl, by decide, inX7, tyX7_ok, nmX7, Or.inl (jTB_mem wm_463 rfl), rfl, rfl, lnX7, by decide, fun h => absurd h (by rw [ft7_3]; decide), fun h => absurd h (by rw [ft7_3]; decide), fun _ => Or.inr ⟨_, rfl⟩, fun h => by cases h⟩
theorem fl_X7_24 : jFL RX7 24 7 4 true := ⟨RX7, TX7, 7, tyX7, rfl, by decide, inX7, tyX7_ok, nmX7, Or.inl (jTB_mem wm_464 rfl), rfl, rfl, lnX7, by decide, fun h => absurd h (by rw [ft7_4]; decide), fun h => absurd h (by rw [ft7_4]; decide), fun _ => Or.inr ⟨_, rfl⟩, fun h => by cases h⟩
theorem fl_X7_27 : jFL RX7 27 7 5 true := ⟨RX7, TX7, 7, tyX7, rfl, by decide, inX7, tyX7_ok, nmX7, Or.inl (jTB_mem wm_466 rfl), rfl, rfl, lnX7, by decide, fun h => absurd h (by rw [ft7_5]; decide), fun h => absurd h (by rw [ft7_5]; decide), fun _ => Or.inr ⟨_, rfl⟩, fun h => by cases h⟩
theorem fl_X7_30 : jFL RX7 30 7 6 true := ⟨RX7, TX7, 7, tyX7, rfl, by decide, inX7, tyX7_ok, nmX7, Or.inl (jTB_mem wm_467 rfl), rfl, rfl, lnX7, by decide, fun h => absurd h (by rw [ft7_6]; decide), fun h => absurd h (by rw [ft7_6]; decide), fun _ => Or.inr ⟨_, rfl⟩, fun h => by cases h⟩
theorem nf7_0 : ∀ off : Int, ((0 : Nat), off) ∉ jfo 7 := by
  intro off h
  have h2 : jfo 7 = [(1, 1), (2, 2), (3, 3), (4, 4), (5, 5), (6, 6)] := by decide +kernel
  rw [h2] at h
  simp at h
theorem fl_X7_33 : jFL RX7 33 7 0 false := ⟨RX7, TX7, 7, tyX7, rfl, by decide, inX7, tyX7_ok, nmX7, Or.inl (jTB_mem wm_459 rfl), rfl, rfl, lnX7, by decide, fun h => absurd h (by rw [ft7_0]; decide), fun h => absurd h (by rw [ft7_0]; decide), fun _ => Or.inl ⟨_, rfl⟩, fun _ => nf7_0⟩
theorem fl_X7_40 : jFL RX7 40 1 6 true := ⟨RX1, TX1, 8, tyX1, rfl, by decide, inX1, tyX1_ok, nmX1, Or.inr ⟨"IceJudge", jNB_mem wm_329 rfl⟩, rfl, rfl, lnX1, by decide, fun h => absurd h (by rw [ft1_6]; decide), fun h => absurd h (by rw [ft1_6]; decide), fun _ => Or.inl ⟨_, rfl⟩, fun h => by cases h⟩
theorem fl_X7_46 : jFL RX7 46 2 3 false := ⟨RX2, TX2, 4, tyX2, rfl, by decide, inX2, tyX2_ok, nmX2, Or.inr ⟨"IceJudge", jNB_mem wm_191 rfl⟩, rfl, rfl, lnX2, by decide, fun _ => rfl, fun h => absurd h (by rw [ft2_3]; decide), fun h => absurd h (by rw [ft2_3]; decide), fun _ => nf2_3⟩
theorem fl_X7_64 : jFL RX7 64 8 8 false := ⟨RX8, TX8, 15, tyX8, rfl, by decide, inX8, tyX8_ok, nmX8, Or.inr ⟨"IceJudge", jNB_mem wm_418 rfl⟩, rfl, rfl, lnX8, by decide, fun _ => rfl, fun h => absurd h (by rw [ft8_8]; decide), fun h => absurd h (by rw [ft8_8]; decide), fun _ => nf8_8⟩
theorem fl_X7_67 : jFL RX7 67 8 6 false := ⟨RX8, TX8, 15, tyX8, rfl, by decide, inX8, tyX8_ok, nmX8, Or.inr ⟨"IceJudge", jNB_mem wm_412 rfl⟩, rfl, rfl, lnX8, by decide, fun _ => rfl, fun h => absurd h (by rw [ft8_6]; decide), fun h => absurd h (by rw [ft8_6]; decide), fun _ => nf8_6⟩
theorem fl_X7_81 : jFL RX7 81 1 7 true := ⟨RX1, TX1, 8, tyX1, rfl, by decide, inX1, tyX1_ok, nmX1, Or.inr ⟨"IceJudge", jNB_mem wm_338 rfl⟩, rfl, rfl, lnX1, by decide, fun h => absurd h (by rw [ft1_7]; decide), fun h => absurd h (by rw [ft1_7]; decide), fun _ => Or.inr ⟨_, rfl⟩, fun h => by cases h⟩
theorem fl_X7_85 : jFL RX7 85 6 0 false := ⟨RX6, TX6, 8, tyX6, rfl, by decide, inX6, tyX6_ok, nmX6, Or.inr ⟨"IceJudge", jNB_mem wm_250 rfl⟩, rfl, rfl, lnX6, by decide, fun _ => rfl, fun h => absurd h (by rw [ft6_0]; decide), fun h => absurd h (by rw [ft6_0]; decide), fun _ => nf6_0⟩
theorem fl_X7_94 : jFL RX7 94 6 7 true := ⟨RX6, TX6, 8, tyX6, rfl, by decide, inX6, tyX6_ok, nmX6, Or.inr ⟨"IceJudge", jNB_mem wm_282 rfl⟩, rfl, rfl, lnX6, by decide, fun h => absurd h (by rw [ft6_7]; decide), fun h => absurd h (by rw [ft6_7]; decide), fun _ => Or.inr ⟨_, rfl⟩, fun h => by cases h⟩
theorem fl_X7_104 : jFL RX7 104 1 0 false := ⟨RX1, TX1, 8, tyX1, rfl, by decide, inX1, tyX1_ok, nmX1, Or.inr ⟨"IceJudge", jNB_mem wm_303 rfl⟩, rfl, rfl, lnX1, by decide, fun _ => rfl, fun h => absurd h (by rw [ft1_0]; decide), fun h => absurd h (by rw [ft1_0]; decide), fun _ => nf1_0⟩
theorem nf8_2 : ∀ off : Int, ((2 : Nat), off) ∉ jfo 8 := by
  intro off h
  have h2 : jfo 8 = [(9, 1), (10, 2), (11, 3), (12, 4), (13, 5), (14, 6)] := by decide +kernel
  rw [h2] at h
  simp at h
theorem fl_X8_9 : jFL RX8 9 8 2 false := ⟨RX8, TX8, 15, tyX8, rfl, by decide, inX8, tyX8_ok, nmX8, Or.inl (jTB_mem wm_406 rfl), rfl, rfl, lnX8, by decide, fun _ => rfl, fun h => absurd h (by rw [ft8_2]; decide), fun h => absurd h (by rw [ft8_2]; decide), fun _ => nf8_2⟩
theorem nf8_3 : ∀ off : Int, ((3 : Nat), off) ∉ jfo 8 := by
  intro off h
  have h2 : jfo 8 = [(9, 1), (10, 2), (11, 3), (12, 4), (13, 5), (14, 6)] := by decide +kernel
  rw [h2] at h
  simp at h
theorem fl_X8_15 : jFL RX8 15 8 3 false := ⟨RX8, TX8, 15, tyX8, rfl, by decide, inX8, tyX8_ok, nmX8, Or.inl (jTB_mem wm_407 rfl), rfl, rfl, lnX8, by decide, fun _ => rfl, fun h => absurd h (by rw [ft8_3]; decide), fun h => absurd h (by rw [ft8_3]; decide), fun _ => nf8_3⟩
theorem nf8_4 : ∀ off : Int, ((4 : Nat), off) ∉ jfo 8 := by
  intro off h
  have h2 : jfo 8 = [(9, 1), (10, 2), (11, 3), (12, 4), (13, 5), (14, 6)] := by decide +kernel
  rw [h2] at h
  simp at h
theorem fl_X8_18 : jFL RX8 18 8 4 false := ⟨RX8, TX8, 15, tyX8, rfl, by decide, inX8, tyX8_ok, nmX8, Or.inl (jTB_mem wm_408 rfl), rfl, rfl, lnX8, by decide, fun _ => rfl, fun h => absurd h (by rw [ft8_4]; decide), fun h => absurd h (by rw [ft8_4]; decide), fun _ => nf8_4⟩
theorem fl_X8_21 : jFL RX8 21 8 5 false := ⟨RX8, TX8, 15, tyX8, rfl, by decide, inX8, tyX8_ok, nmX8, Or.inl (jTB_mem wm_409 rfl), rfl, rfl, lnX8, by decide, fun _ => rfl, fun h => absurd h (by rw [ft8_5]; decide), fun h => absurd h (by rw [ft8_5]; decide), fun _ => nf8_5⟩
theorem fl_X8_24 : jFL RX8 24 8 6 false := ⟨RX8, TX8, 15, tyX8, rfl, by decide, inX8, tyX8_ok, nmX8, Or.inl (jTB_mem wm_411 rfl), rfl, rfl, lnX8, by decide, fun _ => rfl, fun h => absurd h (by rw [ft8_6]; decide), fun h => absurd h (by rw [ft8_6]; decide), fun _ => nf8_6⟩
theorem fl_X8_27 : jFL RX8 27 8 7 false := ⟨RX8, TX8, 15, tyX8, rfl, by decide, inX8, tyX8_ok, nmX8, Or.inl (jTB_mem wm_414 rfl), rfl, rfl, lnX8, by decide, fun _ => rfl, fun h => absurd h (by rw [ft8_7]; decide), fun h => absurd h (by rw [ft8_7]; decide), fun _ => nf8_7⟩
theorem fl_X8_30 : jFL RX8 30 8 8 false := ⟨RX8, TX8, 15, tyX8, rfl, by decide, inX8, tyX8_ok, nmX8, Or.inl (jTB_mem wm_416 rfl), rfl, rfl, lnX8, by decide, fun _ => rfl, fun h => absurd h (by rw [ft8_8]; decide), fun h => absurd h (by rw [ft8_8]; decide), fun _ => nf8_8⟩
theorem fl_X8_33 : jFL RX8 33 8 9 true := ⟨RX8, TX8, 15, tyX8, rfl, by decide, inX8, tyX8_ok, nmX8, Or.inl (jTB_mem wm_420 rfl), rfl, rfl, lnX8, by decide, fun h => absurd h (by rw [ft8_9]; decide), fun h => absurd h (by rw [ft8_9]; decide), fun _ => Or.inr ⟨_, rfl⟩, fun h => by cases h⟩
theorem fl_X8_37 : jFL RX8 37 8 10 true := ⟨RX8, TX8, 15, tyX8, rfl, by decide, inX8, tyX8_ok, nmX8, Or.inl (jTB_mem wm_422 rfl), rfl, rfl, lnX8, by decide, fun h => absurd h (by rw [ft8_10]; decide), fun h => absurd h (by rw [ft8_10]; decide), fun _ => Or.inr ⟨_, rfl⟩, fun h => by cases h⟩
theorem fl_X8_40 : jFL RX8 40 8 11 true := ⟨RX8, TX8, 15, tyX8, rfl, by decide, inX8, tyX8_ok, nmX8, Or.inl (jTB_mem wm_423 rfl), rfl, rfl, lnX8, by decide, fun h => absurd h (by rw [ft8_11]; decide), fun h => absurd h (by rw [ft8_11]; decide), fun _ => Or.inr ⟨_, rfl⟩, fun h => by cases h⟩
theorem fl_X8_45 : jFL RX8 45 8 12 true := ⟨RX8, TX8, 15, tyX8, rfl, by decide, inX8, tyX8_ok, nmX8, Or.inl (jTB_mem wm_424 rfl), rfl, rfl, lnX8, by decide, fun h => absurd h (by rw [ft8_12]; decide), fun h => absurd h (by rw [ft8_12]; decide), fun _ => Or.inr ⟨_, rfl⟩, fun h => by cases h⟩
theorem fl_X8_48 : jFL RX8 48 8 13 true := ⟨RX8, TX8, 15, tyX8, rfl, by decide, inX8, tyX8_ok, nmX8, Or.inl (jTB_mem wm_426 rfl), rfl, rfl, lnX8, by decide, fun h => absurd h (by rw [ft8_13]; decide), fun h => absurd h (by rw [ft8_13]; decide), fun _ => Or.inr ⟨_, rfl⟩, fun h => by cases h⟩
theorem fl_X8_51 : jFL RX8 51 8 14 true := ⟨RX8, TX8, 15, tyX8, rfl, by decide, inX8, tyX8_ok, nmX8, Or.inl (jTB_mem wm_427 rfl), rfl, rfl, lnX8, by decide, fun h => absurd h (by rw [ft8_14]; decide), fun h => absurd h (by rw [ft8_14]; decide), fun _ => Or.inr ⟨_, rfl⟩, fun h => by cases h⟩
theorem nf8_0 : ∀ off : Int, ((0 : Nat), off) ∉ jfo 8 := by
  intro off h
  have h2 : jfo 8 = [(9, 1), (10, 2), (11, 3), (12, 4), (13, 5), (14, 6)] := by decide +kernel
  rw [h2] at h
  simp at h
theorem fl_X8_54 : jFL RX8 54 8 0 false := ⟨RX8, TX8, 15, tyX8, rfl, by decide, inX8, tyX8_ok, nmX8, Or.inl (jTB_mem wm_404 rfl), rfl, rfl, lnX8, by decide, fun h => absurd h (by rw [ft8_0]; decide), fun h => absurd h (by rw [ft8_0]; decide), fun _ => Or.inl ⟨_, rfl⟩, fun _ => nf8_0⟩
theorem fl_X8_58 : jFL RX8 58 1 7 true := ⟨RX1, TX1, 8, tyX1, rfl, by decide, inX1, tyX1_ok, nmX1, Or.inr ⟨"IceJudge", jNB_mem wm_334 rfl⟩, rfl, rfl, lnX1, by decide, fun h => absurd h (by rw [ft1_7]; decide), fun h => absurd h (by rw [ft1_7]; decide), fun _ => Or.inr ⟨_, rfl⟩, fun h => by cases h⟩
theorem nf8_1 : ∀ off : Int, ((1 : Nat), off) ∉ jfo 8 := by
  intro off h
  have h2 : jfo 8 = [(9, 1), (10, 2), (11, 3), (12, 4), (13, 5), (14, 6)] := by decide +kernel
  rw [h2] at h
  simp at h
theorem fl_X8_64 : jFL RX8 64 8 1 false := ⟨RX8, TX8, 15, tyX8, rfl, by decide, inX8, tyX8_ok, nmX8, Or.inl (jTB_mem wm_405 rfl), rfl, rfl, lnX8, by decide, fun h => absurd h (by rw [ft8_1]; decide), fun h => absurd h (by rw [ft8_1]; decide), fun _ => Or.inl ⟨_, rfl⟩, fun _ => nf8_1⟩
theorem fl_X8_74 : jFL RX8 74 6 2 false := ⟨RX6, TX6, 8, tyX6, rfl, by decide, inX6, tyX6_ok, nmX6, Or.inr ⟨"IceJudge", jNB_mem wm_257 rfl⟩, rfl, rfl, lnX6, by decide, fun _ => rfl, fun h => absurd h (by rw [ft6_2]; decide), fun h => absurd h (by rw [ft6_2]; decide), fun _ => nf6_2⟩
theorem fl_X8_79 : jFL RX8 79 6 0 false := ⟨RX6, TX6, 8, tyX6, rfl, by decide, inX6, tyX6_ok, nmX6, Or.inr ⟨"IceJudge", jNB_mem wm_249 rfl⟩, rfl, rfl, lnX6, by decide, fun _ => rfl, fun h => absurd h (by rw [ft6_0]; decide), fun h => absurd h (by rw [ft6_0]; decide), fun _ => nf6_0⟩
theorem fl_X8_86 : jFL RX8 86 6 3 true := ⟨RX6, TX6, 8, tyX6, rfl, by decide, inX6, tyX6_ok, nmX6, Or.inr ⟨"IceJudge", jNB_mem wm_260 rfl⟩, rfl, rfl, lnX6, by decide, fun h => absurd h (by rw [ft6_3]; decide), fun h => absurd h (by rw [ft6_3]; decide), fun _ => Or.inr ⟨_, rfl⟩, fun h => by cases h⟩
theorem fl_X8_89 : jFL RX8 89 6 6 true := ⟨RX6, TX6, 8, tyX6, rfl, by decide, inX6, tyX6_ok, nmX6, Or.inr ⟨"IceJudge", jNB_mem wm_273 rfl⟩, rfl, rfl, lnX6, by decide, fun h => absurd h (by rw [ft6_6]; decide), fun h => absurd h (by rw [ft6_6]; decide), fun _ => Or.inr ⟨_, rfl⟩, fun h => by cases h⟩
theorem fl_X8_100 : jFL RX8 100 1 5 true := ⟨RX1, TX1, 8, tyX1, rfl, by decide, inX1, tyX1_ok, nmX1, Or.inr ⟨"IceJudge", jNB_mem wm_325 rfl⟩, rfl, rfl, lnX1, by decide, fun h => absurd h (by rw [ft1_5]; decide), fun h => absurd h (by rw [ft1_5]; decide), fun _ => Or.inl ⟨_, rfl⟩, fun h => by cases h⟩
theorem fl_X8_104 : jFL RX8 104 5 0 false := ⟨RX5, TX5, 7, tyX5, rfl, by decide, inX5, tyX5_ok, nmX5, Or.inr ⟨"IceJudge", jNB_mem wm_211 rfl⟩, rfl, rfl, lnX5, by decide, fun _ => rfl, fun h => absurd h (by rw [ft5_0]; decide), fun h => absurd h (by rw [ft5_0]; decide), fun _ => nf5_0⟩
theorem fl_X8_125 : jFL RX8 125 1 1 true := ⟨RX1, TX1, 8, tyX1, rfl, by decide, inX1, tyX1_ok, nmX1, Or.inr ⟨"IceJudge", jNB_mem wm_307 rfl⟩, rfl, rfl, lnX1, by decide, fun h => absurd h (by rw [ft1_1]; decide), fun h => absurd h (by rw [ft1_1]; decide), fun _ => Or.inr ⟨_, rfl⟩, fun h => by cases h⟩
theorem fl_X8_131 : jFL RX8 131 6 4 true := ⟨RX6, TX6, 8, tyX6, rfl, by decide, inX6, tyX6_ok, nmX6, Or.inr ⟨"IceJudge", jNB_mem wm_265 rfl⟩, rfl, rfl, lnX6, by decide, fun h => absurd h (by rw [ft6_4]; decide), fun h => absurd h (by rw [ft6_4]; decide), fun _ => Or.inr ⟨_, rfl⟩, fun h => by cases h⟩
theorem fl_X8_134 : jFL RX8 134 6 5 true := ⟨RX6, TX6, 8, tyX6, rfl, by decide, inX6, tyX6_ok, nmX6, Or.inr ⟨"IceJudge", jNB_mem wm_270 rfl⟩, rfl, rfl, lnX6, by decide, fun h => absurd h (by rw [ft6_5]; decide), fun h => absurd h (by rw [ft6_5]; decide), fun _ => Or.inr ⟨_, rfl⟩, fun h => by cases h⟩
theorem fl_X8_137 : jFL RX8 137 1 4 true := ⟨RX1, TX1, 8, tyX1, rfl, by decide, inX1, tyX1_ok, nmX1, Or.inr ⟨"IceJudge", jNB_mem wm_321 rfl⟩, rfl, rfl, lnX1, by decide, fun h => absurd h (by rw [ft1_4]; decide), fun h => absurd h (by rw [ft1_4]; decide), fun _ => Or.inr ⟨_, rfl⟩, fun h => by cases h⟩
theorem fl_X8_140 : jFL RX8 140 1 3 true := ⟨RX1, TX1, 8, tyX1, rfl, by decide, inX1, tyX1_ok, nmX1, Or.inr ⟨"IceJudge", jNB_mem wm_316 rfl⟩, rfl, rfl, lnX1, by decide, fun h => absurd h (by rw [ft1_3]; decide), fun h => absurd h (by rw [ft1_3]; decide), fun _ => Or.inr ⟨_, rfl⟩, fun h => by cases h⟩
theorem fl_X8_149 : jFL RX8 149 1 0 false := ⟨RX1, TX1, 8, tyX1, rfl, by decide, inX1, tyX1_ok, nmX1, Or.inr ⟨"IceJudge", jNB_mem wm_302 rfl⟩, rfl, rfl, lnX1, by decide, fun _ => rfl, fun h => absurd h (by rw [ft1_0]; decide), fun h => absurd h (by rw [ft1_0]; decide), fun _ => nf1_0⟩
theorem fl_X8_152 : jFL RX8 152 6 7 true := ⟨RX6, TX6, 8, tyX6, rfl, by decide, inX6, tyX6_ok, nmX6, Or.inr ⟨"IceJudge", jNB_mem wm_280 rfl⟩, rfl, rfl, lnX6, by decide, fun h => absurd h (by rw [ft6_7]; decide), fun h => absurd h (by rw [ft6_7]; decide), fun _ => Or.inr ⟨_, rfl⟩, fun h => by cases h⟩
theorem nf10_0 : ∀ off : Int, ((0 : Nat), off) ∉ jfo 10 := by
  intro off h
  have h2 : jfo 10 = [(1, 1), (3, 2), (9, 3), (10, 4), (11, 5), (12, 6), (23, 7), (24, 8), (25, 9), (26, 10), (27, 11), (28, 12), (30, 13)] := by decide +kernel
  rw [h2] at h
  simp at h
theorem fl_X10_3 : jFL RX10 3 10 0 false := ⟨RX10, TX10, 32, tyX10, rfl, by decide, inX10, tyX10_ok, nmX10, Or.inl (jTB_mem wm_1526 rfl), rfl, rfl, lnX10, by decide, fun _ => rfl, fun h => absurd h (by rw [ft10_0]; decide), fun h => absurd h (by rw [ft10_0]; decide), fun _ => nf10_0⟩
theorem nf10_2 : ∀ off : Int, ((2 : Nat), off) ∉ jfo 10 := by
  intro off h
  have h2 : jfo 10 = [(1, 1), (3, 2), (9, 3), (10, 4), (11, 5), (12, 6), (23, 7), (24, 8), (25, 9), (26, 10), (27, 11), (28, 12), (30, 13)] := by decide +kernel
  rw [h2] at h
  simp at h
theorem fl_X10_7 : jFL RX10 7 10 2 false := ⟨RX10, TX10, 32, tyX10, rfl, by decide, inX10, tyX10_ok, nmX10, Or.inl (jTB_mem wm_1528 rfl), rfl, rfl, lnX10, by decide, fun _ => rfl, fun h => absurd h (by rw [ft10_2]; decide), fun h => absurd h (by rw [ft10_2]; decide), fun _ => nf10_2⟩
theorem fl_X10_10 : jFL RX10 10 10 3 true := ⟨RX10, TX10, 32, tyX10, rfl, by decide, inX10, tyX10_ok, nmX10, Or.inl (jTB_mem wm_1529 rfl), rfl, rfl, lnX10, by decide, fun h => absurd h (by rw [ft10_3]; decide), fun h => absurd h (by rw [ft10_3]; decide), fun _ => Or.inr ⟨_, rfl⟩, fun h => by cases h⟩
theorem fl_X10_14 : jFL RX10 14 10 1 true := ⟨RX10, TX10, 32, tyX10, rfl, by decide, inX10, tyX10_ok, nmX10, Or.inl (jTB_mem wm_1527 rfl), rfl, rfl, lnX10, by decide, fun h => absurd h (by rw [ft10_1]; decide), fun h => absurd h (by rw [ft10_1]; decide), fun _ => Or.inr ⟨_, rfl⟩, fun h => by cases h⟩
theorem nf10_7 : ∀ off : Int, ((7 : Nat), off) ∉ jfo 10 := by
  intro off h
  have h2 : jfo 10 = [(1, 1), (3, 2), (9, 3), (10, 4), (11, 5), (12, 6), (23, 7), (24, 8), (25, 9), (26, 10), (27, 11), (28, 12), (30, 13)] := by decide +kernel
  rw [h2] at h
  simp at h
theorem fl_X10_18 : jFL RX10 18 10 7 false := ⟨RX10, TX10, 32, tyX10, rfl, by decide, inX10, tyX10_ok, nmX10, Or.inl (jTB_mem wm_1533 rfl), rfl, rfl, lnX10, by decide, fun _ => rfl, fun h => absurd h (by rw [ft10_7]; decide), fun h => absurd h (by rw [ft10_7]; decide), fun _ => nf10_7⟩
theorem nf10_4 : ∀ off : Int, ((4 : Nat), off) ∉ jfo 10 := by
  intro off h
  have h2 : jfo 10 = [(1, 1), (3, 2), (9, 3), (10, 4), (11, 5), (12, 6), (23, 7), (24, 8), (25, 9), (26, 10), (27, 11), (28, 12), (30, 13)] := by decide +kernel
  rw [h2] at h
  simp at h
theorem fl_X10_21 : jFL RX10 21 10 4 false := ⟨RX10, TX10, 32, tyX10, rfl, by decide, inX10, tyX10_ok, nmX10, Or.inl (jTB_mem wm_1530 rfl), rfl, rfl, lnX10, by decide, fun _ => rfl, fun h => absurd h (by rw [ft10_4]; decide), fun h => absurd h (by rw [ft10_4]; decide), fun _ => nf10_4⟩
theorem nf10_6 : ∀ off : Int, ((6 : Nat), off) ∉ jfo 10 := by
  intro off h
  have h2 : jfo 10 = [(1, 1), (3, 2), (9, 3), (10, 4), (11, 5), (12, 6), (23, 7), (24, 8), (25, 9), (26, 10), (27, 11), (28, 12), (30, 13)] := by decide +kernel
  rw [h2] at h
  simp at h
theorem fl_X10_24 : jFL RX10 24 10 6 false := ⟨RX10, TX10, 32, tyX10, rfl, by decide, inX10, tyX10_ok, nmX10, Or.inl (jTB_mem wm_1532 rfl), rfl, rfl, lnX10, by decide, fun _ => rfl, fun h => absurd h (by rw [ft10_6]; decide), fun h => absurd h (by rw [ft10_6]; decide), fun _ => nf10_6⟩
theorem nf10_5 : ∀ off : Int, ((5 : Nat), off) ∉ jfo 10 := by
  intro off h
  have h2 : jfo 10 = [(1, 1), (3, 2), (9, 3), (10, 4), (11, 5), (12, 6), (23, 7), (24, 8), (25, 9), (26, 10), (27, 11), (28, 12), (30, 13)] := by decide +kernel
  rw [h2] at h
  simp at h
theorem fl_X10_31 : jFL RX10 31 10 5 false := ⟨RX10, TX10, 32, tyX10, rfl, by decide, inX10, tyX10_ok, nmX10, Or.inl (jTB_mem wm_1531 rfl), rfl, rfl, lnX10, by decide, fun _ => rfl, fun h => absurd h (by rw [ft10_5]; decide), fun h => absurd h (by rw [ft10_5]; decide), fun _ => nf10_5⟩
theorem nf10_8 : ∀ off : Int, ((8 : Nat), off) ∉ jfo 10 := by
  intro off h
  have h2 : jfo 10 = [(1, 1), (3, 2), (9, 3), (10, 4), (11, 5), (12, 6), (23, 7), (24, 8), (25, 9), (26, 10), (27, 11), (28, 12), (30, 13)] := by decide +kernel
  rw [h2] at h
  simp at h
theorem fl_X10_73 : jFL RX10 73 10 8 false := ⟨RX10, TX10, 32, tyX10, rfl, by decide, inX10, tyX10_ok, nmX10, Or.inl (jTB_mem wm_1534 rfl), rfl, rfl, lnX10, by decide, fun _ => rfl, fun h => absurd h (by rw [ft10_8]; decide), fun h => absurd h (by rw [ft10_8]; decide), fun _ => nf10_8⟩
theorem fl_X10_81 : jFL RX10 81 10 9 true := ⟨RX10, TX10, 32, tyX10, rfl, by decide, inX10, tyX10_ok, nmX10, Or.inl (jTB_mem wm_1535 rfl), rfl, rfl, lnX10, by decide, fun h => absurd h (by rw [ft10_9]; decide), fun h => absurd h (by rw [ft10_9]; decide), fun _ => Or.inr ⟨_, rfl⟩, fun h => by cases h⟩
theorem fl_X10_84 : jFL RX10 84 10 10 true := ⟨RX10, TX10, 32, tyX10, rfl, by decide, inX10, tyX10_ok, nmX10, Or.inl (jTB_mem wm_1536 rfl), rfl, rfl, lnX10, by decide, fun h => absurd h (by rw [ft10_10]; decide), fun h => absurd h (by rw [ft10_10]; decide), fun _ => Or.inr ⟨_, rfl⟩, fun h => by cases h⟩
theorem fl_X10_87 : jFL RX10 87 10 11 true := ⟨RX10, TX10, 32, tyX10, rfl, by decide, inX10, tyX10_ok, nmX10, Or.inl (jTB_mem wm_1537 rfl), rfl, rfl, lnX10, by decide, fun h => absurd h (by rw [ft10_11]; decide), fun h => absurd h (by rw [ft10_11]; decide), fun _ => Or.inr ⟨_, rfl⟩, fun h => by cases h⟩
theorem fl_X10_90 : jFL RX10 90 10 12 true := ⟨RX10, TX10, 32, tyX10, rfl, by decide, inX10, tyX10_ok, nmX10, Or.inl (jTB_mem wm_1538 rfl), rfl, rfl, lnX10, by decide, fun h => absurd h (by rw [ft10_12]; decide), fun h => absurd h (by rw [ft10_12]; decide), fun _ => Or.inr ⟨_, rfl⟩, fun h => by cases h⟩
theorem fl_X10_93 : jFL RX10 93 10 23 true := ⟨RX10, TX10, 32, tyX10, rfl, by decide, inX10, tyX10_ok, nmX10, Or.inl (jTB_mem wm_1549 rfl), rfl, rfl, lnX10, by decide, fun h => absurd h (by rw [ft10_23]; decide), fun h => absurd h (by rw [ft10_23]; decide), fun _ => Or.inr ⟨_, rfl⟩, fun h => by cases h⟩
theorem fl_X10_96 : jFL RX10 96 10 24 true := ⟨RX10, TX10, 32, tyX10, rfl, by decide, inX10, tyX10_ok, nmX10, Or.inl (jTB_mem wm_1550 rfl), rfl, rfl, lnX10, by decide, fun h => absurd h (by rw [ft10_24]; decide), fun h => absurd h (by rw [ft10_24]; decide), fun _ => Or.inr ⟨_, rfl⟩, fun h => by cases h⟩
theorem fl_X10_100 : jFL RX10 100 10 25 true := ⟨RX10, TX10, 32, tyX10, rfl, by decide, inX10, tyX10_ok, nmX10, Or.inl (jTB_mem wm_1551 rfl), rfl, rfl, lnX10, by decide, fun h => absurd h (by rw [ft10_25]; decide), fun h => absurd h (by rw [ft10_25]; decide), fun _ => Or.inr ⟨_, rfl⟩, fun h => by cases h⟩
theorem fl_X10_103 : jFL RX10 103 10 26 true := ⟨RX10, TX10, 32, tyX10, rfl, by decide, inX10, tyX10_ok, nmX10, Or.inl (jTB_mem wm_1552 rfl), rfl, rfl, lnX10, by decide, fun h => absurd h (by rw [ft10_26]; decide), fun h => absurd h (by rw [ft10_26]; decide), fun _ => Or.inr ⟨_, rfl⟩, fun h => by cases h⟩
theorem fl_X10_106 : jFL RX10 106 10 27 true := ⟨RX10, TX10, 32, tyX10, rfl, by decide, inX10, tyX10_ok, nmX10, Or.inl (jTB_mem wm_1553 rfl), rfl, rfl, lnX10, by decide, fun h => absurd h (by rw [ft10_27]; decide), fun h => absurd h (by rw [ft10_27]; decide), fun _ => Or.inr ⟨_, rfl⟩, fun h => by cases h⟩
theorem fl_X10_109 : jFL RX10 109 10 28 true := ⟨RX10, TX10, 32, tyX10, rfl, by decide, inX10, tyX10_ok, nmX10, Or.inl (jTB_mem wm_1554 rfl), rfl, rfl, lnX10, by decide, fun h => absurd h (by rw [ft10_28]; decide), fun h => absurd h (by rw [ft10_28]; decide), fun _ => Or.inr ⟨_, rfl⟩, fun h => by cases h⟩
theorem fl_X10_112 : jFL RX10 112 10 30 true := ⟨RX10, TX10, 32, tyX10, rfl, by decide, inX10, tyX10_ok, nmX10, Or.inl (jTB_mem wm_1556 rfl), rfl, rfl, lnX10, by decide, fun h => absurd h (by rw [ft10_30]; decide), fun h => absurd h (by rw [ft10_30]; decide), fun _ => Or.inr ⟨_, rfl⟩, fun h => by cases h⟩
theorem nf10_13 : ∀ off : Int, ((13 : Nat), off) ∉ jfo 10 := by
  intro off h
  have h2 : jfo 10 = [(1, 1), (3, 2), (9, 3), (10, 4), (11, 5), (12, 6), (23, 7), (24, 8), (25, 9), (26, 10), (27, 11), (28, 12), (30, 13)] := by decide +kernel
  rw [h2] at h
  simp at h
theorem fl_X10_148 : jFL RX10 148 10 13 false := ⟨RX10, TX10, 32, tyX10, rfl, by decide, inX10, tyX10_ok, nmX10, Or.inl (jTB_mem wm_1539 rfl), rfl, rfl, lnX10, by decide, fun _ => rfl, fun h => absurd h (by rw [ft10_13]; decide), fun h => absurd h (by rw [ft10_13]; decide), fun _ => nf10_13⟩
theorem nf10_14 : ∀ off : Int, ((14 : Nat), off) ∉ jfo 10 := by
  intro off h
  have h2 : jfo 10 = [(1, 1), (3, 2), (9, 3), (10, 4), (11, 5), (12, 6), (23, 7), (24, 8), (25, 9), (26, 10), (27, 11), (28, 12), (30, 13)] := by decide +kernel
  rw [h2] at h
  simp at h
theorem fl_X10_215 : jFL RX10 215 10 14 false := ⟨RX10, TX10, 32, tyX10, rfl, by decide, inX10, tyX10_ok, nmX10, Or.inl (jTB_mem wm_1540 rfl), rfl, rfl, lnX10, by decide, fun h => absurd h (by rw [ft10_14]; decide), fun _ => rfl, fun h => absurd h (by rw [ft10_14]; decide), fun _ => nf10_14⟩
theorem nf10_29 : ∀ off : Int, ((29 : Nat), off) ∉ jfo 10 := by
  intro off h
  have h2 : jfo 10 = [(1, 1), (3, 2), (9, 3), (10, 4), (11, 5), (12, 6), (23, 7), (24, 8), (25, 9), (26, 10), (27, 11), (28, 12), (30, 13)] := by decide +kernel
  rw [h2] at h
  simp at h
theorem fl_X10_272 : jFL RX10 272 10 29 false := ⟨RX10, TX10, 32, tyX10, rfl, by decide, inX10, tyX10_ok, nmX10, Or.inl (jTB_mem wm_1555 rfl), rfl, rfl, lnX10, by decide, fun _ => rfl, fun h => absurd h (by rw [ft10_29]; decide), fun h => absurd h (by rw [ft10_29]; decide), fun _ => nf10_29⟩
theorem nf10_15 : ∀ off : Int, ((15 : Nat), off) ∉ jfo 10 := by
  intro off h
  have h2 : jfo 10 = [(1, 1), (3, 2), (9, 3), (10, 4), (11, 5), (12, 6), (23, 7), (24, 8), (25, 9), (26, 10), (27, 11), (28, 12), (30, 13)] := by decide +kernel
  rw [h2] at h
  simp at h
theorem fl_X10_275 : jFL RX10 275 10 15 false := ⟨RX10, TX10, 32, tyX10, rfl, by decide, inX10, tyX10_ok, nmX10, Or.inl (jTB_mem wm_1541 rfl), rfl, rfl, lnX10, by decide, fun _ => rfl, fun h => absurd h (by rw [ft10_15]; decide), fun h => absurd h (by rw [ft10_15]; decide), fun _ => nf10_15⟩
theorem nf10_16 : ∀ off : Int, ((16 : Nat), off) ∉ jfo 10 := by
  intro off h
  have h2 : jfo 10 = [(1, 1), (3, 2), (9, 3), (10, 4), (11, 5), (12, 6), (23, 7), (24, 8), (25, 9), (26, 10), (27, 11), (28, 12), (30, 13)] := by decide +kernel
  rw [h2] at h
  simp at h
theorem fl_X10_278 : jFL RX10 278 10 16 false := ⟨RX10, TX10, 32, tyX10, rfl, by decide, inX10, tyX10_ok, nmX10, Or.inl (jTB_mem wm_1542 rfl), rfl, rfl, lnX10, by decide, fun _ => rfl, fun h => absurd h (by rw [ft10_16]; decide), fun h => absurd h (by rw [ft10_16]; decide), fun _ => nf10_16⟩
theorem nf10_17 : ∀ off : Int, ((17 : Nat), off) ∉ jfo 10 := by
  intro off h
  have h2 : jfo 10 = [(1, 1), (3, 2), (9, 3), (10, 4), (11, 5), (12, 6), (23, 7), (24, 8), (25, 9), (26, 10), (27, 11), (28, 12), (30, 13)] := by decide +kernel
  rw [h2] at h
  simp at h
theorem fl_X10_281 : jFL RX10 281 10 17 false := ⟨RX10, TX10, 32, tyX10, rfl, by decide, inX10, tyX10_ok, nmX10, Or.inl (jTB_mem wm_1543 rfl), rfl, rfl, lnX10, by decide, fun _ => rfl, fun h => absurd h (by rw [ft10_17]; decide), fun h => absurd h (by rw [ft10_17]; decide), fun _ => nf10_17⟩
theorem nf10_19 : ∀ off : Int, ((19 : Nat), off) ∉ jfo 10 := by
  intro off h
  have h2 : jfo 10 = [(1, 1), (3, 2), (9, 3), (10, 4), (11, 5), (12, 6), (23, 7), (24, 8), (25, 9), (26, 10), (27, 11), (28, 12), (30, 13)] := by decide +kernel
  rw [h2] at h
  simp at h
theorem fl_X10_284 : jFL RX10 284 10 19 false := ⟨RX10, TX10, 32, tyX10, rfl, by decide, inX10, tyX10_ok, nmX10, Or.inl (jTB_mem wm_1545 rfl), rfl, rfl, lnX10, by decide, fun _ => rfl, fun h => absurd h (by rw [ft10_19]; decide), fun h => absurd h (by rw [ft10_19]; decide), fun _ => nf10_19⟩
theorem nf10_22 : ∀ off : Int, ((22 : Nat), off) ∉ jfo 10 := by
  intro off h
  have h2 : jfo 10 = [(1, 1), (3, 2), (9, 3), (10, 4), (11, 5), (12, 6), (23, 7), (24, 8), (25, 9), (26, 10), (27, 11), (28, 12), (30, 13)] := by decide +kernel
  rw [h2] at h
  simp at h
theorem fl_X10_287 : jFL RX10 287 10 22 false := ⟨RX10, TX10, 32, tyX10, rfl, by decide, inX10, tyX10_ok, nmX10, Or.inl (jTB_mem wm_1548 rfl), rfl, rfl, lnX10, by decide, fun h => absurd h (by rw [ft10_22]; decide), fun _ => rfl, fun h => absurd h (by rw [ft10_22]; decide), fun _ => nf10_22⟩
theorem nf10_18 : ∀ off : Int, ((18 : Nat), off) ∉ jfo 10 := by
  intro off h
  have h2 : jfo 10 = [(1, 1), (3, 2), (9, 3), (10, 4), (11, 5), (12, 6), (23, 7), (24, 8), (25, 9), (26, 10), (27, 11), (28, 12), (30, 13)] := by decide +kernel
  rw [h2] at h
  simp at h
theorem fl_X10_290 : jFL RX10 290 10 18 false := ⟨RX10, TX10, 32, tyX10, rfl, by decide, inX10, tyX10_ok, nmX10, Or.inl (jTB_mem wm_1544 rfl), rfl, rfl, lnX10, by decide, fun _ => rfl, fun h => absurd h (by rw [ft10_18]; decide), fun h => absurd h (by rw [ft10_18]; decide), fun _ => nf10_18⟩
theorem nf10_20 : ∀ off : Int, ((20 : Nat), off) ∉ jfo 10 := by
  intro off h
  have h2 : jfo 10 = [(1, 1), (3, 2), (9, 3), (10, 4), (11, 5), (12, 6), (23, 7), (24, 8), (25, 9), (26, 10), (27, 11), (28, 12), (30, 13)] := by decide +kernel
  rw [h2] at h
  simp at h
theorem fl_X10_300 : jFL RX10 300 10 20 false := ⟨RX10, TX10, 32, tyX10, rfl, by decide, inX10, tyX10_ok, nmX10, Or.inl (jTB_mem wm_1546 rfl), rfl, rfl, lnX10, by decide, fun _ => rfl, fun h => absurd h (by rw [ft10_20]; decide), fun h => absurd h (by rw [ft10_20]; decide), fun _ => nf10_20⟩
theorem nf10_21 : ∀ off : Int, ((21 : Nat), off) ∉ jfo 10 := by
  intro off h
  have h2 : jfo 10 = [(1, 1), (3, 2), (9, 3), (10, 4), (11, 5), (12, 6), (23, 7), (24, 8), (25, 9), (26, 10), (27, 11), (28, 12), (30, 13)] := by decide +kernel
  rw [h2] at h
  simp at h
theorem fl_X10_303 : jFL RX10 303 10 21 false := ⟨RX10, TX10, 32, tyX10, rfl, by decide, inX10, tyX10_ok, nmX10, Or.inl (jTB_mem wm_1547 rfl), rfl, rfl, lnX10, by decide, fun _ => rfl, fun h => absurd h (by rw [ft10_21]; decide), fun h => absurd h (by rw [ft10_21]; decide), fun _ => nf10_21⟩
theorem nf10_31 : ∀ off : Int, ((31 : Nat), off) ∉ jfo 10 := by
  intro off h
  have h2 : jfo 10 = [(1, 1), (3, 2), (9, 3), (10, 4), (11, 5), (12, 6), (23, 7), (24, 8), (25, 9), (26, 10), (27, 11), (28, 12), (30, 13)] := by decide +kernel
  rw [h2] at h
  simp at h
theorem fl_X10_472 : jFL RX10 472 10 31 false := ⟨RX10, TX10, 32, tyX10, rfl, by decide, inX10, tyX10_ok, nmX10, Or.inl (jTB_mem wm_1557 rfl), rfl, rfl, lnX10, by decide, fun _ => rfl, fun h => absurd h (by rw [ft10_31]; decide), fun h => absurd h (by rw [ft10_31]; decide), fun _ => nf10_31⟩
theorem mv_X9_62 : jMV RX9 62 yX9_tapeNumber cX9_tapeNumber 3 (none) RX9 1 := ⟨Or.inl (jTB_mem wm_556 rfl), jTB_mem wm_558 rfl, jTB_mem wm_0 rfl, jTB_mem wm_141 rfl, jTB_mem wm_559 rfl, ⟨by decide +kernel, by decide +kernel, by decide +kernel⟩, by decide⟩
theorem mv_X9_66 : jMV RX9 66 yX4_faultOf cX4_faultOf 6 (some .int) RX4 2 := ⟨Or.inl (jTB_mem wm_772 rfl), jTB_mem wm_773 rfl, jTB_mem wm_774 rfl, jTB_mem wm_147 rfl, jTB_mem wm_775 rfl, ⟨by decide +kernel, by decide +kernel, by decide +kernel⟩, by decide⟩
theorem mv_X9_77 : jMV RX9 77 yX0_forget cX0_forget 1 (none) RX0 0 := ⟨Or.inl (jTB_mem wm_1040 rfl), jTB_mem wm_1041 rfl, jTB_mem wm_1042 rfl, jTB_mem wm_150 rfl, jTB_mem wm_1043 rfl, ⟨by decide +kernel, by decide +kernel, by decide +kernel⟩, by decide⟩
theorem mv_X9_89 : jMV RX9 89 yX9_wantSkater cX9_wantSkater 2 (none) RX9 1 := ⟨Or.inl (jTB_mem wm_1052 rfl), jTB_mem wm_1054 rfl, jTB_mem wm_38 rfl, jTB_mem wm_141 rfl, jTB_mem wm_1055 rfl, ⟨by decide +kernel, by decide +kernel, by decide +kernel⟩, by decide⟩
theorem mv_X9_92 : jMV RX9 92 yX2_letter cX2_letter 3 (some .int) RX2 2 := ⟨Or.inl (jTB_mem wm_1072 rfl), jTB_mem wm_1073 rfl, jTB_mem wm_1074 rfl, jTB_mem wm_143 rfl, jTB_mem wm_1075 rfl, ⟨by decide +kernel, by decide +kernel, by decide +kernel⟩, by decide⟩
theorem mv_X9_96 : jMV RX9 96 yX9_wantElement cX9_wantElement 2 (none) RX9 1 := ⟨Or.inl (jTB_mem wm_1076 rfl), jTB_mem wm_1078 rfl, jTB_mem wm_39 rfl, jTB_mem wm_141 rfl, jTB_mem wm_1079 rfl, ⟨by decide +kernel, by decide +kernel, by decide +kernel⟩, by decide⟩
theorem mv_X9_113 : jMV RX9 113 yX9_wantAttempt cX9_wantAttempt 3 (none) RX9 2 := ⟨Or.inl (jTB_mem wm_1112 rfl), jTB_mem wm_1114 rfl, jTB_mem wm_40 rfl, jTB_mem wm_141 rfl, jTB_mem wm_1115 rfl, ⟨by decide +kernel, by decide +kernel, by decide +kernel⟩, by decide⟩
theorem mv_X9_121 : jMV RX9 121 yX9_tallied cX9_tallied 3 (some (.object "IceJudge$Tally")) RX9 1 := ⟨Or.inl (jTB_mem wm_1118 rfl), jTB_mem wm_1120 rfl, jTB_mem wm_41 rfl, jTB_mem wm_141 rfl, jTB_mem wm_1121 rfl, ⟨by decide +kernel, by decide +kernel, by decide +kernel⟩, by decide⟩
theorem mv_X9_133 : jMV RX9 133 yX6_elementAt cX6_elementAt 3 (some .int) RX6 2 := ⟨Or.inl (jTB_mem wm_1123 rfl), jTB_mem wm_1124 rfl, jTB_mem wm_1125 rfl, jTB_mem wm_146 rfl, jTB_mem wm_1126 rfl, ⟨by decide +kernel, by decide +kernel, by decide +kernel⟩, by decide⟩
theorem mv_X9_139 : jMV RX9 139 yX8_isLate cX8_isLate 2 (some .boolean) RX8 1 := ⟨Or.inl (jTB_mem wm_1127 rfl), jTB_mem wm_611 rfl, jTB_mem wm_612 rfl, jTB_mem wm_149 rfl, jTB_mem wm_613 rfl, ⟨by decide +kernel, by decide +kernel, by decide +kernel⟩, by decide⟩
theorem mv_X9_148 : jMV RX9 148 yX8_worthOf cX8_worthOf 2 (some .int) RX8 1 := ⟨Or.inl (jTB_mem wm_1128 rfl), jTB_mem wm_607 rfl, jTB_mem wm_608 rfl, jTB_mem wm_149 rfl, jTB_mem wm_609 rfl, ⟨by decide +kernel, by decide +kernel, by decide +kernel⟩, by decide⟩
theorem mv_X9_152 : jMV RX9 152 yX9_everyJudge cX9_everyJudge 1 (some .int) RX9 0 := ⟨Or.inl (jTB_mem wm_1129 rfl), jTB_mem wm_1131 rfl, jTB_mem wm_42 rfl, jTB_mem wm_141 rfl, jTB_mem wm_1132 rfl, ⟨by decide +kernel, by decide +kernel, by decide +kernel⟩, by decide⟩
theorem mv_X9_156 : jMV RX9 156 yX8_gainOf cX8_gainOf 3 (some .int) RX8 2 := ⟨Or.inl (jTB_mem wm_1134 rfl), jTB_mem wm_657 rfl, jTB_mem wm_658 rfl, jTB_mem wm_149 rfl, jTB_mem wm_659 rfl, ⟨by decide +kernel, by decide +kernel, by decide +kernel⟩, by decide⟩
theorem mv_X9_159 : jMV RX9 159 yX8_pointsOf cX8_pointsOf 3 (some .int) RX8 2 := ⟨Or.inl (jTB_mem wm_1135 rfl), jTB_mem wm_1136 rfl, jTB_mem wm_1137 rfl, jTB_mem wm_149 rfl, jTB_mem wm_1138 rfl, ⟨by decide +kernel, by decide +kernel, by decide +kernel⟩, by decide⟩
theorem mv_X9_164 : jMV RX9 164 yX9_wantJudge cX9_wantJudge 2 (none) RX9 1 := ⟨Or.inl (jTB_mem wm_1147 rfl), jTB_mem wm_1149 rfl, jTB_mem wm_43 rfl, jTB_mem wm_141 rfl, jTB_mem wm_1150 rfl, ⟨by decide +kernel, by decide +kernel, by decide +kernel⟩, by decide⟩
theorem ms_X9_170 : jMS RX9 170 yX9_voteOfGrade cX9_voteOfGrade 2 (some .int) 2 := ⟨Or.inl (jTB_mem wm_1152 rfl), jTB_mem wm_721 rfl, jTB_mem wm_141 rfl, jTB_mem wm_722 rfl, ⟨by decide +kernel, by decide +kernel, by decide +kernel⟩, by decide⟩
theorem mv_X9_173 : jMV RX9 173 yX8_trimmed cX8_trimmed 11 (some .int) RX8 2 := ⟨Or.inl (jTB_mem wm_1160 rfl), jTB_mem wm_661 rfl, jTB_mem wm_662 rfl, jTB_mem wm_149 rfl, jTB_mem wm_663 rfl, ⟨by decide +kernel, by decide +kernel, by decide +kernel⟩, by decide⟩
theorem mv_X9_176 : jMV RX9 176 yX9_wantComponent cX9_wantComponent 2 (none) RX9 1 := ⟨Or.inl (jTB_mem wm_1168 rfl), jTB_mem wm_1170 rfl, jTB_mem wm_44 rfl, jTB_mem wm_141 rfl, jTB_mem wm_1171 rfl, ⟨by decide +kernel, by decide +kernel, by decide +kernel⟩, by decide⟩
theorem ms_X9_179 : jMS RX9 179 yX9_voteOfMark cX9_voteOfMark 2 (some .int) 2 := ⟨Or.inl (jTB_mem wm_1173 rfl), jTB_mem wm_1174 rfl, jTB_mem wm_141 rfl, jTB_mem wm_1175 rfl, ⟨by decide +kernel, by decide +kernel, by decide +kernel⟩, by decide⟩
theorem mv_X9_182 : jMV RX9 182 yX8_shownOf cX8_shownOf 3 (some .int) RX8 2 := ⟨Or.inl (jTB_mem wm_1183 rfl), jTB_mem wm_679 rfl, jTB_mem wm_680 rfl, jTB_mem wm_149 rfl, jTB_mem wm_681 rfl, ⟨by decide +kernel, by decide +kernel, by decide +kernel⟩, by decide⟩
theorem mv_X9_211 : jMV RX9 211 yX5_amount cX5_amount 4 (some .int) RX5 2 := ⟨Or.inl (jTB_mem wm_1200 rfl), jTB_mem wm_623 rfl, jTB_mem wm_624 rfl, jTB_mem wm_144 rfl, jTB_mem wm_625 rfl, ⟨by decide +kernel, by decide +kernel, by decide +kernel⟩, by decide⟩
theorem mv_X9_215 : jMV RX9 215 yX7_weigh cX7_weigh 4 (none) RX7 2 := ⟨Or.inl (jTB_mem wm_572 rfl), jTB_mem wm_573 rfl, jTB_mem wm_574 rfl, jTB_mem wm_148 rfl, jTB_mem wm_575 rfl, ⟨by decide +kernel, by decide +kernel, by decide +kernel⟩, by decide⟩
theorem mv_X9_219 : jMV RX9 219 yX7_rankOf cX7_rankOf 4 (some .int) RX7 1 := ⟨Or.inl (jTB_mem wm_1208 rfl), jTB_mem wm_691 rfl, jTB_mem wm_692 rfl, jTB_mem wm_148 rfl, jTB_mem wm_693 rfl, ⟨by decide +kernel, by decide +kernel, by decide +kernel⟩, by decide⟩
theorem mv_X9_222 : jMV RX9 222 yX7_skaterAt cX7_skaterAt 3 (some .int) RX7 1 := ⟨Or.inl (jTB_mem wm_686 rfl), jTB_mem wm_687 rfl, jTB_mem wm_688 rfl, jTB_mem wm_148 rfl, jTB_mem wm_689 rfl, ⟨by decide +kernel, by decide +kernel, by decide +kernel⟩, by decide⟩
theorem mv_X9_227 : jMV RX9 227 yX9_tellVote cX9_tellVote 6 (some .int) RX9 3 := ⟨Or.inl (jTB_mem wm_1217 rfl), jTB_mem wm_1219 rfl, jTB_mem wm_45 rfl, jTB_mem wm_141 rfl, jTB_mem wm_1220 rfl, ⟨by decide +kernel, by decide +kernel, by decide +kernel⟩, by decide⟩
theorem mv_X9_235 : jMV RX9 235 yX0_keep cX0_keep 5 (none) RX0 4 := ⟨Or.inl (jTB_mem wm_1221 rfl), jTB_mem wm_1222 rfl, jTB_mem wm_1223 rfl, jTB_mem wm_150 rfl, jTB_mem wm_1224 rfl, ⟨by decide +kernel, by decide +kernel, by decide +kernel⟩, by decide⟩
theorem mv_X9_257 : jMV RX9 257 yX6_left cX6_left 1 (some .int) RX6 0 := ⟨Or.inl (jTB_mem wm_1268 rfl), jTB_mem wm_1269 rfl, jTB_mem wm_1270 rfl, jTB_mem wm_146 rfl, jTB_mem wm_1271 rfl, ⟨by decide +kernel, by decide +kernel, by decide +kernel⟩, by decide⟩
theorem mv_X9_260 : jMV RX9 260 yX0_takeBack cX0_takeBack 5 (some .boolean) RX0 1 := ⟨Or.inl (jTB_mem wm_702 rfl), jTB_mem wm_703 rfl, jTB_mem wm_704 rfl, jTB_mem wm_150 rfl, jTB_mem wm_705 rfl, ⟨by decide +kernel, by decide +kernel, by decide +kernel⟩, by decide⟩
theorem mv_X9_265 : jMV RX9 265 yX7_leaning cX7_leaning 7 (some .int) RX7 1 := ⟨Or.inl (jTB_mem wm_1280 rfl), jTB_mem wm_715 rfl, jTB_mem wm_716 rfl, jTB_mem wm_148 rfl, jTB_mem wm_717 rfl, ⟨by decide +kernel, by decide +kernel, by decide +kernel⟩, by decide⟩
theorem mv_X9_268 : jMV RX9 268 yX7_farthestLeaning cX7_farthestLeaning 5 (some .int) RX7 0 := ⟨Or.inl (jTB_mem wm_710 rfl), jTB_mem wm_711 rfl, jTB_mem wm_712 rfl, jTB_mem wm_148 rfl, jTB_mem wm_713 rfl, ⟨by decide +kernel, by decide +kernel, by decide +kernel⟩, by decide⟩
theorem mv_X9_271 : jMV RX9 271 yX9_wantOtherJudge cX9_wantOtherJudge 1 (none) RX9 0 := ⟨Or.inl (jTB_mem wm_1289 rfl), jTB_mem wm_1291 rfl, jTB_mem wm_46 rfl, jTB_mem wm_141 rfl, jTB_mem wm_1292 rfl, ⟨by decide +kernel, by decide +kernel, by decide +kernel⟩, by decide⟩
theorem mv_X9_274 : jMV RX9 274 yX9_totalBy cX9_totalBy 4 (some .int) RX9 2 := ⟨Or.inl (jTB_mem wm_1309 rfl), jTB_mem wm_1311 rfl, jTB_mem wm_47 rfl, jTB_mem wm_141 rfl, jTB_mem wm_1312 rfl, ⟨by decide +kernel, by decide +kernel, by decide +kernel⟩, by decide⟩
theorem mv_X9_277 : jMV RX9 277 yX7_turnedPairs cX7_turnedPairs 5 (some .int) RX7 1 := ⟨Or.inl (jTB_mem wm_1321 rfl), jTB_mem wm_1322 rfl, jTB_mem wm_1323 rfl, jTB_mem wm_148 rfl, jTB_mem wm_1324 rfl, ⟨by decide +kernel, by decide +kernel, by decide +kernel⟩, by decide⟩
theorem mv_X9_280 : jMV RX9 280 yX7_judgeBy cX7_judgeBy 3 (none) RX7 1 := ⟨Or.inl (jTB_mem wm_1339 rfl), jTB_mem wm_736 rfl, jTB_mem wm_737 rfl, jTB_mem wm_148 rfl, jTB_mem wm_738 rfl, ⟨by decide +kernel, by decide +kernel, by decide +kernel⟩, by decide⟩
theorem mv_X9_283 : jMV RX9 283 yX7_findMajorities cX7_findMajorities 3 (none) RX7 0 := ⟨Or.inl (jTB_mem wm_731 rfl), jTB_mem wm_732 rfl, jTB_mem wm_733 rfl, jTB_mem wm_148 rfl, jTB_mem wm_734 rfl, ⟨by decide +kernel, by decide +kernel, by decide +kernel⟩, by decide⟩
theorem mv_X9_289 : jMV RX9 289 yX7_skaterByMajorities cX7_skaterByMajorities 5 (some .int) RX7 1 := ⟨Or.inl (jTB_mem wm_748 rfl), jTB_mem wm_749 rfl, jTB_mem wm_750 rfl, jTB_mem wm_148 rfl, jTB_mem wm_751 rfl, ⟨by decide +kernel, by decide +kernel, by decide +kernel⟩, by decide⟩
theorem mv_X9_292 : jMV RX9 292 yX9_wantPanelSize cX9_wantPanelSize 2 (none) RX9 1 := ⟨Or.inl (jTB_mem wm_1354 rfl), jTB_mem wm_1356 rfl, jTB_mem wm_48 rfl, jTB_mem wm_141 rfl, jTB_mem wm_1357 rfl, ⟨by decide +kernel, by decide +kernel, by decide +kernel⟩, by decide⟩
theorem mv_X9_299 : jMV RX9 299 yX9_judgeOutside cX9_judgeOutside 5 (some .int) RX9 2 := ⟨Or.inl (jTB_mem wm_1360 rfl), jTB_mem wm_1362 rfl, jTB_mem wm_49 rfl, jTB_mem wm_141 rfl, jTB_mem wm_1363 rfl, ⟨by decide +kernel, by decide +kernel, by decide +kernel⟩, by decide⟩
theorem ms_X9_304 : jMS RX9 304 yJ6_bitCount_0f7a4 cJ6_bitCount_0f7a4 1 (some .int) 1 := ⟨Or.inl (jTB_mem wm_1379 rfl), jTB_mem wm_665 rfl, jTB_mem wm_165 rfl, jTB_mem wm_666 rfl, ⟨by decide +kernel, by decide +kernel, by decide +kernel⟩, by decide⟩
theorem mv_X9_309 : jMV RX9 309 yX7_leadsBy cX7_leadsBy 4 (some .boolean) RX7 2 := ⟨Or.inl (jTB_mem wm_1380 rfl), jTB_mem wm_1381 rfl, jTB_mem wm_1382 rfl, jTB_mem wm_148 rfl, jTB_mem wm_1383 rfl, ⟨by decide +kernel, by decide +kernel, by decide +kernel⟩, by decide⟩
theorem mv_X9_315 : jMV RX9 315 yX6_last cX6_last 2 (some .int) RX6 0 := ⟨Or.inl (jTB_mem wm_1392 rfl), jTB_mem wm_1393 rfl, jTB_mem wm_1394 rfl, jTB_mem wm_146 rfl, jTB_mem wm_1395 rfl, ⟨by decide +kernel, by decide +kernel, by decide +kernel⟩, by decide⟩
theorem mv_X9_318 : jMV RX9 318 yX7_leastGradeAhead cX7_leastGradeAhead 6 (some .int) RX7 3 := ⟨Or.inl (jTB_mem wm_1397 rfl), jTB_mem wm_1398 rfl, jTB_mem wm_1399 rfl, jTB_mem wm_148 rfl, jTB_mem wm_1400 rfl, ⟨by decide +kernel, by decide +kernel, by decide +kernel⟩, by decide⟩
theorem mv_X9_328 : jMV RX9 328 yX8_bestLate cX8_bestLate 5 (some .int) RX8 1 := ⟨Or.inl (jTB_mem wm_1421 rfl), jTB_mem wm_1422 rfl, jTB_mem wm_1423 rfl, jTB_mem wm_149 rfl, jTB_mem wm_1424 rfl, ⟨by decide +kernel, by decide +kernel, by decide +kernel⟩, by decide⟩
theorem mv_X9_333 : jMV RX9 333 yX6_widest cX6_widest 6 (some .int) RX6 1 := ⟨Or.inl (jTB_mem wm_1444 rfl), jTB_mem wm_1445 rfl, jTB_mem wm_1446 rfl, jTB_mem wm_146 rfl, jTB_mem wm_1447 rfl, ⟨by decide +kernel, by decide +kernel, by decide +kernel⟩, by decide⟩
theorem mv_X9_340 : jMV RX9 340 yX8_weigh cX8_weigh 6 (none) RX8 4 := ⟨Or.inl (jTB_mem wm_1122 rfl), jTB_mem wm_581 rfl, jTB_mem wm_582 rfl, jTB_mem wm_149 rfl, jTB_mem wm_583 rfl, ⟨by decide +kernel, by decide +kernel, by decide +kernel⟩, by decide⟩
theorem mv_X9_343 : jMV RX9 343 yX3_putSkater cX3_putSkater 6 (none) RX3 3 := ⟨Or.inl (jTB_mem wm_1469 rfl), jTB_mem wm_1470 rfl, jTB_mem wm_1471 rfl, jTB_mem wm_151 rfl, jTB_mem wm_1472 rfl, ⟨by decide +kernel, by decide +kernel, by decide +kernel⟩, by decide⟩
theorem mv_X9_361 : jMV RX9 361 yX6_has cX6_has 2 (some .boolean) RX6 1 := ⟨Or.inl (jTB_mem wm_1116 rfl), jTB_mem wm_588 rfl, jTB_mem wm_589 rfl, jTB_mem wm_146 rfl, jTB_mem wm_590 rfl, ⟨by decide +kernel, by decide +kernel, by decide +kernel⟩, by decide⟩
theorem mv_X9_374 : jMV RX9 374 yX1_everyJudge cX1_everyJudge 1 (some .int) RX1 0 := ⟨Or.inl (jTB_mem wm_1133 rfl), jTB_mem wm_649 rfl, jTB_mem wm_650 rfl, jTB_mem wm_142 rfl, jTB_mem wm_651 rfl, ⟨by decide +kernel, by decide +kernel, by decide +kernel⟩, by decide⟩
theorem mv_X9_375 : jMV RX9 375 yX8_judgeBy cX8_judgeBy 3 (none) RX8 1 := ⟨Or.inl (jTB_mem wm_1313 rfl), jTB_mem wm_653 rfl, jTB_mem wm_654 rfl, jTB_mem wm_149 rfl, jTB_mem wm_655 rfl, ⟨by decide +kernel, by decide +kernel, by decide +kernel⟩, by decide⟩
theorem ms_X0_31 : jMS RX0 31 yJ9_min_7cf53 cJ9_min_7cf53 2 (some .int) 2 := ⟨Or.inl (jTB_mem wm_1225 rfl), jTB_mem wm_645 rfl, jTB_mem wm_154 rfl, jTB_mem wm_646 rfl, ⟨by decide +kernel, by decide +kernel, by decide +kernel⟩, by decide⟩
theorem mv_X1_60 : jMV RX1 60 yX2_forget cX2_forget 1 (none) RX2 0 := ⟨Or.inl (jTB_mem wm_784 rfl), jTB_mem wm_785 rfl, jTB_mem wm_786 rfl, jTB_mem wm_143 rfl, jTB_mem wm_787 rfl, ⟨by decide +kernel, by decide +kernel, by decide +kernel⟩, by decide⟩
theorem mv_X1_63 : jMV RX1 63 yX5_forget cX5_forget 1 (none) RX5 0 := ⟨Or.inl (jTB_mem wm_788 rfl), jTB_mem wm_789 rfl, jTB_mem wm_790 rfl, jTB_mem wm_144 rfl, jTB_mem wm_791 rfl, ⟨by decide +kernel, by decide +kernel, by decide +kernel⟩, by decide⟩
theorem mv_X1_64 : jMV RX1 64 yX6_forget cX6_forget 1 (none) RX6 0 := ⟨Or.inl (jTB_mem wm_792 rfl), jTB_mem wm_793 rfl, jTB_mem wm_794 rfl, jTB_mem wm_146 rfl, jTB_mem wm_795 rfl, ⟨by decide +kernel, by decide +kernel, by decide +kernel⟩, by decide⟩
theorem mv_X2_25 : jMV RX2 25 yX2_isFull cX2_isFull 1 (some .boolean) RX2 0 := ⟨Or.inl (jTB_mem wm_883 rfl), jTB_mem wm_860 rfl, jTB_mem wm_861 rfl, jTB_mem wm_143 rfl, jTB_mem wm_862 rfl, ⟨by decide +kernel, by decide +kernel, by decide +kernel⟩, by decide⟩
theorem mv_X2_35 : jMV RX2 35 yX2_isLike cX2_isLike 5 (some .boolean) RX2 3 := ⟨Or.inl (jTB_mem wm_875 rfl), jTB_mem wm_877 rfl, jTB_mem wm_20 rfl, jTB_mem wm_143 rfl, jTB_mem wm_878 rfl, ⟨by decide +kernel, by decide +kernel, by decide +kernel⟩, by decide⟩
theorem mv_X3_29 : jMV RX3 29 yX3_putLetters cX3_putLetters 4 (none) RX3 2 := ⟨Or.inl (jTB_mem wm_1473 rfl), jTB_mem wm_1475 rfl, jTB_mem wm_52 rfl, jTB_mem wm_151 rfl, jTB_mem wm_1476 rfl, ⟨by decide +kernel, by decide +kernel, by decide +kernel⟩, by decide⟩
theorem mv_X3_33 : jMV RX3 33 yX3_put cX3_put 2 (none) RX3 1 := ⟨Or.inl (jTB_mem wm_1478 rfl), jTB_mem wm_1480 rfl, jTB_mem wm_53 rfl, jTB_mem wm_151 rfl, jTB_mem wm_1481 rfl, ⟨by decide +kernel, by decide +kernel, by decide +kernel⟩, by decide⟩
theorem mv_X3_42 : jMV RX3 42 yX3_putHundredths cX3_putHundredths 5 (none) RX3 1 := ⟨Or.inl (jTB_mem wm_1482 rfl), jTB_mem wm_1484 rfl, jTB_mem wm_54 rfl, jTB_mem wm_151 rfl, jTB_mem wm_1485 rfl, ⟨by decide +kernel, by decide +kernel, by decide +kernel⟩, by decide⟩
theorem mv_X3_50 : jMV RX3 50 yX6_has cX6_has 2 (some .boolean) RX6 1 := ⟨Or.inl (jTB_mem wm_1488 rfl), jTB_mem wm_588 rfl, jTB_mem wm_589 rfl, jTB_mem wm_146 rfl, jTB_mem wm_590 rfl, ⟨by decide +kernel, by decide +kernel, by decide +kernel⟩, by decide⟩
theorem mv_X3_54 : jMV RX3 54 yX3_putAttempt cX3_putAttempt 6 (none) RX3 4 := ⟨Or.inl (jTB_mem wm_1489 rfl), jTB_mem wm_1491 rfl, jTB_mem wm_55 rfl, jTB_mem wm_151 rfl, jTB_mem wm_1492 rfl, ⟨by decide +kernel, by decide +kernel, by decide +kernel⟩, by decide⟩
theorem mv_X3_70 : jMV RX3 70 yX8_isLate cX8_isLate 2 (some .boolean) RX8 1 := ⟨Or.inl (jTB_mem wm_1493 rfl), jTB_mem wm_611 rfl, jTB_mem wm_612 rfl, jTB_mem wm_149 rfl, jTB_mem wm_613 rfl, ⟨by decide +kernel, by decide +kernel, by decide +kernel⟩, by decide⟩
theorem mv_X3_73 : jMV RX3 73 yX1_everyJudge cX1_everyJudge 1 (some .int) RX1 0 := ⟨Or.inl (jTB_mem wm_1494 rfl), jTB_mem wm_649 rfl, jTB_mem wm_650 rfl, jTB_mem wm_142 rfl, jTB_mem wm_651 rfl, ⟨by decide +kernel, by decide +kernel, by decide +kernel⟩, by decide⟩
theorem mv_X3_77 : jMV RX3 77 yX8_pointsOf cX8_pointsOf 3 (some .int) RX8 2 := ⟨Or.inl (jTB_mem wm_1495 rfl), jTB_mem wm_1136 rfl, jTB_mem wm_1137 rfl, jTB_mem wm_149 rfl, jTB_mem wm_1138 rfl, ⟨by decide +kernel, by decide +kernel, by decide +kernel⟩, by decide⟩
theorem mv_X3_81 : jMV RX3 81 yX2_letter cX2_letter 3 (some .int) RX2 2 := ⟨Or.inl (jTB_mem wm_1477 rfl), jTB_mem wm_1073 rfl, jTB_mem wm_1074 rfl, jTB_mem wm_143 rfl, jTB_mem wm_1075 rfl, ⟨by decide +kernel, by decide +kernel, by decide +kernel⟩, by decide⟩
theorem ms_X3_86 : jMS RX3 86 yJ9_abs_0f7a4 cJ9_abs_0f7a4 1 (some .int) 1 := ⟨Or.inl (jTB_mem wm_1486 rfl), jTB_mem wm_725 rfl, jTB_mem wm_154 rfl, jTB_mem wm_726 rfl, ⟨by decide +kernel, by decide +kernel, by decide +kernel⟩, by decide⟩
theorem mv_X4_42 : jMV RX4 42 yX4_start cX4_start 3 (none) RX4 2 := ⟨Or.inl (jTB_mem wm_776 rfl), jTB_mem wm_778 rfl, jTB_mem wm_14 rfl, jTB_mem wm_147 rfl, jTB_mem wm_779 rfl, ⟨by decide +kernel, by decide +kernel, by decide +kernel⟩, by decide⟩
theorem mv_X4_48 : jMV RX4 48 yX4_among cX4_among 6 (some .int) RX4 1 := ⟨Or.inl (jTB_mem wm_803 rfl), jTB_mem wm_805 rfl, jTB_mem wm_16 rfl, jTB_mem wm_147 rfl, jTB_mem wm_806 rfl, ⟨by decide +kernel, by decide +kernel, by decide +kernel⟩, by decide⟩
theorem mv_X4_52 : jMV RX4 52 yX4_elementLine cX4_elementLine 3 (some .boolean) RX4 0 := ⟨Or.inl (jTB_mem wm_855 rfl), jTB_mem wm_857 rfl, jTB_mem wm_17 rfl, jTB_mem wm_147 rfl, jTB_mem wm_858 rfl, ⟨by decide +kernel, by decide +kernel, by decide +kernel⟩, by decide⟩
theorem mv_X4_56 : jMV RX4 56 yX4_judgesLine cX4_judgesLine 1 (some .boolean) RX4 0 := ⟨Or.inl (jTB_mem wm_890 rfl), jTB_mem wm_892 rfl, jTB_mem wm_22 rfl, jTB_mem wm_147 rfl, jTB_mem wm_893 rfl, ⟨by decide +kernel, by decide +kernel, by decide +kernel⟩, by decide⟩
theorem mv_X4_59 : jMV RX4 59 yX4_deductLine cX4_deductLine 4 (some .boolean) RX4 0 := ⟨Or.inl (jTB_mem wm_894 rfl), jTB_mem wm_896 rfl, jTB_mem wm_23 rfl, jTB_mem wm_147 rfl, jTB_mem wm_897 rfl, ⟨by decide +kernel, by decide +kernel, by decide +kernel⟩, by decide⟩
theorem mv_X4_62 : jMV RX4 62 yX4_skaterLine cX4_skaterLine 1 (some .boolean) RX4 0 := ⟨Or.inl (jTB_mem wm_934 rfl), jTB_mem wm_936 rfl, jTB_mem wm_29 rfl, jTB_mem wm_147 rfl, jTB_mem wm_937 rfl, ⟨by decide +kernel, by decide +kernel, by decide +kernel⟩, by decide⟩
theorem mv_X4_65 : jMV RX4 65 yX4_doLine cX4_doLine 4 (some .boolean) RX4 0 := ⟨Or.inl (jTB_mem wm_938 rfl), jTB_mem wm_940 rfl, jTB_mem wm_30 rfl, jTB_mem wm_147 rfl, jTB_mem wm_941 rfl, ⟨by decide +kernel, by decide +kernel, by decide +kernel⟩, by decide⟩
theorem mv_X4_68 : jMV RX4 68 yX4_showLine cX4_showLine 3 (some .boolean) RX4 0 := ⟨Or.inl (jTB_mem wm_955 rfl), jTB_mem wm_957 rfl, jTB_mem wm_34 rfl, jTB_mem wm_147 rfl, jTB_mem wm_958 rfl, ⟨by decide +kernel, by decide +kernel, by decide +kernel⟩, by decide⟩
theorem mv_X4_71 : jMV RX4 71 yX4_lastsLine cX4_lastsLine 2 (some .boolean) RX4 0 := ⟨Or.inl (jTB_mem wm_959 rfl), jTB_mem wm_961 rfl, jTB_mem wm_35 rfl, jTB_mem wm_147 rfl, jTB_mem wm_962 rfl, ⟨by decide +kernel, by decide +kernel, by decide +kernel⟩, by decide⟩
theorem mv_X4_74 : jMV RX4 74 yX4_refuse cX4_refuse 1 (some .boolean) RX4 0 := ⟨Or.inl (jTB_mem wm_863 rfl), jTB_mem wm_865 rfl, jTB_mem wm_18 rfl, jTB_mem wm_147 rfl, jTB_mem wm_866 rfl, ⟨by decide +kernel, by decide +kernel, by decide +kernel⟩, by decide⟩
theorem mv_X4_77 : jMV RX4 77 yX4_settingLine cX4_settingLine 4 (some .boolean) RX4 1 := ⟨Or.inl (jTB_mem wm_963 rfl), jTB_mem wm_965 rfl, jTB_mem wm_36 rfl, jTB_mem wm_147 rfl, jTB_mem wm_966 rfl, ⟨by decide +kernel, by decide +kernel, by decide +kernel⟩, by decide⟩
theorem mv_X4_81 : jMV RX4 81 yX4_sign cX4_sign 2 (some .boolean) RX4 1 := ⟨Or.inl (jTB_mem wm_910 rfl), jTB_mem wm_912 rfl, jTB_mem wm_26 rfl, jTB_mem wm_147 rfl, jTB_mem wm_913 rfl, ⟨by decide +kernel, by decide +kernel, by decide +kernel⟩, by decide⟩
theorem mv_X4_84 : jMV RX4 84 yX1_forget cX1_forget 2 (none) RX1 0 := ⟨Or.inl (jTB_mem wm_780 rfl), jTB_mem wm_781 rfl, jTB_mem wm_782 rfl, jTB_mem wm_142 rfl, jTB_mem wm_783 rfl, ⟨by decide +kernel, by decide +kernel, by decide +kernel⟩, by decide⟩
theorem ms_X4_89 : jMS RX4 89 yJ9_min_7cf53 cJ9_min_7cf53 2 (some .int) 2 := ⟨Or.inl (jTB_mem wm_797 rfl), jTB_mem wm_645 rfl, jTB_mem wm_154 rfl, jTB_mem wm_646 rfl, ⟨by decide +kernel, by decide +kernel, by decide +kernel⟩, by decide⟩
theorem mv_X4_95 : jMV RX4 95 yX4_advance cX4_advance 2 (none) RX4 0 := ⟨Or.inl (jTB_mem wm_798 rfl), jTB_mem wm_800 rfl, jTB_mem wm_15 rfl, jTB_mem wm_147 rfl, jTB_mem wm_801 rfl, ⟨by decide +kernel, by decide +kernel, by decide +kernel⟩, by decide⟩
theorem mv_X4_98 : jMV RX4 98 yJ0_length_8abf5 cJ0_length_8abf5 1 (some .int) RJ0 0 := ⟨Or.inl (jTB_mem wm_807 rfl), jTB_mem wm_808 rfl, jTB_mem wm_809 rfl, jTB_mem wm_155 rfl, jTB_mem wm_810 rfl, ⟨by decide +kernel, by decide +kernel, by decide +kernel⟩, by decide⟩
theorem mv_X4_103 : jMV RX4 103 yJ0_charAt_5068e cJ0_charAt_5068e 2 (some .char) RJ0 1 := ⟨Or.inl (jTB_mem wm_817 rfl), jTB_mem wm_818 rfl, jTB_mem wm_819 rfl, jTB_mem wm_155 rfl, jTB_mem wm_820 rfl, ⟨by decide +kernel, by decide +kernel, by decide +kernel⟩, by decide⟩
theorem mv_X4_107 : jMV RX4 107 yX2_find cX2_find 5 (some .int) RX2 3 := ⟨Or.inl (jTB_mem wm_871 rfl), jTB_mem wm_872 rfl, jTB_mem wm_873 rfl, jTB_mem wm_143 rfl, jTB_mem wm_874 rfl, ⟨by decide +kernel, by decide +kernel, by decide +kernel⟩, by decide⟩
theorem mv_X4_113 : jMV RX4 113 yX2_add cX2_add 4 (none) RX2 3 := ⟨Or.inl (jTB_mem wm_879 rfl), jTB_mem wm_880 rfl, jTB_mem wm_881 rfl, jTB_mem wm_143 rfl, jTB_mem wm_882 rfl, ⟨by decide +kernel, by decide +kernel, by decide +kernel⟩, by decide⟩
theorem mv_X4_122 : jMV RX4 122 yX2_isFull cX2_isFull 1 (some .boolean) RX2 0 := ⟨Or.inl (jTB_mem wm_859 rfl), jTB_mem wm_860 rfl, jTB_mem wm_861 rfl, jTB_mem wm_143 rfl, jTB_mem wm_862 rfl, ⟨by decide +kernel, by decide +kernel, by decide +kernel⟩, by decide⟩
theorem mv_X4_125 : jMV RX4 125 yX4_newName cX4_newName 2 (some .boolean) RX4 1 := ⟨Or.inl (jTB_mem wm_867 rfl), jTB_mem wm_869 rfl, jTB_mem wm_19 rfl, jTB_mem wm_147 rfl, jTB_mem wm_870 rfl, ⟨by decide +kernel, by decide +kernel, by decide +kernel⟩, by decide⟩
theorem mv_X4_131 : jMV RX4 131 yX4_number cX4_number 4 (some .boolean) RX4 2 := ⟨Or.inl (jTB_mem wm_886 rfl), jTB_mem wm_888 rfl, jTB_mem wm_21 rfl, jTB_mem wm_147 rfl, jTB_mem wm_889 rfl, ⟨by decide +kernel, by decide +kernel, by decide +kernel⟩, by decide⟩
theorem mv_X4_165 : jMV RX4 165 yX4_votes cX4_votes 6 (some .boolean) RX4 3 := ⟨Or.inl (jTB_mem wm_946 rfl), jTB_mem wm_948 rfl, jTB_mem wm_32 rfl, jTB_mem wm_147 rfl, jTB_mem wm_949 rfl, ⟨by decide +kernel, by decide +kernel, by decide +kernel⟩, by decide⟩
theorem mv_X4_172 : jMV RX4 172 yX4_elements cX4_elements 5 (some .boolean) RX4 2 := ⟨Or.inl (jTB_mem wm_942 rfl), jTB_mem wm_944 rfl, jTB_mem wm_31 rfl, jTB_mem wm_147 rfl, jTB_mem wm_945 rfl, ⟨by decide +kernel, by decide +kernel, by decide +kernel⟩, by decide⟩
theorem mv_X4_179 : jMV RX4 179 yX4_calls cX4_calls 6 (some .boolean) RX4 2 := ⟨Or.inl (jTB_mem wm_950 rfl), jTB_mem wm_952 rfl, jTB_mem wm_33 rfl, jTB_mem wm_147 rfl, jTB_mem wm_953 rfl, ⟨by decide +kernel, by decide +kernel, by decide +kernel⟩, by decide⟩
theorem mv_X4_197 : jMV RX4 197 yX5_isFull cX5_isFull 1 (some .boolean) RX5 0 := ⟨Or.inl (jTB_mem wm_898 rfl), jTB_mem wm_899 rfl, jTB_mem wm_900 rfl, jTB_mem wm_144 rfl, jTB_mem wm_901 rfl, ⟨by decide +kernel, by decide +kernel, by decide +kernel⟩, by decide⟩
theorem mv_X4_203 : jMV RX4 203 yX4_sum cX4_sum 5 (some .boolean) RX4 1 := ⟨Or.inl (jTB_mem wm_902 rfl), jTB_mem wm_904 rfl, jTB_mem wm_24 rfl, jTB_mem wm_147 rfl, jTB_mem wm_905 rfl, ⟨by decide +kernel, by decide +kernel, by decide +kernel⟩, by decide⟩
theorem mv_X4_208 : jMV RX4 208 yX4_test cX4_test 7 (some .boolean) RX4 0 := ⟨Or.inl (jTB_mem wm_920 rfl), jTB_mem wm_922 rfl, jTB_mem wm_27 rfl, jTB_mem wm_147 rfl, jTB_mem wm_923 rfl, ⟨by decide +kernel, by decide +kernel, by decide +kernel⟩, by decide⟩
theorem mv_X4_211 : jMV RX4 211 yX5_close cX5_close 3 (none) RX5 2 := ⟨Or.inl (jTB_mem wm_929 rfl), jTB_mem wm_930 rfl, jTB_mem wm_931 rfl, jTB_mem wm_144 rfl, jTB_mem wm_932 rfl, ⟨by decide +kernel, by decide +kernel, by decide +kernel⟩, by decide⟩
theorem mv_X4_215 : jMV RX4 215 yX4_relation cX4_relation 1 (some .int) RX4 0 := ⟨Or.inl (jTB_mem wm_924 rfl), jTB_mem wm_926 rfl, jTB_mem wm_28 rfl, jTB_mem wm_147 rfl, jTB_mem wm_927 rfl, ⟨by decide +kernel, by decide +kernel, by decide +kernel⟩, by decide⟩
theorem mv_X4_218 : jMV RX4 218 yX5_add cX5_add 2 (none) RX5 1 := ⟨Or.inl (jTB_mem wm_915 rfl), jTB_mem wm_916 rfl, jTB_mem wm_917 rfl, jTB_mem wm_144 rfl, jTB_mem wm_918 rfl, ⟨by decide +kernel, by decide +kernel, by decide +kernel⟩, by decide⟩
theorem mv_X4_223 : jMV RX4 223 yX4_atom cX4_atom 3 (some .boolean) RX4 1 := ⟨Or.inl (jTB_mem wm_906 rfl), jTB_mem wm_908 rfl, jTB_mem wm_25 rfl, jTB_mem wm_147 rfl, jTB_mem wm_909 rfl, ⟨by decide +kernel, by decide +kernel, by decide +kernel⟩, by decide⟩
theorem mv_X5_34 : jMV RX5 34 yX5_isFull cX5_isFull 1 (some .boolean) RX5 0 := ⟨Or.inl (jTB_mem wm_933 rfl), jTB_mem wm_899 rfl, jTB_mem wm_900 rfl, jTB_mem wm_144 rfl, jTB_mem wm_901 rfl, ⟨by decide +kernel, by decide +kernel, by decide +kernel⟩, by decide⟩
theorem mv_X5_38 : jMV RX5 38 yX5_workOut cX5_workOut 7 (some .int) RX5 3 := ⟨Or.inl (jTB_mem wm_626 rfl), jTB_mem wm_628 rfl, jTB_mem wm_7 rfl, jTB_mem wm_144 rfl, jTB_mem wm_629 rfl, ⟨by decide +kernel, by decide +kernel, by decide +kernel⟩, by decide⟩
theorem ms_X5_42 : jMS RX5 42 yJ9_min_7cf53 cJ9_min_7cf53 2 (some .int) 2 := ⟨Or.inl (jTB_mem wm_644 rfl), jTB_mem wm_645 rfl, jTB_mem wm_154 rfl, jTB_mem wm_646 rfl, ⟨by decide +kernel, by decide +kernel, by decide +kernel⟩, by decide⟩
theorem ms_X5_48 : jMS RX5 48 yJ9_max_7cf53 cJ9_max_7cf53 2 (some .int) 2 := ⟨Or.inl (jTB_mem wm_647 rfl), jTB_mem wm_600 rfl, jTB_mem wm_154 rfl, jTB_mem wm_601 rfl, ⟨by decide +kernel, by decide +kernel, by decide +kernel⟩, by decide⟩
theorem ms_X5_51 : jMS RX5 51 yX5_valueOf cX5_valueOf 3 (some .int) 2 := ⟨Or.inl (jTB_mem wm_630 rfl), jTB_mem wm_631 rfl, jTB_mem wm_144 rfl, jTB_mem wm_632 rfl, ⟨by decide +kernel, by decide +kernel, by decide +kernel⟩, by decide⟩
theorem ms_X5_55 : jMS RX5 55 yX5_joined cX5_joined 7 (some .int) 3 := ⟨Or.inl (jTB_mem wm_633 rfl), jTB_mem wm_634 rfl, jTB_mem wm_144 rfl, jTB_mem wm_635 rfl, ⟨by decide +kernel, by decide +kernel, by decide +kernel⟩, by decide⟩
theorem ms_X5_63 : jMS RX5 63 yJ9_min_f86c9 cJ9_min_f86c9 4 (some .long) 2 := ⟨Or.inl (jTB_mem wm_638 rfl), jTB_mem wm_639 rfl, jTB_mem wm_154 rfl, jTB_mem wm_640 rfl, ⟨by decide +kernel, by decide +kernel, by decide +kernel⟩, by decide⟩
theorem ms_X5_66 : jMS RX5 66 yJ9_max_f86c9 cJ9_max_f86c9 4 (some .long) 2 := ⟨Or.inl (jTB_mem wm_641 rfl), jTB_mem wm_642 rfl, jTB_mem wm_154 rfl, jTB_mem wm_643 rfl, ⟨by decide +kernel, by decide +kernel, by decide +kernel⟩, by decide⟩
theorem ms_X6_37 : jMS RX6 37 yJ7_fill_53178 cJ7_fill_53178 4 (none) 2 := ⟨Or.inl (jTB_mem wm_796 rfl), jTB_mem wm_585 rfl, jTB_mem wm_153 rfl, jTB_mem wm_586 rfl, ⟨by decide +kernel, by decide +kernel, by decide +kernel⟩, by decide⟩
theorem ms_X6_43 : jMS RX6 43 yJ6_bitCount_0f7a4 cJ6_bitCount_0f7a4 1 (some .int) 1 := ⟨Or.inl (jTB_mem wm_1272 rfl), jTB_mem wm_665 rfl, jTB_mem wm_165 rfl, jTB_mem wm_666 rfl, ⟨by decide +kernel, by decide +kernel, by decide +kernel⟩, by decide⟩
theorem mv_X6_49 : jMV RX6 49 yX6_has cX6_has 2 (some .boolean) RX6 1 := ⟨Or.inl (jTB_mem wm_1396 rfl), jTB_mem wm_588 rfl, jTB_mem wm_589 rfl, jTB_mem wm_146 rfl, jTB_mem wm_590 rfl, ⟨by decide +kernel, by decide +kernel, by decide +kernel⟩, by decide⟩
theorem mv_X6_53 : jMV RX6 53 yX6_spanOf cX6_spanOf 7 (some .int) RX6 2 := ⟨Or.inl (jTB_mem wm_1448 rfl), jTB_mem wm_1450 rfl, jTB_mem wm_51 rfl, jTB_mem wm_146 rfl, jTB_mem wm_1451 rfl, ⟨by decide +kernel, by decide +kernel, by decide +kernel⟩, by decide⟩
theorem ms_X6_57 : jMS RX6 57 yX9_voteOfGrade cX9_voteOfGrade 2 (some .int) 2 := ⟨Or.inr ⟨"IceJudge", jNB_mem wm_1452 rfl⟩, jTB_mem wm_721 rfl, jTB_mem wm_141 rfl, jTB_mem wm_722 rfl, ⟨by decide +kernel, by decide +kernel, by decide +kernel⟩, by decide⟩
theorem ms_X6_60 : jMS RX6 60 yJ9_min_7cf53 cJ9_min_7cf53 2 (some .int) 2 := ⟨Or.inl (jTB_mem wm_1453 rfl), jTB_mem wm_645 rfl, jTB_mem wm_154 rfl, jTB_mem wm_646 rfl, ⟨by decide +kernel, by decide +kernel, by decide +kernel⟩, by decide⟩
theorem ms_X6_65 : jMS RX6 65 yJ9_max_7cf53 cJ9_max_7cf53 2 (some .int) 2 := ⟨Or.inl (jTB_mem wm_1454 rfl), jTB_mem wm_600 rfl, jTB_mem wm_154 rfl, jTB_mem wm_601 rfl, ⟨by decide +kernel, by decide +kernel, by decide +kernel⟩, by decide⟩
theorem mv_X7_52 : jMV RX7 52 yX7_skaters cX7_skaters 1 (some .int) RX7 0 := ⟨Or.inl (jTB_mem wm_576 rfl), jTB_mem wm_578 rfl, jTB_mem wm_1 rfl, jTB_mem wm_148 rfl, jTB_mem wm_579 rfl, ⟨by decide +kernel, by decide +kernel, by decide +kernel⟩, by decide⟩
theorem mv_X7_56 : jMV RX7 56 yX8_weigh cX8_weigh 6 (none) RX8 4 := ⟨Or.inl (jTB_mem wm_580 rfl), jTB_mem wm_581 rfl, jTB_mem wm_582 rfl, jTB_mem wm_149 rfl, jTB_mem wm_583 rfl, ⟨by decide +kernel, by decide +kernel, by decide +kernel⟩, by decide⟩
theorem mv_X7_60 : jMV RX7 60 yX8_judgeBy cX8_judgeBy 3 (none) RX8 1 := ⟨Or.inl (jTB_mem wm_739 rfl), jTB_mem wm_653 rfl, jTB_mem wm_654 rfl, jTB_mem wm_149 rfl, jTB_mem wm_655 rfl, ⟨by decide +kernel, by decide +kernel, by decide +kernel⟩, by decide⟩
theorem mv_X7_70 : jMV RX7 70 yX7_isAhead cX7_isAhead 3 (some .boolean) RX7 2 := ⟨Or.inl (jTB_mem wm_694 rfl), jTB_mem wm_696 rfl, jTB_mem wm_10 rfl, jTB_mem wm_148 rfl, jTB_mem wm_697 rfl, ⟨by decide +kernel, by decide +kernel, by decide +kernel⟩, by decide⟩
theorem mv_X7_74 : jMV RX7 74 yX7_rankOf cX7_rankOf 4 (some .int) RX7 1 := ⟨Or.inl (jTB_mem wm_690 rfl), jTB_mem wm_691 rfl, jTB_mem wm_692 rfl, jTB_mem wm_148 rfl, jTB_mem wm_693 rfl, ⟨by decide +kernel, by decide +kernel, by decide +kernel⟩, by decide⟩
theorem mv_X7_78 : jMV RX7 78 yX1_everyJudge cX1_everyJudge 1 (some .int) RX1 0 := ⟨Or.inl (jTB_mem wm_718 rfl), jTB_mem wm_649 rfl, jTB_mem wm_650 rfl, jTB_mem wm_142 rfl, jTB_mem wm_651 rfl, ⟨by decide +kernel, by decide +kernel, by decide +kernel⟩, by decide⟩
theorem mv_X7_90 : jMV RX7 90 yX6_has cX6_has 2 (some .boolean) RX6 1 := ⟨Or.inl (jTB_mem wm_719 rfl), jTB_mem wm_588 rfl, jTB_mem wm_589 rfl, jTB_mem wm_146 rfl, jTB_mem wm_590 rfl, ⟨by decide +kernel, by decide +kernel, by decide +kernel⟩, by decide⟩
theorem ms_X7_97 : jMS RX7 97 yX9_voteOfGrade cX9_voteOfGrade 2 (some .int) 2 := ⟨Or.inr ⟨"IceJudge", jNB_mem wm_720 rfl⟩, jTB_mem wm_721 rfl, jTB_mem wm_141 rfl, jTB_mem wm_722 rfl, ⟨by decide +kernel, by decide +kernel, by decide +kernel⟩, by decide⟩
theorem mv_X7_101 : jMV RX7 101 yX8_trimmed cX8_trimmed 11 (some .int) RX8 2 := ⟨Or.inl (jTB_mem wm_723 rfl), jTB_mem wm_661 rfl, jTB_mem wm_662 rfl, jTB_mem wm_149 rfl, jTB_mem wm_663 rfl, ⟨by decide +kernel, by decide +kernel, by decide +kernel⟩, by decide⟩
theorem mv_X7_107 : jMV RX7 107 yX7_leaning cX7_leaning 7 (some .int) RX7 1 := ⟨Or.inl (jTB_mem wm_714 rfl), jTB_mem wm_715 rfl, jTB_mem wm_716 rfl, jTB_mem wm_148 rfl, jTB_mem wm_717 rfl, ⟨by decide +kernel, by decide +kernel, by decide +kernel⟩, by decide⟩
theorem ms_X7_110 : jMS RX7 110 yJ9_abs_0f7a4 cJ9_abs_0f7a4 1 (some .int) 1 := ⟨Or.inl (jTB_mem wm_724 rfl), jTB_mem wm_725 rfl, jTB_mem wm_154 rfl, jTB_mem wm_726 rfl, ⟨by decide +kernel, by decide +kernel, by decide +kernel⟩, by decide⟩
theorem mv_X7_115 : jMV RX7 115 yX7_judgeBy cX7_judgeBy 3 (none) RX7 1 := ⟨Or.inl (jTB_mem wm_735 rfl), jTB_mem wm_736 rfl, jTB_mem wm_737 rfl, jTB_mem wm_148 rfl, jTB_mem wm_738 rfl, ⟨by decide +kernel, by decide +kernel, by decide +kernel⟩, by decide⟩
theorem mv_X7_116 : jMV RX7 116 yX7_findMajority cX7_findMajority 4 (none) RX7 1 := ⟨Or.inl (jTB_mem wm_740 rfl), jTB_mem wm_742 rfl, jTB_mem wm_11 rfl, jTB_mem wm_148 rfl, jTB_mem wm_743 rfl, ⟨by decide +kernel, by decide +kernel, by decide +kernel⟩, by decide⟩
theorem mv_X7_119 : jMV RX7 119 yX7_backersFor cX7_backersFor 5 (some .int) RX7 2 := ⟨Or.inl (jTB_mem wm_744 rfl), jTB_mem wm_746 rfl, jTB_mem wm_12 rfl, jTB_mem wm_148 rfl, jTB_mem wm_747 rfl, ⟨by decide +kernel, by decide +kernel, by decide +kernel⟩, by decide⟩
theorem mv_X7_122 : jMV RX7 122 yX7_isAheadByMajorities cX7_isAheadByMajorities 3 (some .boolean) RX7 2 := ⟨Or.inl (jTB_mem wm_752 rfl), jTB_mem wm_754 rfl, jTB_mem wm_13 rfl, jTB_mem wm_148 rfl, jTB_mem wm_755 rfl, ⟨by decide +kernel, by decide +kernel, by decide +kernel⟩, by decide⟩
theorem mv_X7_125 : jMV RX7 125 yX8_regrade cX8_regrade 4 (none) RX8 3 := ⟨Or.inl (jTB_mem wm_1401 rfl), jTB_mem wm_1402 rfl, jTB_mem wm_1403 rfl, jTB_mem wm_149 rfl, jTB_mem wm_1404 rfl, ⟨by decide +kernel, by decide +kernel, by decide +kernel⟩, by decide⟩
theorem ms_X8_68 : jMS RX8 68 yJ7_fill_53178 cJ7_fill_53178 4 (none) 2 := ⟨Or.inl (jTB_mem wm_584 rfl), jTB_mem wm_585 rfl, jTB_mem wm_153 rfl, jTB_mem wm_586 rfl, ⟨by decide +kernel, by decide +kernel, by decide +kernel⟩, by decide⟩
theorem mv_X8_82 : jMV RX8 82 yX6_has cX6_has 2 (some .boolean) RX6 1 := ⟨Or.inl (jTB_mem wm_587 rfl), jTB_mem wm_588 rfl, jTB_mem wm_589 rfl, jTB_mem wm_146 rfl, jTB_mem wm_590 rfl, ⟨by decide +kernel, by decide +kernel, by decide +kernel⟩, by decide⟩
theorem mv_X8_92 : jMV RX8 92 yX8_weighAttempt cX8_weighAttempt 4 (none) RX8 2 := ⟨Or.inl (jTB_mem wm_591 rfl), jTB_mem wm_593 rfl, jTB_mem wm_2 rfl, jTB_mem wm_149 rfl, jTB_mem wm_594 rfl, ⟨by decide +kernel, by decide +kernel, by decide +kernel⟩, by decide⟩
theorem mv_X8_96 : jMV RX8 96 yX8_sortJudges cX8_sortJudges 6 (none) RX8 1 := ⟨Or.inl (jTB_mem wm_618 rfl), jTB_mem wm_620 rfl, jTB_mem wm_6 rfl, jTB_mem wm_149 rfl, jTB_mem wm_621 rfl, ⟨by decide +kernel, by decide +kernel, by decide +kernel⟩, by decide⟩
theorem mv_X8_107 : jMV RX8 107 yX5_amount cX5_amount 4 (some .int) RX5 2 := ⟨Or.inl (jTB_mem wm_622 rfl), jTB_mem wm_623 rfl, jTB_mem wm_624 rfl, jTB_mem wm_144 rfl, jTB_mem wm_625 rfl, ⟨by decide +kernel, by decide +kernel, by decide +kernel⟩, by decide⟩
theorem mv_X8_111 : jMV RX8 111 yX1_everyJudge cX1_everyJudge 1 (some .int) RX1 0 := ⟨Or.inl (jTB_mem wm_648 rfl), jTB_mem wm_649 rfl, jTB_mem wm_650 rfl, jTB_mem wm_142 rfl, jTB_mem wm_651 rfl, ⟨by decide +kernel, by decide +kernel, by decide +kernel⟩, by decide⟩
theorem mv_X8_115 : jMV RX8 115 yX8_judgeBy cX8_judgeBy 3 (none) RX8 1 := ⟨Or.inl (jTB_mem wm_652 rfl), jTB_mem wm_653 rfl, jTB_mem wm_654 rfl, jTB_mem wm_149 rfl, jTB_mem wm_655 rfl, ⟨by decide +kernel, by decide +kernel, by decide +kernel⟩, by decide⟩
theorem mv_X8_118 : jMV RX8 118 yX8_unstruckBases cX8_unstruckBases 7 (some .int) RX8 1 := ⟨Or.inl (jTB_mem wm_595 rfl), jTB_mem wm_597 rfl, jTB_mem wm_3 rfl, jTB_mem wm_149 rfl, jTB_mem wm_598 rfl, ⟨by decide +kernel, by decide +kernel, by decide +kernel⟩, by decide⟩
theorem mv_X8_122 : jMV RX8 122 yX8_beginsWithJump cX8_beginsWithJump 2 (some .boolean) RX8 1 := ⟨Or.inl (jTB_mem wm_602 rfl), jTB_mem wm_604 rfl, jTB_mem wm_4 rfl, jTB_mem wm_149 rfl, jTB_mem wm_605 rfl, ⟨by decide +kernel, by decide +kernel, by decide +kernel⟩, by decide⟩
theorem mv_X8_128 : jMV RX8 128 yX8_worthOf cX8_worthOf 2 (some .int) RX8 1 := ⟨Or.inl (jTB_mem wm_606 rfl), jTB_mem wm_607 rfl, jTB_mem wm_608 rfl, jTB_mem wm_149 rfl, jTB_mem wm_609 rfl, ⟨by decide +kernel, by decide +kernel, by decide +kernel⟩, by decide⟩
theorem ms_X8_143 : jMS RX8 143 yJ9_max_7cf53 cJ9_max_7cf53 2 (some .int) 2 := ⟨Or.inl (jTB_mem wm_599 rfl), jTB_mem wm_600 rfl, jTB_mem wm_154 rfl, jTB_mem wm_601 rfl, ⟨by decide +kernel, by decide +kernel, by decide +kernel⟩, by decide⟩
theorem mv_X8_155 : jMV RX8 155 yX8_gainOf cX8_gainOf 3 (some .int) RX8 2 := ⟨Or.inl (jTB_mem wm_656 rfl), jTB_mem wm_657 rfl, jTB_mem wm_658 rfl, jTB_mem wm_149 rfl, jTB_mem wm_659 rfl, ⟨by decide +kernel, by decide +kernel, by decide +kernel⟩, by decide⟩
theorem mv_X8_158 : jMV RX8 158 yX8_shownOf cX8_shownOf 3 (some .int) RX8 2 := ⟨Or.inl (jTB_mem wm_678 rfl), jTB_mem wm_679 rfl, jTB_mem wm_680 rfl, jTB_mem wm_149 rfl, jTB_mem wm_681 rfl, ⟨by decide +kernel, by decide +kernel, by decide +kernel⟩, by decide⟩
theorem mv_X8_161 : jMV RX8 161 yX8_sumUp cX8_sumUp 1 (none) RX8 0 := ⟨Or.inl (jTB_mem wm_682 rfl), jTB_mem wm_684 rfl, jTB_mem wm_9 rfl, jTB_mem wm_149 rfl, jTB_mem wm_685 rfl, ⟨by decide +kernel, by decide +kernel, by decide +kernel⟩, by decide⟩
theorem mv_X8_164 : jMV RX8 164 yX8_gainBy cX8_gainBy 3 (some .int) RX8 2 := ⟨Or.inl (jTB_mem wm_674 rfl), jTB_mem wm_676 rfl, jTB_mem wm_8 rfl, jTB_mem wm_149 rfl, jTB_mem wm_677 rfl, ⟨by decide +kernel, by decide +kernel, by decide +kernel⟩, by decide⟩
theorem mv_X8_167 : jMV RX8 167 yX8_isLate cX8_isLate 2 (some .boolean) RX8 1 := ⟨Or.inl (jTB_mem wm_610 rfl), jTB_mem wm_611 rfl, jTB_mem wm_612 rfl, jTB_mem wm_149 rfl, jTB_mem wm_613 rfl, ⟨by decide +kernel, by decide +kernel, by decide +kernel⟩, by decide⟩
theorem mv_X8_170 : jMV RX8 170 yX8_bonusOf cX8_bonusOf 2 (some .int) RX8 1 := ⟨Or.inl (jTB_mem wm_614 rfl), jTB_mem wm_616 rfl, jTB_mem wm_5 rfl, jTB_mem wm_149 rfl, jTB_mem wm_617 rfl, ⟨by decide +kernel, by decide +kernel, by decide +kernel⟩, by decide⟩
theorem ms_X8_173 : jMS RX8 173 yJ9_floorDiv_7cf53 cJ9_floorDiv_7cf53 3 (some .int) 2 := ⟨Or.inl (jTB_mem wm_671 rfl), jTB_mem wm_672 rfl, jTB_mem wm_154 rfl, jTB_mem wm_673 rfl, ⟨by decide +kernel, by decide +kernel, by decide +kernel⟩, by decide⟩
theorem mv_X8_176 : jMV RX8 176 yX8_trimmed cX8_trimmed 11 (some .int) RX8 2 := ⟨Or.inl (jTB_mem wm_660 rfl), jTB_mem wm_661 rfl, jTB_mem wm_662 rfl, jTB_mem wm_149 rfl, jTB_mem wm_663 rfl, ⟨by decide +kernel, by decide +kernel, by decide +kernel⟩, by decide⟩
theorem ms_X8_179 : jMS RX8 179 yJ6_bitCount_0f7a4 cJ6_bitCount_0f7a4 1 (some .int) 1 := ⟨Or.inl (jTB_mem wm_664 rfl), jTB_mem wm_665 rfl, jTB_mem wm_165 rfl, jTB_mem wm_666 rfl, ⟨by decide +kernel, by decide +kernel, by decide +kernel⟩, by decide⟩
theorem ms_X8_184 : jMS RX8 184 yJ9_min_7cf53 cJ9_min_7cf53 2 (some .int) 2 := ⟨Or.inl (jTB_mem wm_670 rfl), jTB_mem wm_645 rfl, jTB_mem wm_154 rfl, jTB_mem wm_646 rfl, ⟨by decide +kernel, by decide +kernel, by decide +kernel⟩, by decide⟩
theorem mv_X8_187 : jMV RX8 187 yX8_greatestBonus cX8_greatestBonus 5 (some .int) RX8 1 := ⟨Or.inl (jTB_mem wm_1425 rfl), jTB_mem wm_1427 rfl, jTB_mem wm_50 rfl, jTB_mem wm_149 rfl, jTB_mem wm_1428 rfl, ⟨by decide +kernel, by decide +kernel, by decide +kernel⟩, by decide⟩
theorem mv_L_7 : jMV RL 7 yX9_read cX9_read 3 (some .int) RX9 0 := ⟨Or.inl (jTB_mem wm_768 rfl), jTB_mem wm_769 rfl, jTB_mem wm_770 rfl, jTB_mem wm_141 rfl, jTB_mem wm_771 rfl, ⟨by decide +kernel, by decide +kernel, by decide +kernel⟩, by decide⟩
theorem mv_L_15 : jMV RL 15 yX9_name cX9_name 4 (some .int) RX9 3 := ⟨Or.inl (jTB_mem wm_1048 rfl), jTB_mem wm_1049 rfl, jTB_mem wm_1050 rfl, jTB_mem wm_141 rfl, jTB_mem wm_1051 rfl, ⟨by decide +kernel, by decide +kernel, by decide +kernel⟩, by decide⟩
theorem mv_L_21 : jMV RL 21 yX9_element cX9_element 3 (some .int) RX9 2 := ⟨Or.inl (jTB_mem wm_1085 rfl), jTB_mem wm_1086 rfl, jTB_mem wm_1087 rfl, jTB_mem wm_141 rfl, jTB_mem wm_1088 rfl, ⟨by decide +kernel, by decide +kernel, by decide +kernel⟩, by decide⟩
theorem mv_L_27 : jMV RL 27 yX9_attempt cX9_attempt 6 (some .int) RX9 3 := ⟨Or.inl (jTB_mem wm_1108 rfl), jTB_mem wm_1109 rfl, jTB_mem wm_1110 rfl, jTB_mem wm_141 rfl, jTB_mem wm_1111 rfl, ⟨by decide +kernel, by decide +kernel, by decide +kernel⟩, by decide⟩
theorem mv_L_31 : jMV RL 31 yX9_grade cX9_grade 4 (some .int) RX9 3 := ⟨Or.inl (jTB_mem wm_1143 rfl), jTB_mem wm_1144 rfl, jTB_mem wm_1145 rfl, jTB_mem wm_141 rfl, jTB_mem wm_1146 rfl, ⟨by decide +kernel, by decide +kernel, by decide +kernel⟩, by decide⟩
theorem mv_L_34 : jMV RL 34 yX9_mean cX9_mean 3 (some .int) RX9 2 := ⟨Or.inl (jTB_mem wm_1156 rfl), jTB_mem wm_1157 rfl, jTB_mem wm_1158 rfl, jTB_mem wm_141 rfl, jTB_mem wm_1159 rfl, ⟨by decide +kernel, by decide +kernel, by decide +kernel⟩, by decide⟩
theorem mv_L_37 : jMV RL 37 yX9_mark cX9_mark 4 (some .int) RX9 3 := ⟨Or.inl (jTB_mem wm_1164 rfl), jTB_mem wm_1165 rfl, jTB_mem wm_1166 rfl, jTB_mem wm_141 rfl, jTB_mem wm_1167 rfl, ⟨by decide +kernel, by decide +kernel, by decide +kernel⟩, by decide⟩
theorem mv_L_40 : jMV RL 40 yX9_component cX9_component 3 (some .int) RX9 2 := ⟨Or.inl (jTB_mem wm_1179 rfl), jTB_mem wm_1180 rfl, jTB_mem wm_1181 rfl, jTB_mem wm_141 rfl, jTB_mem wm_1182 rfl, ⟨by decide +kernel, by decide +kernel, by decide +kernel⟩, by decide⟩
theorem mv_L_43 : jMV RL 43 yX9_total cX9_total 4 (some .int) RX9 2 := ⟨Or.inl (jTB_mem wm_1187 rfl), jTB_mem wm_1188 rfl, jTB_mem wm_1189 rfl, jTB_mem wm_141 rfl, jTB_mem wm_1190 rfl, ⟨by decide +kernel, by decide +kernel, by decide +kernel⟩, by decide⟩
theorem mv_L_46 : jMV RL 46 yX9_rule cX9_rule 3 (some .int) RX9 2 := ⟨Or.inl (jTB_mem wm_1195 rfl), jTB_mem wm_1196 rfl, jTB_mem wm_1197 rfl, jTB_mem wm_141 rfl, jTB_mem wm_1198 rfl, ⟨by decide +kernel, by decide +kernel, by decide +kernel⟩, by decide⟩
theorem mv_L_49 : jMV RL 49 yX9_rank cX9_rank 2 (some .int) RX9 1 := ⟨Or.inl (jTB_mem wm_1204 rfl), jTB_mem wm_1205 rfl, jTB_mem wm_1206 rfl, jTB_mem wm_141 rfl, jTB_mem wm_1207 rfl, ⟨by decide +kernel, by decide +kernel, by decide +kernel⟩, by decide⟩
theorem mv_L_53 : jMV RL 53 yX9_tell cX9_tell 5 (some .int) RX9 4 := ⟨Or.inl (jTB_mem wm_1212 rfl), jTB_mem wm_1213 rfl, jTB_mem wm_1214 rfl, jTB_mem wm_141 rfl, jTB_mem wm_1215 rfl, ⟨by decide +kernel, by decide +kernel, by decide +kernel⟩, by decide⟩
theorem mv_L_57 : jMV RL 57 yX9_show cX9_show 5 (some .int) RX9 4 := ⟨Or.inl (jTB_mem wm_1229 rfl), jTB_mem wm_1230 rfl, jTB_mem wm_1231 rfl, jTB_mem wm_141 rfl, jTB_mem wm_1232 rfl, ⟨by decide +kernel, by decide +kernel, by decide +kernel⟩, by decide⟩
theorem mv_L_60 : jMV RL 60 yX9_call cX9_call 8 (some .boolean) RX9 4 := ⟨Or.inl (jTB_mem wm_1237 rfl), jTB_mem wm_1238 rfl, jTB_mem wm_1239 rfl, jTB_mem wm_141 rfl, jTB_mem wm_1240 rfl, ⟨by decide +kernel, by decide +kernel, by decide +kernel⟩, by decide⟩
theorem mv_L_64 : jMV RL 64 yX9_base cX9_base 4 (some .int) RX9 2 := ⟨Or.inl (jTB_mem wm_1245 rfl), jTB_mem wm_1246 rfl, jTB_mem wm_1247 rfl, jTB_mem wm_141 rfl, jTB_mem wm_1248 rfl, ⟨by decide +kernel, by decide +kernel, by decide +kernel⟩, by decide⟩
theorem mv_L_67 : jMV RL 67 yX9_set cX9_set 4 (some .int) RX9 2 := ⟨Or.inl (jTB_mem wm_1253 rfl), jTB_mem wm_1254 rfl, jTB_mem wm_1255 rfl, jTB_mem wm_141 rfl, jTB_mem wm_1256 rfl, ⟨by decide +kernel, by decide +kernel, by decide +kernel⟩, by decide⟩
theorem mv_L_70 : jMV RL 70 yX9_scratch cX9_scratch 4 (some .int) RX9 2 := ⟨Or.inl (jTB_mem wm_1264 rfl), jTB_mem wm_1265 rfl, jTB_mem wm_1266 rfl, jTB_mem wm_141 rfl, jTB_mem wm_1267 rfl, ⟨by decide +kernel, by decide +kernel, by decide +kernel⟩, by decide⟩
theorem mv_L_73 : jMV RL 73 yX9_bias cX9_bias 2 (some .int) RX9 1 := ⟨Or.inl (jTB_mem wm_1276 rfl), jTB_mem wm_1277 rfl, jTB_mem wm_1278 rfl, jTB_mem wm_141 rfl, jTB_mem wm_1279 rfl, ⟨by decide +kernel, by decide +kernel, by decide +kernel⟩, by decide⟩
theorem mv_L_76 : jMV RL 76 yX9_without cX9_without 3 (some .int) RX9 2 := ⟨Or.inl (jTB_mem wm_1285 rfl), jTB_mem wm_1286 rfl, jTB_mem wm_1287 rfl, jTB_mem wm_141 rfl, jTB_mem wm_1288 rfl, ⟨by decide +kernel, by decide +kernel, by decide +kernel⟩, by decide⟩
theorem mv_L_81 : jMV RL 81 yX9_sways cX9_sways 2 (some .int) RX9 1 := ⟨Or.inl (jTB_mem wm_1317 rfl), jTB_mem wm_1318 rfl, jTB_mem wm_1319 rfl, jTB_mem wm_141 rfl, jTB_mem wm_1320 rfl, ⟨by decide +kernel, by decide +kernel, by decide +kernel⟩, by decide⟩
theorem mv_L_84 : jMV RL 84 yX9_alone cX9_alone 3 (some .int) RX9 2 := ⟨Or.inl (jTB_mem wm_1328 rfl), jTB_mem wm_1329 rfl, jTB_mem wm_1330 rfl, jTB_mem wm_141 rfl, jTB_mem wm_1331 rfl, ⟨by decide +kernel, by decide +kernel, by decide +kernel⟩, by decide⟩
theorem mv_L_87 : jMV RL 87 yX9_place cX9_place 3 (some .int) RX9 2 := ⟨Or.inl (jTB_mem wm_1335 rfl), jTB_mem wm_1336 rfl, jTB_mem wm_1337 rfl, jTB_mem wm_141 rfl, jTB_mem wm_1338 rfl, ⟨by decide +kernel, by decide +kernel, by decide +kernel⟩, by decide⟩
theorem mv_L_90 : jMV RL 90 yX9_majority cX9_majority 2 (some .int) RX9 1 := ⟨Or.inl (jTB_mem wm_1343 rfl), jTB_mem wm_1344 rfl, jTB_mem wm_1345 rfl, jTB_mem wm_141 rfl, jTB_mem wm_1346 rfl, ⟨by decide +kernel, by decide +kernel, by decide +kernel⟩, by decide⟩
theorem mv_L_93 : jMV RL 93 yX9_panel cX9_panel 6 (some .int) RX9 2 := ⟨Or.inl (jTB_mem wm_1350 rfl), jTB_mem wm_1351 rfl, jTB_mem wm_1352 rfl, jTB_mem wm_141 rfl, jTB_mem wm_1353 rfl, ⟨by decide +kernel, by decide +kernel, by decide +kernel⟩, by decide⟩
theorem mv_L_96 : jMV RL 96 yX9_by cX9_by 3 (some .int) RX9 2 := ⟨Or.inl (jTB_mem wm_1367 rfl), jTB_mem wm_1368 rfl, jTB_mem wm_1369 rfl, jTB_mem wm_141 rfl, jTB_mem wm_1370 rfl, ⟨by decide +kernel, by decide +kernel, by decide +kernel⟩, by decide⟩
theorem mv_L_99 : jMV RL 99 yX9_firsts cX9_firsts 5 (some .int) RX9 2 := ⟨Or.inl (jTB_mem wm_1375 rfl), jTB_mem wm_1376 rfl, jTB_mem wm_1377 rfl, jTB_mem wm_141 rfl, jTB_mem wm_1378 rfl, ⟨by decide +kernel, by decide +kernel, by decide +kernel⟩, by decide⟩
theorem mv_L_102 : jMV RL 102 yX9_needed cX9_needed 4 (some .int) RX9 2 := ⟨Or.inl (jTB_mem wm_1387 rfl), jTB_mem wm_1388 rfl, jTB_mem wm_1389 rfl, jTB_mem wm_141 rfl, jTB_mem wm_1390 rfl, ⟨by decide +kernel, by decide +kernel, by decide +kernel⟩, by decide⟩
theorem mv_L_105 : jMV RL 105 yX9_raise cX9_raise 8 (some .int) RX9 3 := ⟨Or.inl (jTB_mem wm_1408 rfl), jTB_mem wm_1409 rfl, jTB_mem wm_1410 rfl, jTB_mem wm_141 rfl, jTB_mem wm_1411 rfl, ⟨by decide +kernel, by decide +kernel, by decide +kernel⟩, by decide⟩
theorem mv_L_108 : jMV RL 108 yX9_prime cX9_prime 3 (some .int) RX9 2 := ⟨Or.inl (jTB_mem wm_1416 rfl), jTB_mem wm_1417 rfl, jTB_mem wm_1418 rfl, jTB_mem wm_141 rfl, jTB_mem wm_1419 rfl, ⟨by decide +kernel, by decide +kernel, by decide +kernel⟩, by decide⟩
theorem mv_L_111 : jMV RL 111 yX9_led cX9_led 2 (some .int) RX9 1 := ⟨Or.inl (jTB_mem wm_1432 rfl), jTB_mem wm_1433 rfl, jTB_mem wm_1434 rfl, jTB_mem wm_141 rfl, jTB_mem wm_1435 rfl, ⟨by decide +kernel, by decide +kernel, by decide +kernel⟩, by decide⟩
theorem mv_L_114 : jMV RL 114 yX9_doubt cX9_doubt 2 (some .int) RX9 1 := ⟨Or.inl (jTB_mem wm_1440 rfl), jTB_mem wm_1441 rfl, jTB_mem wm_1442 rfl, jTB_mem wm_141 rfl, jTB_mem wm_1443 rfl, ⟨by decide +kernel, by decide +kernel, by decide +kernel⟩, by decide⟩
theorem mv_L_117 : jMV RL 117 yX9_clean cX9_clean 3 (some .int) RX9 1 := ⟨Or.inl (jTB_mem wm_1458 rfl), jTB_mem wm_1459 rfl, jTB_mem wm_1460 rfl, jTB_mem wm_141 rfl, jTB_mem wm_1461 rfl, ⟨by decide +kernel, by decide +kernel, by decide +kernel⟩, by decide⟩
theorem mv_L_120 : jMV RL 120 yX9_write cX9_write 2 (some .int) RX9 1 := ⟨Or.inl (jTB_mem wm_1465 rfl), jTB_mem wm_1466 rfl, jTB_mem wm_1467 rfl, jTB_mem wm_141 rfl, jTB_mem wm_1468 rfl, ⟨by decide +kernel, by decide +kernel, by decide +kernel⟩, by decide⟩
theorem mv_L_127 : jMV RL 127 yX9_feed cX9_feed 6 (some .int) RX9 5 := ⟨Or.inl (jTB_mem wm_552 rfl), jTB_mem wm_553 rfl, jTB_mem wm_554 rfl, jTB_mem wm_141 rfl, jTB_mem wm_555 rfl, ⟨by decide +kernel, by decide +kernel, by decide +kernel⟩, by decide⟩
theorem mv_L_131 : jMV RL 131 yX10_feed cX10_feed 7 (some .int) RX10 5 := ⟨Or.inl (jTB_mem wm_1500 rfl), jTB_mem wm_1501 rfl, jTB_mem wm_1502 rfl, jTB_mem wm_152 rfl, jTB_mem wm_1503 rfl, ⟨by decide +kernel, by decide +kernel, by decide +kernel⟩, by decide⟩
theorem mv_L_132 : jMV RL 132 yX9_end cX9_end 2 (some .boolean) RX9 1 := ⟨Or.inl (jTB_mem wm_560 rfl), jTB_mem wm_561 rfl, jTB_mem wm_562 rfl, jTB_mem wm_141 rfl, jTB_mem wm_563 rfl, ⟨by decide +kernel, by decide +kernel, by decide +kernel⟩, by decide⟩
theorem mv_L_136 : jMV RL 136 yX10_end cX10_end 2 (some .boolean) RX10 1 := ⟨Or.inl (jTB_mem wm_1504 rfl), jTB_mem wm_1505 rfl, jTB_mem wm_1506 rfl, jTB_mem wm_152 rfl, jTB_mem wm_1507 rfl, ⟨by decide +kernel, by decide +kernel, by decide +kernel⟩, by decide⟩
theorem mv_L_142 : jMV RL 142 yX10_read cX10_read 1 (some .int) RX10 0 := ⟨Or.inl (jTB_mem wm_1624 rfl), jTB_mem wm_1625 rfl, jTB_mem wm_1626 rfl, jTB_mem wm_152 rfl, jTB_mem wm_1627 rfl, ⟨by decide +kernel, by decide +kernel, by decide +kernel⟩, by decide⟩
theorem mv_L_143 : jMV RL 143 yX10_thrown cX10_thrown 1 (some .int) RX10 0 := ⟨Or.inl (jTB_mem wm_1496 rfl), jTB_mem wm_1497 rfl, jTB_mem wm_1498 rfl, jTB_mem wm_152 rfl, jTB_mem wm_1499 rfl, ⟨by decide +kernel, by decide +kernel, by decide +kernel⟩, by decide⟩
theorem mv_L_146 : jMV RL 146 yX9_fault cX9_fault 1 (some .int) RX9 0 := ⟨Or.inl (jTB_mem wm_564 rfl), jTB_mem wm_565 rfl, jTB_mem wm_566 rfl, jTB_mem wm_141 rfl, jTB_mem wm_567 rfl, ⟨by decide +kernel, by decide +kernel, by decide +kernel⟩, by decide⟩
theorem mv_L_149 : jMV RL 149 yX10_fault cX10_fault 1 (some .int) RX10 0 := ⟨Or.inl (jTB_mem wm_1508 rfl), jTB_mem wm_1509 rfl, jTB_mem wm_1510 rfl, jTB_mem wm_152 rfl, jTB_mem wm_1511 rfl, ⟨by decide +kernel, by decide +kernel, by decide +kernel⟩, by decide⟩
theorem mv_L_153 : jMV RL 153 yX10_name cX10_name 5 (some .int) RX10 3 := ⟨Or.inl (jTB_mem wm_1793 rfl), jTB_mem wm_1794 rfl, jTB_mem wm_1795 rfl, jTB_mem wm_152 rfl, jTB_mem wm_1796 rfl, ⟨by decide +kernel, by decide +kernel, by decide +kernel⟩, by decide⟩
theorem mv_L_157 : jMV RL 157 yX10_element cX10_element 3 (some .int) RX10 2 := ⟨Or.inl (jTB_mem wm_1805 rfl), jTB_mem wm_1806 rfl, jTB_mem wm_1807 rfl, jTB_mem wm_152 rfl, jTB_mem wm_1808 rfl, ⟨by decide +kernel, by decide +kernel, by decide +kernel⟩, by decide⟩
theorem mv_L_161 : jMV RL 161 yX10_attempt cX10_attempt 4 (some .int) RX10 3 := ⟨Or.inl (jTB_mem wm_1809 rfl), jTB_mem wm_1810 rfl, jTB_mem wm_1811 rfl, jTB_mem wm_152 rfl, jTB_mem wm_1812 rfl, ⟨by decide +kernel, by decide +kernel, by decide +kernel⟩, by decide⟩
theorem mv_L_164 : jMV RL 164 yX10_grade cX10_grade 4 (some .int) RX10 3 := ⟨Or.inl (jTB_mem wm_1883 rfl), jTB_mem wm_1884 rfl, jTB_mem wm_1885 rfl, jTB_mem wm_152 rfl, jTB_mem wm_1886 rfl, ⟨by decide +kernel, by decide +kernel, by decide +kernel⟩, by decide⟩
theorem mv_L_167 : jMV RL 167 yX10_mean cX10_mean 3 (some .int) RX10 2 := ⟨Or.inl (jTB_mem wm_1891 rfl), jTB_mem wm_1892 rfl, jTB_mem wm_1893 rfl, jTB_mem wm_152 rfl, jTB_mem wm_1894 rfl, ⟨by decide +kernel, by decide +kernel, by decide +kernel⟩, by decide⟩
theorem mv_L_170 : jMV RL 170 yX10_mark cX10_mark 4 (some .int) RX10 3 := ⟨Or.inl (jTB_mem wm_1895 rfl), jTB_mem wm_1896 rfl, jTB_mem wm_1897 rfl, jTB_mem wm_152 rfl, jTB_mem wm_1898 rfl, ⟨by decide +kernel, by decide +kernel, by decide +kernel⟩, by decide⟩
theorem mv_L_173 : jMV RL 173 yX10_component cX10_component 3 (some .int) RX10 2 := ⟨Or.inl (jTB_mem wm_1907 rfl), jTB_mem wm_1908 rfl, jTB_mem wm_1909 rfl, jTB_mem wm_152 rfl, jTB_mem wm_1910 rfl, ⟨by decide +kernel, by decide +kernel, by decide +kernel⟩, by decide⟩
theorem mv_L_176 : jMV RL 176 yX10_total cX10_total 3 (some .int) RX10 2 := ⟨Or.inl (jTB_mem wm_1915 rfl), jTB_mem wm_1916 rfl, jTB_mem wm_1917 rfl, jTB_mem wm_152 rfl, jTB_mem wm_1918 rfl, ⟨by decide +kernel, by decide +kernel, by decide +kernel⟩, by decide⟩
theorem mv_L_179 : jMV RL 179 yX10_rule cX10_rule 3 (some .int) RX10 2 := ⟨Or.inl (jTB_mem wm_1966 rfl), jTB_mem wm_1967 rfl, jTB_mem wm_1968 rfl, jTB_mem wm_152 rfl, jTB_mem wm_1969 rfl, ⟨by decide +kernel, by decide +kernel, by decide +kernel⟩, by decide⟩
theorem mv_L_183 : jMV RL 183 yX10_rank cX10_rank 2 (some .int) RX10 1 := ⟨Or.inl (jTB_mem wm_1970 rfl), jTB_mem wm_1971 rfl, jTB_mem wm_1972 rfl, jTB_mem wm_152 rfl, jTB_mem wm_1973 rfl, ⟨by decide +kernel, by decide +kernel, by decide +kernel⟩, by decide⟩
theorem mv_L_184 : jMV RL 184 yX9_ranked cX9_ranked 2 (some .int) RX9 1 := ⟨Or.inl (jTB_mem wm_568 rfl), jTB_mem wm_569 rfl, jTB_mem wm_570 rfl, jTB_mem wm_141 rfl, jTB_mem wm_571 rfl, ⟨by decide +kernel, by decide +kernel, by decide +kernel⟩, by decide⟩
theorem mv_L_187 : jMV RL 187 yX10_ranked cX10_ranked 2 (some .int) RX10 1 := ⟨Or.inl (jTB_mem wm_1986 rfl), jTB_mem wm_1987 rfl, jTB_mem wm_1988 rfl, jTB_mem wm_152 rfl, jTB_mem wm_1989 rfl, ⟨by decide +kernel, by decide +kernel, by decide +kernel⟩, by decide⟩
theorem mv_L_191 : jMV RL 191 yX10_tell cX10_tell 5 (some .int) RX10 4 := ⟨Or.inl (jTB_mem wm_1994 rfl), jTB_mem wm_1995 rfl, jTB_mem wm_1996 rfl, jTB_mem wm_152 rfl, jTB_mem wm_1997 rfl, ⟨by decide +kernel, by decide +kernel, by decide +kernel⟩, by decide⟩
theorem mv_L_194 : jMV RL 194 yX10_show cX10_show 5 (some .int) RX10 4 := ⟨Or.inl (jTB_mem wm_2006 rfl), jTB_mem wm_2007 rfl, jTB_mem wm_2008 rfl, jTB_mem wm_152 rfl, jTB_mem wm_2009 rfl, ⟨by decide +kernel, by decide +kernel, by decide +kernel⟩, by decide⟩
theorem mv_L_198 : jMV RL 198 yX10_call cX10_call 6 (some .boolean) RX10 4 := ⟨Or.inl (jTB_mem wm_2010 rfl), jTB_mem wm_2011 rfl, jTB_mem wm_2012 rfl, jTB_mem wm_152 rfl, jTB_mem wm_2013 rfl, ⟨by decide +kernel, by decide +kernel, by decide +kernel⟩, by decide⟩
theorem mv_L_201 : jMV RL 201 yX10_base cX10_base 3 (some .int) RX10 2 := ⟨Or.inl (jTB_mem wm_2014 rfl), jTB_mem wm_2015 rfl, jTB_mem wm_2016 rfl, jTB_mem wm_152 rfl, jTB_mem wm_2017 rfl, ⟨by decide +kernel, by decide +kernel, by decide +kernel⟩, by decide⟩
theorem mv_L_204 : jMV RL 204 yX10_set cX10_set 4 (some .int) RX10 2 := ⟨Or.inl (jTB_mem wm_2018 rfl), jTB_mem wm_2019 rfl, jTB_mem wm_2020 rfl, jTB_mem wm_152 rfl, jTB_mem wm_2021 rfl, ⟨by decide +kernel, by decide +kernel, by decide +kernel⟩, by decide⟩
theorem mv_L_207 : jMV RL 207 yX10_scratch cX10_scratch 4 (some .int) RX10 2 := ⟨Or.inl (jTB_mem wm_2022 rfl), jTB_mem wm_2023 rfl, jTB_mem wm_2024 rfl, jTB_mem wm_152 rfl, jTB_mem wm_2025 rfl, ⟨by decide +kernel, by decide +kernel, by decide +kernel⟩, by decide⟩
theorem mv_L_208 : jMV RL 208 yX9_undo cX9_undo 1 (some .int) RX9 0 := ⟨Or.inl (jTB_mem wm_698 rfl), jTB_mem wm_699 rfl, jTB_mem wm_700 rfl, jTB_mem wm_141 rfl, jTB_mem wm_701 rfl, ⟨by decide +kernel, by decide +kernel, by decide +kernel⟩, by decide⟩
theorem mv_L_211 : jMV RL 211 yX10_undo cX10_undo 2 (some .int) RX10 0 := ⟨Or.inl (jTB_mem wm_2026 rfl), jTB_mem wm_2027 rfl, jTB_mem wm_2028 rfl, jTB_mem wm_152 rfl, jTB_mem wm_2029 rfl, ⟨by decide +kernel, by decide +kernel, by decide +kernel⟩, by decide⟩
theorem mv_L_214 : jMV RL 214 yX10_bias cX10_bias 2 (some .int) RX10 1 := ⟨Or.inl (jTB_mem wm_2030 rfl), jTB_mem wm_2031 rfl, jTB_mem wm_2032 rfl, jTB_mem wm_152 rfl, jTB_mem wm_2033 rfl, ⟨by decide +kernel, by decide +kernel, by decide +kernel⟩, by decide⟩
theorem mv_L_215 : jMV RL 215 yX9_odd cX9_odd 1 (some .int) RX9 0 := ⟨Or.inl (jTB_mem wm_706 rfl), jTB_mem wm_707 rfl, jTB_mem wm_708 rfl, jTB_mem wm_141 rfl, jTB_mem wm_709 rfl, ⟨by decide +kernel, by decide +kernel, by decide +kernel⟩, by decide⟩
theorem mv_L_218 : jMV RL 218 yX10_odd cX10_odd 3 (some .int) RX10 0 := ⟨Or.inl (jTB_mem wm_2038 rfl), jTB_mem wm_2039 rfl, jTB_mem wm_2040 rfl, jTB_mem wm_152 rfl, jTB_mem wm_2041 rfl, ⟨by decide +kernel, by decide +kernel, by decide +kernel⟩, by decide⟩
theorem mv_L_221 : jMV RL 221 yX10_without cX10_without 3 (some .int) RX10 2 := ⟨Or.inl (jTB_mem wm_2043 rfl), jTB_mem wm_2044 rfl, jTB_mem wm_2045 rfl, jTB_mem wm_152 rfl, jTB_mem wm_2046 rfl, ⟨by decide +kernel, by decide +kernel, by decide +kernel⟩, by decide⟩
theorem mv_L_224 : jMV RL 224 yX10_sways cX10_sways 7 (some .int) RX10 1 := ⟨Or.inl (jTB_mem wm_2051 rfl), jTB_mem wm_2052 rfl, jTB_mem wm_2053 rfl, jTB_mem wm_152 rfl, jTB_mem wm_2054 rfl, ⟨by decide +kernel, by decide +kernel, by decide +kernel⟩, by decide⟩
theorem mv_L_227 : jMV RL 227 yX10_alone cX10_alone 3 (some .int) RX10 2 := ⟨Or.inl (jTB_mem wm_2055 rfl), jTB_mem wm_2056 rfl, jTB_mem wm_2057 rfl, jTB_mem wm_152 rfl, jTB_mem wm_2058 rfl, ⟨by decide +kernel, by decide +kernel, by decide +kernel⟩, by decide⟩
theorem mv_L_230 : jMV RL 230 yX10_place cX10_place 3 (some .int) RX10 2 := ⟨Or.inl (jTB_mem wm_2059 rfl), jTB_mem wm_2060 rfl, jTB_mem wm_2061 rfl, jTB_mem wm_152 rfl, jTB_mem wm_2062 rfl, ⟨by decide +kernel, by decide +kernel, by decide +kernel⟩, by decide⟩
theorem mv_L_233 : jMV RL 233 yX10_majority cX10_majority 2 (some .int) RX10 1 := ⟨Or.inl (jTB_mem wm_2067 rfl), jTB_mem wm_2068 rfl, jTB_mem wm_2069 rfl, jTB_mem wm_152 rfl, jTB_mem wm_2070 rfl, ⟨by decide +kernel, by decide +kernel, by decide +kernel⟩, by decide⟩
theorem mv_L_234 : jMV RL 234 yX9_major cX9_major 2 (some .int) RX9 1 := ⟨Or.inl (jTB_mem wm_727 rfl), jTB_mem wm_728 rfl, jTB_mem wm_729 rfl, jTB_mem wm_141 rfl, jTB_mem wm_730 rfl, ⟨by decide +kernel, by decide +kernel, by decide +kernel⟩, by decide⟩
theorem mv_L_237 : jMV RL 237 yX10_major cX10_major 5 (some .int) RX10 1 := ⟨Or.inl (jTB_mem wm_2079 rfl), jTB_mem wm_2080 rfl, jTB_mem wm_2081 rfl, jTB_mem wm_152 rfl, jTB_mem wm_2082 rfl, ⟨by decide +kernel, by decide +kernel, by decide +kernel⟩, by decide⟩
theorem mv_L_240 : jMV RL 240 yX10_panel cX10_panel 8 (some .int) RX10 2 := ⟨Or.inl (jTB_mem wm_2091 rfl), jTB_mem wm_2092 rfl, jTB_mem wm_2093 rfl, jTB_mem wm_152 rfl, jTB_mem wm_2094 rfl, ⟨by decide +kernel, by decide +kernel, by decide +kernel⟩, by decide⟩
theorem mv_L_243 : jMV RL 243 yX10_by cX10_by 3 (some .int) RX10 2 := ⟨Or.inl (jTB_mem wm_2096 rfl), jTB_mem wm_2097 rfl, jTB_mem wm_2098 rfl, jTB_mem wm_152 rfl, jTB_mem wm_2099 rfl, ⟨by decide +kernel, by decide +kernel, by decide +kernel⟩, by decide⟩
theorem mv_L_246 : jMV RL 246 yX10_firsts cX10_firsts 5 (some .int) RX10 2 := ⟨Or.inl (jTB_mem wm_2100 rfl), jTB_mem wm_2101 rfl, jTB_mem wm_2102 rfl, jTB_mem wm_152 rfl, jTB_mem wm_2103 rfl, ⟨by decide +kernel, by decide +kernel, by decide +kernel⟩, by decide⟩
theorem mv_L_249 : jMV RL 249 yX10_needed cX10_needed 5 (some .int) RX10 2 := ⟨Or.inl (jTB_mem wm_2107 rfl), jTB_mem wm_2108 rfl, jTB_mem wm_2109 rfl, jTB_mem wm_152 rfl, jTB_mem wm_2110 rfl, ⟨by decide +kernel, by decide +kernel, by decide +kernel⟩, by decide⟩
theorem mv_L_252 : jMV RL 252 yX10_raise cX10_raise 7 (some .int) RX10 3 := ⟨Or.inl (jTB_mem wm_2115 rfl), jTB_mem wm_2116 rfl, jTB_mem wm_2117 rfl, jTB_mem wm_152 rfl, jTB_mem wm_2118 rfl, ⟨by decide +kernel, by decide +kernel, by decide +kernel⟩, by decide⟩
theorem mv_L_255 : jMV RL 255 yX10_prime cX10_prime 9 (some .int) RX10 2 := ⟨Or.inl (jTB_mem wm_2119 rfl), jTB_mem wm_2120 rfl, jTB_mem wm_2121 rfl, jTB_mem wm_152 rfl, jTB_mem wm_2122 rfl, ⟨by decide +kernel, by decide +kernel, by decide +kernel⟩, by decide⟩
theorem mv_L_258 : jMV RL 258 yX10_led cX10_led 2 (some .int) RX10 1 := ⟨Or.inl (jTB_mem wm_2123 rfl), jTB_mem wm_2124 rfl, jTB_mem wm_2125 rfl, jTB_mem wm_152 rfl, jTB_mem wm_2126 rfl, ⟨by decide +kernel, by decide +kernel, by decide +kernel⟩, by decide⟩
theorem mv_L_261 : jMV RL 261 yX10_doubt cX10_doubt 8 (some .int) RX10 1 := ⟨Or.inl (jTB_mem wm_2127 rfl), jTB_mem wm_2128 rfl, jTB_mem wm_2129 rfl, jTB_mem wm_152 rfl, jTB_mem wm_2130 rfl, ⟨by decide +kernel, by decide +kernel, by decide +kernel⟩, by decide⟩
theorem mv_L_264 : jMV RL 264 yX10_clean cX10_clean 2 (some .int) RX10 1 := ⟨Or.inl (jTB_mem wm_2131 rfl), jTB_mem wm_2132 rfl, jTB_mem wm_2133 rfl, jTB_mem wm_152 rfl, jTB_mem wm_2134 rfl, ⟨by decide +kernel, by decide +kernel, by decide +kernel⟩, by decide⟩
theorem mv_L_267 : jMV RL 267 yX10_write cX10_write 3 (some .int) RX10 1 := ⟨Or.inl (jTB_mem wm_2135 rfl), jTB_mem wm_2136 rfl, jTB_mem wm_2137 rfl, jTB_mem wm_152 rfl, jTB_mem wm_2138 rfl, ⟨by decide +kernel, by decide +kernel, by decide +kernel⟩, by decide⟩
theorem mv_L_268 : jMV RL 268 yX9_octet cX9_octet 2 (some .int) RX9 1 := ⟨Or.inl (jTB_mem wm_756 rfl), jTB_mem wm_757 rfl, jTB_mem wm_758 rfl, jTB_mem wm_141 rfl, jTB_mem wm_759 rfl, ⟨by decide +kernel, by decide +kernel, by decide +kernel⟩, by decide⟩
theorem mv_L_271 : jMV RL 271 yX10_octet cX10_octet 2 (some .int) RX10 1 := ⟨Or.inl (jTB_mem wm_2159 rfl), jTB_mem wm_2160 rfl, jTB_mem wm_2161 rfl, jTB_mem wm_152 rfl, jTB_mem wm_2162 rfl, ⟨by decide +kernel, by decide +kernel, by decide +kernel⟩, by decide⟩
theorem mv_L_272 : jMV RL 272 yX9_count cX9_count 2 (some .int) RX9 1 := ⟨Or.inl (jTB_mem wm_760 rfl), jTB_mem wm_761 rfl, jTB_mem wm_762 rfl, jTB_mem wm_141 rfl, jTB_mem wm_763 rfl, ⟨by decide +kernel, by decide +kernel, by decide +kernel⟩, by decide⟩
theorem mv_L_275 : jMV RL 275 yX10_count cX10_count 2 (some .int) RX10 1 := ⟨Or.inl (jTB_mem wm_2163 rfl), jTB_mem wm_2164 rfl, jTB_mem wm_2165 rfl, jTB_mem wm_152 rfl, jTB_mem wm_2166 rfl, ⟨by decide +kernel, by decide +kernel, by decide +kernel⟩, by decide⟩
theorem mv_X10_27 : jMV RX10 27 yX10_isAt cX10_isAt 3 (some .boolean) RX10 2 := ⟨Or.inl (jTB_mem wm_1632 rfl), jTB_mem wm_1634 rfl, jTB_mem wm_59 rfl, jTB_mem wm_152 rfl, jTB_mem wm_1635 rfl, ⟨by decide +kernel, by decide +kernel, by decide +kernel⟩, by decide⟩
theorem mv_X10_34 : jMV RX10 34 yX10_blanks cX10_blanks 1 (none) RX10 0 := ⟨Or.inl (jTB_mem wm_1628 rfl), jTB_mem wm_1630 rfl, jTB_mem wm_58 rfl, jTB_mem wm_152 rfl, jTB_mem wm_1631 rfl, ⟨by decide +kernel, by decide +kernel, by decide +kernel⟩, by decide⟩
theorem mv_X10_38 : jMV RX10 38 yX10_hasFailed cX10_hasFailed 1 (some .boolean) RX10 0 := ⟨Or.inl (jTB_mem wm_1636 rfl), jTB_mem wm_1638 rfl, jTB_mem wm_60 rfl, jTB_mem wm_152 rfl, jTB_mem wm_1639 rfl, ⟨by decide +kernel, by decide +kernel, by decide +kernel⟩, by decide⟩
theorem mv_X10_42 : jMV RX10 42 yX10_isSign cX10_isSign 2 (some .boolean) RX10 1 := ⟨Or.inl (jTB_mem wm_1716 rfl), jTB_mem wm_1718 rfl, jTB_mem wm_76 rfl, jTB_mem wm_152 rfl, jTB_mem wm_1719 rfl, ⟨by decide +kernel, by decide +kernel, by decide +kernel⟩, by decide⟩
theorem mv_X10_46 : jMV RX10 46 yX10_takes cX10_takes 3 (some .boolean) RX10 1 := ⟨Or.inl (jTB_mem wm_1724 rfl), jTB_mem wm_1726 rfl, jTB_mem wm_78 rfl, jTB_mem wm_152 rfl, jTB_mem wm_1727 rfl, ⟨by decide +kernel, by decide +kernel, by decide +kernel⟩, by decide⟩
theorem mv_X10_49 : jMV RX10 49 yX10_fails cX10_fails 1 (none) RX10 0 := ⟨Or.inl (jTB_mem wm_1659 rfl), jTB_mem wm_1661 rfl, jTB_mem wm_65 rfl, jTB_mem wm_152 rfl, jTB_mem wm_1662 rfl, ⟨by decide +kernel, by decide +kernel, by decide +kernel⟩, by decide⟩
theorem mv_X10_52 : jMV RX10 52 yX10_wordMany cX10_wordMany 2 (some .int) RX10 0 := ⟨Or.inl (jTB_mem wm_1653 rfl), jTB_mem wm_1655 rfl, jTB_mem wm_64 rfl, jTB_mem wm_152 rfl, jTB_mem wm_1656 rfl, ⟨by decide +kernel, by decide +kernel, by decide +kernel⟩, by decide⟩
theorem mv_X10_56 : jMV RX10 56 yJ0_length_8abf5 cJ0_length_8abf5 1 (some .int) RJ0 0 := ⟨Or.inl (jTB_mem wm_1657 rfl), jTB_mem wm_808 rfl, jTB_mem wm_809 rfl, jTB_mem wm_155 rfl, jTB_mem wm_810 rfl, ⟨by decide +kernel, by decide +kernel, by decide +kernel⟩, by decide⟩
theorem mv_X10_61 : jMV RX10 61 yJ0_charAt_5068e cJ0_charAt_5068e 2 (some .char) RJ0 1 := ⟨Or.inl (jTB_mem wm_1658 rfl), jTB_mem wm_818 rfl, jTB_mem wm_819 rfl, jTB_mem wm_155 rfl, jTB_mem wm_820 rfl, ⟨by decide +kernel, by decide +kernel, by decide +kernel⟩, by decide⟩
theorem mv_X10_65 : jMV RX10 65 yX10_isWord cX10_isWord 4 (some .boolean) RX10 1 := ⟨Or.inl (jTB_mem wm_1649 rfl), jTB_mem wm_1651 rfl, jTB_mem wm_63 rfl, jTB_mem wm_152 rfl, jTB_mem wm_1652 rfl, ⟨by decide +kernel, by decide +kernel, by decide +kernel⟩, by decide⟩
theorem ms_X10_69 : jMS RX10 69 yX10_in cX10_in 3 (some .boolean) 3 := ⟨Or.inl (jTB_mem wm_1675 rfl), jTB_mem wm_1676 rfl, jTB_mem wm_152 rfl, jTB_mem wm_1677 rfl, ⟨by decide +kernel, by decide +kernel, by decide +kernel⟩, by decide⟩
theorem mv_X10_115 : jMV RX10 115 yX10_usual cX10_usual 2 (none) RX10 0 := ⟨Or.inl (jTB_mem wm_1518 rfl), jTB_mem wm_1520 rfl, jTB_mem wm_56 rfl, jTB_mem wm_152 rfl, jTB_mem wm_1521 rfl, ⟨by decide +kernel, by decide +kernel, by decide +kernel⟩, by decide⟩
theorem mv_X10_118 : jMV RX10 118 yX10_taken cX10_taken 2 (none) RX10 0 := ⟨Or.inl (jTB_mem wm_1522 rfl), jTB_mem wm_1524 rfl, jTB_mem wm_57 rfl, jTB_mem wm_152 rfl, jTB_mem wm_1525 rfl, ⟨by decide +kernel, by decide +kernel, by decide +kernel⟩, by decide⟩
theorem mv_X10_121 : jMV RX10 121 yX10_isName cX10_isName 2 (some .boolean) RX10 0 := ⟨Or.inl (jTB_mem wm_1671 rfl), jTB_mem wm_1673 rfl, jTB_mem wm_68 rfl, jTB_mem wm_152 rfl, jTB_mem wm_1674 rfl, ⟨by decide +kernel, by decide +kernel, by decide +kernel⟩, by decide⟩
theorem mv_X10_124 : jMV RX10 124 yX10_named cX10_named 7 (some .int) RX10 2 := ⟨Or.inl (jTB_mem wm_1678 rfl), jTB_mem wm_1680 rfl, jTB_mem wm_69 rfl, jTB_mem wm_152 rfl, jTB_mem wm_1681 rfl, ⟨by decide +kernel, by decide +kernel, by decide +kernel⟩, by decide⟩
theorem mv_X10_151 : jMV RX10 151 yX10_sum cX10_sum 2 (none) RX10 0 := ⟨Or.inl (jTB_mem wm_1704 rfl), jTB_mem wm_1706 rfl, jTB_mem wm_73 rfl, jTB_mem wm_152 rfl, jTB_mem wm_1707 rfl, ⟨by decide +kernel, by decide +kernel, by decide +kernel⟩, by decide⟩
theorem mv_X10_154 : jMV RX10 154 yX10_asksSign cX10_asksSign 2 (none) RX10 1 := ⟨Or.inl (jTB_mem wm_1720 rfl), jTB_mem wm_1722 rfl, jTB_mem wm_77 rfl, jTB_mem wm_152 rfl, jTB_mem wm_1723 rfl, ⟨by decide +kernel, by decide +kernel, by decide +kernel⟩, by decide⟩
theorem mv_X10_158 : jMV RX10 158 yX10_wordTold cX10_wordTold 1 (some .int) RX10 0 := ⟨Or.inl (jTB_mem wm_1728 rfl), jTB_mem wm_1730 rfl, jTB_mem wm_79 rfl, jTB_mem wm_152 rfl, jTB_mem wm_1731 rfl, ⟨by decide +kernel, by decide +kernel, by decide +kernel⟩, by decide⟩
theorem mv_X10_161 : jMV RX10 161 yX10_number cX10_number 5 (some .int) RX10 2 := ⟨Or.inl (jTB_mem wm_1689 rfl), jTB_mem wm_1691 rfl, jTB_mem wm_71 rfl, jTB_mem wm_152 rfl, jTB_mem wm_1692 rfl, ⟨by decide +kernel, by decide +kernel, by decide +kernel⟩, by decide⟩
theorem mv_X10_164 : jMV RX10 164 yX10_code cX10_code 3 (none) RX10 1 := ⟨Or.inl (jTB_mem wm_1740 rfl), jTB_mem wm_1742 rfl, jTB_mem wm_80 rfl, jTB_mem wm_152 rfl, jTB_mem wm_1743 rfl, ⟨by decide +kernel, by decide +kernel, by decide +kernel⟩, by decide⟩
theorem mv_X10_167 : jMV RX10 167 yX10_atom cX10_atom 2 (none) RX10 0 := ⟨Or.inl (jTB_mem wm_1712 rfl), jTB_mem wm_1714 rfl, jTB_mem wm_75 rfl, jTB_mem wm_152 rfl, jTB_mem wm_1715 rfl, ⟨by decide +kernel, by decide +kernel, by decide +kernel⟩, by decide⟩
theorem mv_X10_170 : jMV RX10 170 yX10_term cX10_term 1 (none) RX10 0 := ⟨Or.inl (jTB_mem wm_1708 rfl), jTB_mem wm_1710 rfl, jTB_mem wm_74 rfl, jTB_mem wm_152 rfl, jTB_mem wm_1711 rfl, ⟨by decide +kernel, by decide +kernel, by decide +kernel⟩, by decide⟩
theorem mv_X10_173 : jMV RX10 173 yX10_fact cX10_fact 2 (none) RX10 0 := ⟨Or.inl (jTB_mem wm_1753 rfl), jTB_mem wm_1755 rfl, jTB_mem wm_83 rfl, jTB_mem wm_152 rfl, jTB_mem wm_1756 rfl, ⟨by decide +kernel, by decide +kernel, by decide +kernel⟩, by decide⟩
theorem mv_X10_178 : jMV RX10 178 yX10_takesWord cX10_takesWord 3 (some .boolean) RX10 1 := ⟨Or.inl (jTB_mem wm_1683 rfl), jTB_mem wm_1685 rfl, jTB_mem wm_70 rfl, jTB_mem wm_152 rfl, jTB_mem wm_1686 rfl, ⟨by decide +kernel, by decide +kernel, by decide +kernel⟩, by decide⟩
theorem mv_X10_181 : jMV RX10 181 yX10_part cX10_part 1 (none) RX10 0 := ⟨Or.inl (jTB_mem wm_1749 rfl), jTB_mem wm_1751 rfl, jTB_mem wm_82 rfl, jTB_mem wm_152 rfl, jTB_mem wm_1752 rfl, ⟨by decide +kernel, by decide +kernel, by decide +kernel⟩, by decide⟩
theorem mv_X10_188 : jMV RX10 188 yX10_test cX10_test 1 (none) RX10 0 := ⟨Or.inl (jTB_mem wm_1745 rfl), jTB_mem wm_1747 rfl, jTB_mem wm_81 rfl, jTB_mem wm_152 rfl, jTB_mem wm_1748 rfl, ⟨by decide +kernel, by decide +kernel, by decide +kernel⟩, by decide⟩
theorem mv_X10_191 : jMV RX10 191 yX10_freshName cX10_freshName 5 (none) RX10 2 := ⟨Or.inl (jTB_mem wm_1667 rfl), jTB_mem wm_1669 rfl, jTB_mem wm_67 rfl, jTB_mem wm_152 rfl, jTB_mem wm_1670 rfl, ⟨by decide +kernel, by decide +kernel, by decide +kernel⟩, by decide⟩
theorem ms_X10_199 : jMS RX10 199 yX10_tryAt cX10_tryAt 2 (some .int) 2 := ⟨Or.inl (jTB_mem wm_1766 rfl), jTB_mem wm_1767 rfl, jTB_mem wm_152 rfl, jTB_mem wm_1768 rfl, ⟨by decide +kernel, by decide +kernel, by decide +kernel⟩, by decide⟩
theorem mv_X10_202 : jMV RX10 202 yX10_elementTold cX10_elementTold 3 (some .int) RX10 1 := ⟨Or.inl (jTB_mem wm_1769 rfl), jTB_mem wm_1771 rfl, jTB_mem wm_85 rfl, jTB_mem wm_152 rfl, jTB_mem wm_1772 rfl, ⟨by decide +kernel, by decide +kernel, by decide +kernel⟩, by decide⟩
theorem mv_X10_206 : jMV RX10 206 yX10_letters cX10_letters 6 (none) RX10 2 := ⟨Or.inl (jTB_mem wm_1773 rfl), jTB_mem wm_1775 rfl, jTB_mem wm_86 rfl, jTB_mem wm_152 rfl, jTB_mem wm_1776 rfl, ⟨by decide +kernel, by decide +kernel, by decide +kernel⟩, by decide⟩
theorem mv_X10_209 : jMV RX10 209 yX10_callTold cX10_callTold 1 (some .int) RX10 0 := ⟨Or.inl (jTB_mem wm_1777 rfl), jTB_mem wm_1779 rfl, jTB_mem wm_87 rfl, jTB_mem wm_152 rfl, jTB_mem wm_1780 rfl, ⟨by decide +kernel, by decide +kernel, by decide +kernel⟩, by decide⟩
theorem ms_X10_212 : jMS RX10 212 yX10_isIn cX10_isIn 2 (some .boolean) 2 := ⟨Or.inl (jTB_mem wm_1784 rfl), jTB_mem wm_1785 rfl, jTB_mem wm_152 rfl, jTB_mem wm_1786 rfl, ⟨by decide +kernel, by decide +kernel, by decide +kernel⟩, by decide⟩
theorem mv_X10_227 : jMV RX10 227 yX10_begins cX10_begins 3 (some .boolean) RX10 2 := ⟨Or.inl (jTB_mem wm_1645 rfl), jTB_mem wm_1647 rfl, jTB_mem wm_62 rfl, jTB_mem wm_152 rfl, jTB_mem wm_1648 rfl, ⟨by decide +kernel, by decide +kernel, by decide +kernel⟩, by decide⟩
theorem mv_X10_231 : jMV RX10 231 yX10_elementLine cX10_elementLine 2 (none) RX10 0 := ⟨Or.inl (jTB_mem wm_1663 rfl), jTB_mem wm_1665 rfl, jTB_mem wm_66 rfl, jTB_mem wm_152 rfl, jTB_mem wm_1666 rfl, ⟨by decide +kernel, by decide +kernel, by decide +kernel⟩, by decide⟩
theorem mv_X10_246 : jMV RX10 246 yX10_ruleLine cX10_ruleLine 1 (none) RX10 0 := ⟨Or.inl (jTB_mem wm_1700 rfl), jTB_mem wm_1702 rfl, jTB_mem wm_72 rfl, jTB_mem wm_152 rfl, jTB_mem wm_1703 rfl, ⟨by decide +kernel, by decide +kernel, by decide +kernel⟩, by decide⟩
theorem ms_X10_253 : jMS RX10 253 yJ9_max_7cf53 cJ9_max_7cf53 2 (some .int) 2 := ⟨Or.inl (jTB_mem wm_1761 rfl), jTB_mem wm_600 rfl, jTB_mem wm_154 rfl, jTB_mem wm_601 rfl, ⟨by decide +kernel, by decide +kernel, by decide +kernel⟩, by decide⟩
theorem mv_X10_258 : jMV RX10 258 yX10_doLine cX10_doLine 6 (none) RX10 0 := ⟨Or.inl (jTB_mem wm_1762 rfl), jTB_mem wm_1764 rfl, jTB_mem wm_84 rfl, jTB_mem wm_152 rfl, jTB_mem wm_1765 rfl, ⟨by decide +kernel, by decide +kernel, by decide +kernel⟩, by decide⟩
theorem mv_X10_265 : jMV RX10 265 yX10_line cX10_line 4 (none) RX10 0 := ⟨Or.inl (jTB_mem wm_1640 rfl), jTB_mem wm_1642 rfl, jTB_mem wm_61 rfl, jTB_mem wm_152 rfl, jTB_mem wm_1643 rfl, ⟨by decide +kernel, by decide +kernel, by decide +kernel⟩, by decide⟩
theorem mv_X10_268 : jMV RX10 268 yX10_throwsIf cX10_throwsIf 3 (some .boolean) RX10 2 := ⟨Or.inl (jTB_mem wm_1789 rfl), jTB_mem wm_1791 rfl, jTB_mem wm_88 rfl, jTB_mem wm_152 rfl, jTB_mem wm_1792 rfl, ⟨by decide +kernel, by decide +kernel, by decide +kernel⟩, by decide⟩
theorem mv_X10_293 : jMV RX10 293 yX10_elementOf cX10_elementOf 4 (some .int) RX10 3 := ⟨Or.inl (jTB_mem wm_1829 rfl), jTB_mem wm_1831 rfl, jTB_mem wm_95 rfl, jTB_mem wm_152 rfl, jTB_mem wm_1832 rfl, ⟨by decide +kernel, by decide +kernel, by decide +kernel⟩, by decide⟩
theorem mv_X10_297 : jMV RX10 297 yX10_isJump cX10_isJump 2 (some .boolean) RX10 1 := ⟨Or.inl (jTB_mem wm_1841 rfl), jTB_mem wm_1843 rfl, jTB_mem wm_98 rfl, jTB_mem wm_152 rfl, jTB_mem wm_1844 rfl, ⟨by decide +kernel, by decide +kernel, by decide +kernel⟩, by decide⟩
theorem ms_X10_306 : jMS RX10 306 yJ9_min_7cf53 cJ9_min_7cf53 2 (some .int) 2 := ⟨Or.inl (jTB_mem wm_1877 rfl), jTB_mem wm_645 rfl, jTB_mem wm_154 rfl, jTB_mem wm_646 rfl, ⟨by decide +kernel, by decide +kernel, by decide +kernel⟩, by decide⟩
theorem ms_X10_309 : jMS RX10 309 yJ9_floorDiv_7cf53 cJ9_floorDiv_7cf53 3 (some .int) 2 := ⟨Or.inl (jTB_mem wm_1878 rfl), jTB_mem wm_672 rfl, jTB_mem wm_154 rfl, jTB_mem wm_673 rfl, ⟨by decide +kernel, by decide +kernel, by decide +kernel⟩, by decide⟩
theorem mv_X10_312 : jMV RX10 312 yX10_gradeBy cX10_gradeBy 4 (some .int) RX10 3 := ⟨Or.inl (jTB_mem wm_1869 rfl), jTB_mem wm_1871 rfl, jTB_mem wm_105 rfl, jTB_mem wm_152 rfl, jTB_mem wm_1872 rfl, ⟨by decide +kernel, by decide +kernel, by decide +kernel⟩, by decide⟩
theorem mv_X10_315 : jMV RX10 315 yX10_trimmed cX10_trimmed 5 (some .int) RX10 1 := ⟨Or.inl (jTB_mem wm_1873 rfl), jTB_mem wm_1875 rfl, jTB_mem wm_106 rfl, jTB_mem wm_152 rfl, jTB_mem wm_1876 rfl, ⟨by decide +kernel, by decide +kernel, by decide +kernel⟩, by decide⟩
theorem mv_X10_319 : jMV RX10 319 yX10_markAt cX10_markAt 4 (some .int) RX10 3 := ⟨Or.inl (jTB_mem wm_1903 rfl), jTB_mem wm_1905 rfl, jTB_mem wm_110 rfl, jTB_mem wm_152 rfl, jTB_mem wm_1906 rfl, ⟨by decide +kernel, by decide +kernel, by decide +kernel⟩, by decide⟩
theorem mv_X10_322 : jMV RX10 322 yX10_is cX10_is 3 (some .boolean) RX10 2 := ⟨Or.inl (jTB_mem wm_1821 rfl), jTB_mem wm_1823 rfl, jTB_mem wm_93 rfl, jTB_mem wm_152 rfl, jTB_mem wm_1824 rfl, ⟨by decide +kernel, by decide +kernel, by decide +kernel⟩, by decide⟩
theorem mv_X10_325 : jMV RX10 325 yX10_elementsOf cX10_elementsOf 3 (some .int) RX10 2 := ⟨Or.inl (jTB_mem wm_1825 rfl), jTB_mem wm_1827 rfl, jTB_mem wm_94 rfl, jTB_mem wm_152 rfl, jTB_mem wm_1828 rfl, ⟨by decide +kernel, by decide +kernel, by decide +kernel⟩, by decide⟩
theorem mv_X10_328 : jMV RX10 328 yX10_stoodAhead cX10_stoodAhead 8 (some .int) RX10 3 := ⟨Or.inl (jTB_mem wm_1853 rfl), jTB_mem wm_1855 rfl, jTB_mem wm_101 rfl, jTB_mem wm_152 rfl, jTB_mem wm_1856 rfl, ⟨by decide +kernel, by decide +kernel, by decide +kernel⟩, by decide⟩
theorem mv_X10_331 : jMV RX10 331 yX10_isStruck cX10_isStruck 4 (some .boolean) RX10 3 := ⟨Or.inl (jTB_mem wm_1849 rfl), jTB_mem wm_1851 rfl, jTB_mem wm_100 rfl, jTB_mem wm_152 rfl, jTB_mem wm_1852 rfl, ⟨by decide +kernel, by decide +kernel, by decide +kernel⟩, by decide⟩
theorem mv_X10_334 : jMV RX10 334 yX10_callsOf cX10_callsOf 3 (some .int) RX10 2 := ⟨Or.inl (jTB_mem wm_1833 rfl), jTB_mem wm_1835 rfl, jTB_mem wm_96 rfl, jTB_mem wm_152 rfl, jTB_mem wm_1836 rfl, ⟨by decide +kernel, by decide +kernel, by decide +kernel⟩, by decide⟩
theorem mv_X10_337 : jMV RX10 337 yX10_isLate cX10_isLate 3 (some .boolean) RX10 2 := ⟨Or.inl (jTB_mem wm_1837 rfl), jTB_mem wm_1839 rfl, jTB_mem wm_97 rfl, jTB_mem wm_152 rfl, jTB_mem wm_1840 rfl, ⟨by decide +kernel, by decide +kernel, by decide +kernel⟩, by decide⟩
theorem mv_X10_340 : jMV RX10 340 yX10_meanOf cX10_meanOf 5 (some .int) RX10 2 := ⟨Or.inl (jTB_mem wm_1865 rfl), jTB_mem wm_1867 rfl, jTB_mem wm_104 rfl, jTB_mem wm_152 rfl, jTB_mem wm_1868 rfl, ⟨by decide +kernel, by decide +kernel, by decide +kernel⟩, by decide⟩
theorem mv_X10_343 : jMV RX10 343 yX10_worthOf cX10_worthOf 5 (some .int) RX10 2 := ⟨Or.inl (jTB_mem wm_1857 rfl), jTB_mem wm_1859 rfl, jTB_mem wm_102 rfl, jTB_mem wm_152 rfl, jTB_mem wm_1860 rfl, ⟨by decide +kernel, by decide +kernel, by decide +kernel⟩, by decide⟩
theorem mv_X10_346 : jMV RX10 346 yX10_gainOf cX10_gainOf 5 (some .int) RX10 2 := ⟨Or.inl (jTB_mem wm_1861 rfl), jTB_mem wm_1863 rfl, jTB_mem wm_103 rfl, jTB_mem wm_152 rfl, jTB_mem wm_1864 rfl, ⟨by decide +kernel, by decide +kernel, by decide +kernel⟩, by decide⟩
theorem mv_X10_349 : jMV RX10 349 yX10_pointsAt cX10_pointsAt 3 (some .int) RX10 2 := ⟨Or.inl (jTB_mem wm_1879 rfl), jTB_mem wm_1881 rfl, jTB_mem wm_107 rfl, jTB_mem wm_152 rfl, jTB_mem wm_1882 rfl, ⟨by decide +kernel, by decide +kernel, by decide +kernel⟩, by decide⟩
theorem mv_X10_352 : jMV RX10 352 yX10_componentOf cX10_componentOf 5 (some .int) RX10 2 := ⟨Or.inl (jTB_mem wm_1911 rfl), jTB_mem wm_1913 rfl, jTB_mem wm_111 rfl, jTB_mem wm_152 rfl, jTB_mem wm_1914 rfl, ⟨by decide +kernel, by decide +kernel, by decide +kernel⟩, by decide⟩
theorem mv_X10_355 : jMV RX10 355 yX10_calledOf cX10_calledOf 5 (some .int) RX10 2 := ⟨Or.inl (jTB_mem wm_1927 rfl), jTB_mem wm_1929 rfl, jTB_mem wm_114 rfl, jTB_mem wm_152 rfl, jTB_mem wm_1930 rfl, ⟨by decide +kernel, by decide +kernel, by decide +kernel⟩, by decide⟩
theorem mv_X10_358 : jMV RX10 358 yX10_triesOf cX10_triesOf 5 (some .int) RX10 2 := ⟨Or.inl (jTB_mem wm_1943 rfl), jTB_mem wm_1945 rfl, jTB_mem wm_118 rfl, jTB_mem wm_152 rfl, jTB_mem wm_1946 rfl, ⟨by decide +kernel, by decide +kernel, by decide +kernel⟩, by decide⟩
theorem mv_X10_362 : jMV RX10 362 yX10_elementsBy cX10_elementsBy 6 (some .int) RX10 2 := ⟨Or.inl (jTB_mem wm_1947 rfl), jTB_mem wm_1949 rfl, jTB_mem wm_119 rfl, jTB_mem wm_152 rfl, jTB_mem wm_1950 rfl, ⟨by decide +kernel, by decide +kernel, by decide +kernel⟩, by decide⟩
theorem ms_X10_369 : jMS RX10 369 yJ9_min_f86c9 cJ9_min_f86c9 4 (some .long) 2 := ⟨Or.inl (jTB_mem wm_1959 rfl), jTB_mem wm_639 rfl, jTB_mem wm_154 rfl, jTB_mem wm_640 rfl, ⟨by decide +kernel, by decide +kernel, by decide +kernel⟩, by decide⟩
theorem ms_X10_372 : jMS RX10 372 yJ9_max_f86c9 cJ9_max_f86c9 4 (some .long) 2 := ⟨Or.inl (jTB_mem wm_1960 rfl), jTB_mem wm_642 rfl, jTB_mem wm_154 rfl, jTB_mem wm_643 rfl, ⟨by decide +kernel, by decide +kernel, by decide +kernel⟩, by decide⟩
theorem ms_X10_374 : jMS RX10 374 yX10_held cX10_held 2 (some .long) 1 := ⟨Or.inl (jTB_mem wm_1954 rfl), jTB_mem wm_1955 rfl, jTB_mem wm_152 rfl, jTB_mem wm_1956 rfl, ⟨by decide +kernel, by decide +kernel, by decide +kernel⟩, by decide⟩
theorem mv_X10_378 : jMV RX10 378 yX10_wordBy cX10_wordBy 3 (some .int) RX10 2 := ⟨Or.inl (jTB_mem wm_1939 rfl), jTB_mem wm_1941 rfl, jTB_mem wm_117 rfl, jTB_mem wm_152 rfl, jTB_mem wm_1942 rfl, ⟨by decide +kernel, by decide +kernel, by decide +kernel⟩, by decide⟩
theorem ms_X10_381 : jMS RX10 381 yX10_worked cX10_worked 5 (some .long) 3 := ⟨Or.inl (jTB_mem wm_1951 rfl), jTB_mem wm_1952 rfl, jTB_mem wm_152 rfl, jTB_mem wm_1953 rfl, ⟨by decide +kernel, by decide +kernel, by decide +kernel⟩, by decide⟩
theorem mv_X10_387 : jMV RX10 387 yX10_ruleOf cX10_ruleOf 6 (some .int) RX10 2 := ⟨Or.inl (jTB_mem wm_1935 rfl), jTB_mem wm_1937 rfl, jTB_mem wm_116 rfl, jTB_mem wm_152 rfl, jTB_mem wm_1938 rfl, ⟨by decide +kernel, by decide +kernel, by decide +kernel⟩, by decide⟩
theorem mv_X10_390 : jMV RX10 390 yX10_pointsOf cX10_pointsOf 4 (some .int) RX10 1 := ⟨Or.inl (jTB_mem wm_1919 rfl), jTB_mem wm_1921 rfl, jTB_mem wm_112 rfl, jTB_mem wm_152 rfl, jTB_mem wm_1922 rfl, ⟨by decide +kernel, by decide +kernel, by decide +kernel⟩, by decide⟩
theorem mv_X10_393 : jMV RX10 393 yX10_shownOf cX10_shownOf 4 (some .int) RX10 1 := ⟨Or.inl (jTB_mem wm_1923 rfl), jTB_mem wm_1925 rfl, jTB_mem wm_113 rfl, jTB_mem wm_152 rfl, jTB_mem wm_1926 rfl, ⟨by decide +kernel, by decide +kernel, by decide +kernel⟩, by decide⟩
theorem mv_X10_396 : jMV RX10 396 yX10_deductedOf cX10_deductedOf 4 (some .int) RX10 1 := ⟨Or.inl (jTB_mem wm_1931 rfl), jTB_mem wm_1933 rfl, jTB_mem wm_115 rfl, jTB_mem wm_152 rfl, jTB_mem wm_1934 rfl, ⟨by decide +kernel, by decide +kernel, by decide +kernel⟩, by decide⟩
theorem mv_X10_399 : jMV RX10 399 yX10_totalOf cX10_totalOf 2 (some .int) RX10 1 := ⟨Or.inl (jTB_mem wm_1962 rfl), jTB_mem wm_1964 rfl, jTB_mem wm_120 rfl, jTB_mem wm_152 rfl, jTB_mem wm_1965 rfl, ⟨by decide +kernel, by decide +kernel, by decide +kernel⟩, by decide⟩
theorem mv_X10_402 : jMV RX10 402 yX10_isAhead cX10_isAhead 3 (some .boolean) RX10 2 := ⟨Or.inl (jTB_mem wm_1982 rfl), jTB_mem wm_1984 rfl, jTB_mem wm_123 rfl, jTB_mem wm_152 rfl, jTB_mem wm_1985 rfl, ⟨by decide +kernel, by decide +kernel, by decide +kernel⟩, by decide⟩
theorem mv_X10_405 : jMV RX10 405 yX10_rankOf cX10_rankOf 4 (some .int) RX10 1 := ⟨Or.inl (jTB_mem wm_1978 rfl), jTB_mem wm_1980 rfl, jTB_mem wm_122 rfl, jTB_mem wm_152 rfl, jTB_mem wm_1981 rfl, ⟨by decide +kernel, by decide +kernel, by decide +kernel⟩, by decide⟩
theorem mv_X10_408 : jMV RX10 408 yX10_all cX10_all 1 (none) RX10 0 := ⟨Or.inl (jTB_mem wm_1817 rfl), jTB_mem wm_1819 rfl, jTB_mem wm_92 rfl, jTB_mem wm_152 rfl, jTB_mem wm_1820 rfl, ⟨by decide +kernel, by decide +kernel, by decide +kernel⟩, by decide⟩
theorem mv_X10_411 : jMV RX10 411 yX10_noSkater cX10_noSkater 2 (some .boolean) RX10 1 := ⟨Or.inl (jTB_mem wm_1797 rfl), jTB_mem wm_1799 rfl, jTB_mem wm_89 rfl, jTB_mem wm_152 rfl, jTB_mem wm_1800 rfl, ⟨by decide +kernel, by decide +kernel, by decide +kernel⟩, by decide⟩
theorem mv_X10_414 : jMV RX10 414 yX10_noElement cX10_noElement 2 (some .boolean) RX10 1 := ⟨Or.inl (jTB_mem wm_1801 rfl), jTB_mem wm_1803 rfl, jTB_mem wm_90 rfl, jTB_mem wm_152 rfl, jTB_mem wm_1804 rfl, ⟨by decide +kernel, by decide +kernel, by decide +kernel⟩, by decide⟩
theorem mv_X10_417 : jMV RX10 417 yX10_noTry cX10_noTry 3 (some .boolean) RX10 2 := ⟨Or.inl (jTB_mem wm_1813 rfl), jTB_mem wm_1815 rfl, jTB_mem wm_91 rfl, jTB_mem wm_152 rfl, jTB_mem wm_1816 rfl, ⟨by decide +kernel, by decide +kernel, by decide +kernel⟩, by decide⟩
theorem mv_X10_420 : jMV RX10 420 yX10_struckOf cX10_struckOf 5 (some .int) RX10 2 := ⟨Or.inl (jTB_mem wm_1845 rfl), jTB_mem wm_1847 rfl, jTB_mem wm_99 rfl, jTB_mem wm_152 rfl, jTB_mem wm_1848 rfl, ⟨by decide +kernel, by decide +kernel, by decide +kernel⟩, by decide⟩
theorem mv_X10_423 : jMV RX10 423 yX10_noJudge cX10_noJudge 2 (some .boolean) RX10 1 := ⟨Or.inl (jTB_mem wm_1887 rfl), jTB_mem wm_1889 rfl, jTB_mem wm_108 rfl, jTB_mem wm_152 rfl, jTB_mem wm_1890 rfl, ⟨by decide +kernel, by decide +kernel, by decide +kernel⟩, by decide⟩
theorem mv_X10_426 : jMV RX10 426 yX10_noComponent cX10_noComponent 2 (some .boolean) RX10 1 := ⟨Or.inl (jTB_mem wm_1899 rfl), jTB_mem wm_1901 rfl, jTB_mem wm_109 rfl, jTB_mem wm_152 rfl, jTB_mem wm_1902 rfl, ⟨by decide +kernel, by decide +kernel, by decide +kernel⟩, by decide⟩
theorem mv_X10_429 : jMV RX10 429 yX10_laysTotals cX10_laysTotals 2 (none) RX10 0 := ⟨Or.inl (jTB_mem wm_1974 rfl), jTB_mem wm_1976 rfl, jTB_mem wm_121 rfl, jTB_mem wm_152 rfl, jTB_mem wm_1977 rfl, ⟨by decide +kernel, by decide +kernel, by decide +kernel⟩, by decide⟩
theorem mv_X10_432 : jMV RX10 432 yX10_rankedAt cX10_rankedAt 3 (some .int) RX10 1 := ⟨Or.inl (jTB_mem wm_1990 rfl), jTB_mem wm_1992 rfl, jTB_mem wm_124 rfl, jTB_mem wm_152 rfl, jTB_mem wm_1993 rfl, ⟨by decide +kernel, by decide +kernel, by decide +kernel⟩, by decide⟩
theorem mv_X10_435 : jMV RX10 435 yX10_keeps cX10_keeps 2 (none) RX10 0 := ⟨Or.inl (jTB_mem wm_2002 rfl), jTB_mem wm_2004 rfl, jTB_mem wm_126 rfl, jTB_mem wm_152 rfl, jTB_mem wm_2005 rfl, ⟨by decide +kernel, by decide +kernel, by decide +kernel⟩, by decide⟩
theorem mv_X10_438 : jMV RX10 438 yX10_tells cX10_tells 4 (some .int) RX10 2 := ⟨Or.inl (jTB_mem wm_1998 rfl), jTB_mem wm_2000 rfl, jTB_mem wm_125 rfl, jTB_mem wm_152 rfl, jTB_mem wm_2001 rfl, ⟨by decide +kernel, by decide +kernel, by decide +kernel⟩, by decide⟩
theorem mv_X10_441 : jMV RX10 441 yX10_biasOf cX10_biasOf 5 (some .int) RX10 1 := ⟨Or.inl (jTB_mem wm_2034 rfl), jTB_mem wm_2036 rfl, jTB_mem wm_127 rfl, jTB_mem wm_152 rfl, jTB_mem wm_2037 rfl, ⟨by decide +kernel, by decide +kernel, by decide +kernel⟩, by decide⟩
theorem ms_X10_444 : jMS RX10 444 yJ9_abs_0f7a4 cJ9_abs_0f7a4 1 (some .int) 1 := ⟨Or.inl (jTB_mem wm_2042 rfl), jTB_mem wm_725 rfl, jTB_mem wm_154 rfl, jTB_mem wm_726 rfl, ⟨by decide +kernel, by decide +kernel, by decide +kernel⟩, by decide⟩
theorem mv_X10_447 : jMV RX10 447 yX10_isOnlyOne cX10_isOnlyOne 1 (some .boolean) RX10 0 := ⟨Or.inl (jTB_mem wm_2047 rfl), jTB_mem wm_2049 rfl, jTB_mem wm_128 rfl, jTB_mem wm_152 rfl, jTB_mem wm_2050 rfl, ⟨by decide +kernel, by decide +kernel, by decide +kernel⟩, by decide⟩
theorem mv_X10_450 : jMV RX10 450 yX10_laysPlaces cX10_laysPlaces 3 (none) RX10 0 := ⟨Or.inl (jTB_mem wm_2063 rfl), jTB_mem wm_2065 rfl, jTB_mem wm_129 rfl, jTB_mem wm_152 rfl, jTB_mem wm_2066 rfl, ⟨by decide +kernel, by decide +kernel, by decide +kernel⟩, by decide⟩
theorem mv_X10_453 : jMV RX10 453 yX10_atOrAhead cX10_atOrAhead 5 (some .int) RX10 2 := ⟨Or.inl (jTB_mem wm_2075 rfl), jTB_mem wm_2077 rfl, jTB_mem wm_131 rfl, jTB_mem wm_152 rfl, jTB_mem wm_2078 rfl, ⟨by decide +kernel, by decide +kernel, by decide +kernel⟩, by decide⟩
theorem mv_X10_456 : jMV RX10 456 yX10_majorityOf cX10_majorityOf 3 (some .int) RX10 1 := ⟨Or.inl (jTB_mem wm_2071 rfl), jTB_mem wm_2073 rfl, jTB_mem wm_130 rfl, jTB_mem wm_152 rfl, jTB_mem wm_2074 rfl, ⟨by decide +kernel, by decide +kernel, by decide +kernel⟩, by decide⟩
theorem mv_X10_459 : jMV RX10 459 yX10_placesOf cX10_placesOf 4 (some .int) RX10 1 := ⟨Or.inl (jTB_mem wm_2087 rfl), jTB_mem wm_2089 rfl, jTB_mem wm_133 rfl, jTB_mem wm_152 rfl, jTB_mem wm_2090 rfl, ⟨by decide +kernel, by decide +kernel, by decide +kernel⟩, by decide⟩
theorem mv_X10_462 : jMV RX10 462 yX10_isMajor cX10_isMajor 4 (some .boolean) RX10 2 := ⟨Or.inl (jTB_mem wm_2083 rfl), jTB_mem wm_2085 rfl, jTB_mem wm_132 rfl, jTB_mem wm_152 rfl, jTB_mem wm_2086 rfl, ⟨by decide +kernel, by decide +kernel, by decide +kernel⟩, by decide⟩
theorem ms_X10_466 : jMS RX10 466 yX10_bits cX10_bits 3 (some .int) 1 := ⟨Or.inl (jTB_mem wm_2104 rfl), jTB_mem wm_2105 rfl, jTB_mem wm_152 rfl, jTB_mem wm_2106 rfl, ⟨by decide +kernel, by decide +kernel, by decide +kernel⟩, by decide⟩
theorem mv_X10_469 : jMV RX10 469 yX10_lastTry cX10_lastTry 4 (some .int) RX10 1 := ⟨Or.inl (jTB_mem wm_2111 rfl), jTB_mem wm_2113 rfl, jTB_mem wm_134 rfl, jTB_mem wm_152 rfl, jTB_mem wm_2114 rfl, ⟨by decide +kernel, by decide +kernel, by decide +kernel⟩, by decide⟩
theorem mv_X10_475 : jMV RX10 475 yX10_says cX10_says 2 (none) RX10 1 := ⟨Or.inl (jTB_mem wm_2143 rfl), jTB_mem wm_2145 rfl, jTB_mem wm_136 rfl, jTB_mem wm_152 rfl, jTB_mem wm_2146 rfl, ⟨by decide +kernel, by decide +kernel, by decide +kernel⟩, by decide⟩
theorem mv_X10_478 : jMV RX10 478 yX10_saysNumber cX10_saysNumber 2 (none) RX10 1 := ⟨Or.inl (jTB_mem wm_2151 rfl), jTB_mem wm_2153 rfl, jTB_mem wm_138 rfl, jTB_mem wm_152 rfl, jTB_mem wm_2154 rfl, ⟨by decide +kernel, by decide +kernel, by decide +kernel⟩, by decide⟩
theorem mv_X10_481 : jMV RX10 481 yX10_saysName cX10_saysName 3 (none) RX10 1 := ⟨Or.inl (jTB_mem wm_2139 rfl), jTB_mem wm_2141 rfl, jTB_mem wm_135 rfl, jTB_mem wm_152 rfl, jTB_mem wm_2142 rfl, ⟨by decide +kernel, by decide +kernel, by decide +kernel⟩, by decide⟩
theorem mv_X10_484 : jMV RX10 484 yX10_saysHundredths cX10_saysHundredths 3 (none) RX10 1 := ⟨Or.inl (jTB_mem wm_2147 rfl), jTB_mem wm_2149 rfl, jTB_mem wm_137 rfl, jTB_mem wm_152 rfl, jTB_mem wm_2150 rfl, ⟨by decide +kernel, by decide +kernel, by decide +kernel⟩, by decide⟩
theorem mv_X10_487 : jMV RX10 487 yX10_saysTry cX10_saysTry 4 (none) RX10 2 := ⟨Or.inl (jTB_mem wm_2155 rfl), jTB_mem wm_2157 rfl, jTB_mem wm_139 rfl, jTB_mem wm_152 rfl, jTB_mem wm_2158 rfl, ⟨by decide +kernel, by decide +kernel, by decide +kernel⟩, by decide⟩
theorem mv_J0_335 : jMV RJ0 335 yJ0_coder_7d493 cJ0_coder_7d493 1 (some .byte) RJ0 0 := ⟨Or.inl (jTB_mem wm_811 rfl), jTB_mem wm_812 rfl, jTB_mem wm_813 rfl, jTB_mem wm_155 rfl, jTB_mem wm_814 rfl, ⟨by decide +kernel, by decide +kernel, by decide +kernel⟩, by decide⟩
theorem mv_J0_492 : jMV RJ0 492 yJ0_isLatin1_aae02 cJ0_isLatin1_aae02 1 (some .boolean) RJ0 0 := ⟨Or.inl (jTB_mem wm_821 rfl), jTB_mem wm_822 rfl, jTB_mem wm_823 rfl, jTB_mem wm_155 rfl, jTB_mem wm_824 rfl, ⟨by decide +kernel, by decide +kernel, by decide +kernel⟩, by decide⟩
theorem ms_J0_495 : jMS RJ0 495 yJ1_charAt_3b067 cJ1_charAt_3b067 2 (some .char) 2 := ⟨Or.inl (jTB_mem wm_825 rfl), jTB_mem wm_826 rfl, jTB_mem wm_156 rfl, jTB_mem wm_827 rfl, ⟨by decide +kernel, by decide +kernel, by decide +kernel⟩, by decide⟩
theorem ms_J0_498 : jMS RJ0 498 yJ2_charAt_3b067 cJ2_charAt_3b067 2 (some .char) 2 := ⟨Or.inl (jTB_mem wm_836 rfl), jTB_mem wm_837 rfl, jTB_mem wm_158 rfl, jTB_mem wm_838 rfl, ⟨by decide +kernel, by decide +kernel, by decide +kernel⟩, by decide⟩
theorem ms_J0_1059 : jMS RJ0 1059 yJ3_checkIndex_8e157 cJ3_checkIndex_8e157 3 (some .int) 3 := ⟨Or.inl (jTB_mem wm_833 rfl), jTB_mem wm_834 rfl, jTB_mem wm_157 rfl, jTB_mem wm_835 rfl, ⟨by decide +kernel, by decide +kernel, by decide +kernel⟩, by decide⟩
theorem ms_J1_9 : jMS RJ1 9 yJ0_checkIndex_df160 cJ0_checkIndex_df160 2 (none) 2 := ⟨Or.inl (jTB_mem wm_828 rfl), jTB_mem wm_829 rfl, jTB_mem wm_155 rfl, jTB_mem wm_830 rfl, ⟨by decide +kernel, by decide +kernel, by decide +kernel⟩, by decide⟩
theorem ms_J2_48 : jMS RJ2 48 yJ2_length_9d52b cJ2_length_9d52b 1 (some .int) 1 := ⟨Or.inl (jTB_mem wm_842 rfl), jTB_mem wm_843 rfl, jTB_mem wm_158 rfl, jTB_mem wm_844 rfl, ⟨by decide +kernel, by decide +kernel, by decide +kernel⟩, by decide⟩
theorem ms_J2_67 : jMS RJ2 67 yJ2_checkIndex_2214a cJ2_checkIndex_2214a 2 (none) 2 := ⟨Or.inl (jTB_mem wm_839 rfl), jTB_mem wm_840 rfl, jTB_mem wm_158 rfl, jTB_mem wm_841 rfl, ⟨by decide +kernel, by decide +kernel, by decide +kernel⟩, by decide⟩
theorem ms_J2_71 : jMS RJ2 71 yJ2_getChar_3b067 cJ2_getChar_3b067 2 (some .char) 2 := ⟨Or.inl (jTB_mem wm_846 rfl), jTB_mem wm_847 rfl, jTB_mem wm_158 rfl, jTB_mem wm_848 rfl, ⟨by decide +kernel, by decide +kernel, by decide +kernel⟩, by decide⟩
theorem ms_J2_414 : jMS RJ2 414 yJ0_checkIndex_df160 cJ0_checkIndex_df160 2 (none) 2 := ⟨Or.inl (jTB_mem wm_845 rfl), jTB_mem wm_829 rfl, jTB_mem wm_155 rfl, jTB_mem wm_830 rfl, ⟨by decide +kernel, by decide +kernel, by decide +kernel⟩, by decide⟩
theorem cw_X9_298 : Cond.constant RX9 298 (Int32.ofInt 1103515245) ∈ jTB := jTB_mem wm_1359 rfl
theorem cw_X3_92 : Cond.constant RX3 92 (Int32.ofInt 10000000) ∈ jTB := jTB_mem wm_1487 rfl
theorem cw_X10_465 : Cond.constant RX10 465 (Int32.ofInt 1103515245) ∈ jTB := jTB_mem wm_2095 rfl
theorem cw_J6_265 : Cond.constant RJ6 265 (Int32.ofInt 1431655765) ∈ jTB := jTB_mem wm_667 rfl
theorem cw_J6_266 : Cond.constant RJ6 266 (Int32.ofInt 858993459) ∈ jTB := jTB_mem wm_668 rfl
theorem cw_J6_267 : Cond.constant RJ6 267 (Int32.ofInt 252645135) ∈ jTB := jTB_mem wm_669 rfl
theorem cl_X5_59 : Cond.constantLong RX5 59 (Int64.ofInt (-1000000)) ∈ jTB := jTB_mem wm_636 rfl
theorem cl_X5_61 : Cond.constantLong RX5 61 (Int64.ofInt (1000000)) ∈ jTB := jTB_mem wm_637 rfl
theorem cl_X10_365 : Cond.constantLong RX10 365 (Int64.ofInt (-1000000)) ∈ jTB := jTB_mem wm_1957 rfl
theorem cl_X10_367 : Cond.constantLong RX10 367 (Int64.ofInt (1000000)) ∈ jTB := jTB_mem wm_1958 rfl
theorem cl_X10_385 : Cond.constantLong RX10 385 (Int64.ofInt (9999)) ∈ jTB := jTB_mem wm_1961 rfl
theorem k_1 : jkd 1 = 9 := by decide +kernel
theorem l_1 : jln 1 = 9 := by decide +kernel
theorem k_2 : jkd 2 = 12 := by decide +kernel
theorem l_2 : jln 2 = 600 := by decide +kernel
theorem k_109 : jkd 109 = 4 := by decide +kernel
theorem l_109 : jln 109 = 9 := by decide +kernel
theorem k_110 : jkd 110 = 7 := by decide +kernel
theorem l_110 : jln 110 = 7 := by decide +kernel
theorem k_111 : jkd 111 = 15 := by decide +kernel
theorem l_111 : jln 111 = 6 := by decide +kernel
theorem k_112 : jkd 112 = 12 := by decide +kernel
theorem l_112 : jln 112 = 6 := by decide +kernel
theorem k_113 : jkd 113 = 12 := by decide +kernel
theorem l_113 : jln 113 = 54 := by decide +kernel
theorem k_114 : jkd 114 = 12 := by decide +kernel
theorem l_114 : jln 114 = 6 := by decide +kernel
theorem k_115 : jkd 115 = 12 := by decide +kernel
theorem l_115 : jln 115 = 6 := by decide +kernel
theorem k_116 : jkd 116 = 12 := by decide +kernel
theorem l_116 : jln 116 = 6 := by decide +kernel
theorem k_159 : jkd 159 = 0 := by decide +kernel
theorem l_159 : jln 159 = 6 := by decide +kernel
theorem k_160 : jkd 160 = 12 := by decide +kernel
theorem l_160 : jln 160 = 16 := by decide +kernel
theorem k_161 : jkd 161 = 12 := by decide +kernel
theorem l_161 : jln 161 = 16 := by decide +kernel
theorem k_162 : jkd 162 = 12 := by decide +kernel
theorem l_162 : jln 162 = 16 := by decide +kernel
theorem k_163 : jkd 163 = 12 := by decide +kernel
theorem l_163 : jln 163 = 16 := by decide +kernel
theorem k_164 : jkd 164 = 3 := by decide +kernel
theorem l_164 : jln 164 = 2 := by decide +kernel
theorem k_165 : jkd 165 = 12 := by decide +kernel
theorem l_165 : jln 165 = 420 := by decide +kernel
theorem k_166 : jkd 166 = 10 := by decide +kernel
theorem l_166 : jln 166 = 32 := by decide +kernel
theorem k_167 : jkd 167 = 11 := by decide +kernel
theorem l_167 : jln 167 = 600 := by decide +kernel
theorem k_168 : jkd 168 = 12 := by decide +kernel
theorem l_168 : jln 168 = 5 := by decide +kernel
theorem k_169 : jkd 169 = 12 := by decide +kernel
theorem l_169 : jln 169 = 1089 := by decide +kernel
theorem k_170 : jkd 170 = 12 := by decide +kernel
theorem l_170 : jln 170 = 971 := by decide +kernel
theorem k_171 : jkd 171 = 12 := by decide +kernel
theorem l_171 : jln 171 = 1089 := by decide +kernel
theorem k_172 : jkd 172 = 12 := by decide +kernel
theorem l_172 : jln 172 = 971 := by decide +kernel
theorem k_173 : jkd 173 = 12 := by decide +kernel
theorem l_173 : jln 173 = 9 := by decide +kernel
theorem k_174 : jkd 174 = 13 := by decide +kernel
theorem l_174 : jln 174 = 600 := by decide +kernel
theorem k_175 : jkd 175 = 12 := by decide +kernel
theorem l_175 : jln 175 = 6 := by decide +kernel
theorem k_176 : jkd 176 = 12 := by decide +kernel
theorem l_176 : jln 176 = 6 := by decide +kernel
theorem k_177 : jkd 177 = 12 := by decide +kernel
theorem l_177 : jln 177 = 54 := by decide +kernel
theorem k_178 : jkd 178 = 12 := by decide +kernel
theorem l_178 : jln 178 = 15536 := by decide +kernel
theorem k_179 : jkd 179 = 11 := by decide +kernel
theorem l_179 : jln 179 = 1200 := by decide +kernel
theorem k_180 : jkd 180 = 13 := by decide +kernel
theorem l_180 : jln 180 = 1 := by decide +kernel
theorem ko1_1 {a : Int} (h : jkd a = 1) : jkd (a + 1) = 12 := by
  have := jall (P := fun i => jkd i != 1 || jkd (i + 1) == 12) (by decide +kernel) (a := a) (by rw [h]; decide)
  simpa [h] using this
theorem lo1_1 {a : Int} (h : jkd a = 1) : jln (a + 1) = 7 := (jko (k := 1) (k2 := 12) (by decide +kernel) h).2
theorem ko1_2 {a : Int} (h : jkd a = 1) : jkd (a + 2) = 2 := by
  have := jall (P := fun i => jkd i != 1 || jkd (i + 2) == 2) (by decide +kernel) (a := a) (by rw [h]; decide)
  simpa [h] using this
theorem lo1_2 {a : Int} (h : jkd a = 1) : jln (a + 2) = 4 := (jko (k := 1) (k2 := 2) (by decide +kernel) h).2
theorem ko1_3 {a : Int} (h : jkd a = 1) : jkd (a + 5) = 12 := by
  have := jall (P := fun i => jkd i != 1 || jkd (i + 5) == 12) (by decide +kernel) (a := a) (by rw [h]; decide)
  simpa [h] using this
theorem lo1_3 {a : Int} (h : jkd a = 1) : jln (a + 5) = 10 := (jko (k := 1) (k2 := 12) (by decide +kernel) h).2
theorem ko1_4 {a : Int} (h : jkd a = 1) : jkd (a + 6) = 12 := by
  have := jall (P := fun i => jkd i != 1 || jkd (i + 6) == 12) (by decide +kernel) (a := a) (by rw [h]; decide)
  simpa [h] using this
theorem lo1_4 {a : Int} (h : jkd a = 1) : jln (a + 6) = 10 := (jko (k := 1) (k2 := 12) (by decide +kernel) h).2
theorem ko1_5 {a : Int} (h : jkd a = 1) : jkd (a + 7) = 5 := by
  have := jall (P := fun i => jkd i != 1 || jkd (i + 7) == 5) (by decide +kernel) (a := a) (by rw [h]; decide)
  simpa [h] using this
theorem lo1_5 {a : Int} (h : jkd a = 1) : jln (a + 7) = 7 := (jko (k := 1) (k2 := 5) (by decide +kernel) h).2
theorem ko1_6 {a : Int} (h : jkd a = 1) : jkd (a + 13) = 2 := by
  have := jall (P := fun i => jkd i != 1 || jkd (i + 13) == 2) (by decide +kernel) (a := a) (by rw [h]; decide)
  simpa [h] using this
theorem lo1_6 {a : Int} (h : jkd a = 1) : jln (a + 13) = 4 := (jko (k := 1) (k2 := 2) (by decide +kernel) h).2
theorem ko1_7 {a : Int} (h : jkd a = 1) : jkd (a + 16) = 14 := by
  have := jall (P := fun i => jkd i != 1 || jkd (i + 16) == 14) (by decide +kernel) (a := a) (by rw [h]; decide)
  simpa [h] using this
theorem lo1_7 {a : Int} (h : jkd a = 1) : jln (a + 16) = 6 := (jko (k := 1) (k2 := 14) (by decide +kernel) h).2
theorem ko2_1 {a : Int} (h : jkd a = 2) : jkd (a + 1) = 12 := by
  have := jall (P := fun i => jkd i != 2 || jkd (i + 1) == 12) (by decide +kernel) (a := a) (by rw [h]; decide)
  simpa [h] using this
theorem ko2_2 {a : Int} (h : jkd a = 2) : jkd (a + 2) = 12 := by
  have := jall (P := fun i => jkd i != 2 || jkd (i + 2) == 12) (by decide +kernel) (a := a) (by rw [h]; decide)
  simpa [h] using this
theorem ko5_2 {a : Int} (h : jkd a = 5) : jkd (a + 1) = 12 := by
  have := jall (P := fun i => jkd i != 5 || jkd (i + 1) == 12) (by decide +kernel) (a := a) (by rw [h]; decide)
  simpa [h] using this
theorem lo5_2 {a : Int} (h : jkd a = 5) : jln (a + 1) = 600 := (jko (k := 5) (k2 := 12) (by decide +kernel) h).2
theorem ko5_3 {a : Int} (h : jkd a = 5) : jkd (a + 2) = 12 := by
  have := jall (P := fun i => jkd i != 5 || jkd (i + 2) == 12) (by decide +kernel) (a := a) (by rw [h]; decide)
  simpa [h] using this
theorem lo5_3 {a : Int} (h : jkd a = 5) : jln (a + 2) = 6 := (jko (k := 5) (k2 := 12) (by decide +kernel) h).2
theorem ko5_4 {a : Int} (h : jkd a = 5) : jkd (a + 3) = 12 := by
  have := jall (P := fun i => jkd i != 5 || jkd (i + 3) == 12) (by decide +kernel) (a := a) (by rw [h]; decide)
  simpa [h] using this
theorem lo5_4 {a : Int} (h : jkd a = 5) : jln (a + 3) = 6 := (jko (k := 5) (k2 := 12) (by decide +kernel) h).2
theorem ko5_5 {a : Int} (h : jkd a = 5) : jkd (a + 4) = 12 := by
  have := jall (P := fun i => jkd i != 5 || jkd (i + 4) == 12) (by decide +kernel) (a := a) (by rw [h]; decide)
  simpa [h] using this
theorem lo5_5 {a : Int} (h : jkd a = 5) : jln (a + 4) = 6 := (jko (k := 5) (k2 := 12) (by decide +kernel) h).2
theorem ko5_6 {a : Int} (h : jkd a = 5) : jkd (a + 5) = 12 := by
  have := jall (P := fun i => jkd i != 5 || jkd (i + 5) == 12) (by decide +kernel) (a := a) (by rw [h]; decide)
  simpa [h] using this
theorem lo5_6 {a : Int} (h : jkd a = 5) : jln (a + 5) = 16 := (jko (k := 5) (k2 := 12) (by decide +kernel) h).2
theorem ko6_3 {a : Int} (h : jkd a = 6) : jkd (a + 1) = 12 := by
  have := jall (P := fun i => jkd i != 6 || jkd (i + 1) == 12) (by decide +kernel) (a := a) (by rw [h]; decide)
  simpa [h] using this
theorem lo6_3 {a : Int} (h : jkd a = 6) : jln (a + 1) = 12 := (jko (k := 6) (k2 := 12) (by decide +kernel) h).2
theorem ko6_4 {a : Int} (h : jkd a = 6) : jkd (a + 2) = 12 := by
  have := jall (P := fun i => jkd i != 6 || jkd (i + 2) == 12) (by decide +kernel) (a := a) (by rw [h]; decide)
  simpa [h] using this
theorem lo6_4 {a : Int} (h : jkd a = 6) : jln (a + 2) = 12 := (jko (k := 6) (k2 := 12) (by decide +kernel) h).2
theorem ko6_5 {a : Int} (h : jkd a = 6) : jkd (a + 3) = 12 := by
  have := jall (P := fun i => jkd i != 6 || jkd (i + 3) == 12) (by decide +kernel) (a := a) (by rw [h]; decide)
  simpa [h] using this
theorem lo6_5 {a : Int} (h : jkd a = 6) : jln (a + 3) = 36 := (jko (k := 6) (k2 := 12) (by decide +kernel) h).2
theorem ko6_6 {a : Int} (h : jkd a = 6) : jkd (a + 4) = 12 := by
  have := jall (P := fun i => jkd i != 6 || jkd (i + 4) == 12) (by decide +kernel) (a := a) (by rw [h]; decide)
  simpa [h] using this
theorem lo6_6 {a : Int} (h : jkd a = 6) : jln (a + 4) = 12 := (jko (k := 6) (k2 := 12) (by decide +kernel) h).2
theorem ko6_7 {a : Int} (h : jkd a = 6) : jkd (a + 5) = 12 := by
  have := jall (P := fun i => jkd i != 6 || jkd (i + 5) == 12) (by decide +kernel) (a := a) (by rw [h]; decide)
  simpa [h] using this
theorem lo6_7 {a : Int} (h : jkd a = 6) : jln (a + 5) = 135 := (jko (k := 6) (k2 := 12) (by decide +kernel) h).2
theorem ko8_9 {a : Int} (h : jkd a = 8) : jkd (a + 1) = 12 := by
  have := jall (P := fun i => jkd i != 8 || jkd (i + 1) == 12) (by decide +kernel) (a := a) (by rw [h]; decide)
  simpa [h] using this
theorem lo8_9 {a : Int} (h : jkd a = 8) : jln (a + 1) = 12 := (jko (k := 8) (k2 := 12) (by decide +kernel) h).2
theorem ko8_10 {a : Int} (h : jkd a = 8) : jkd (a + 2) = 12 := by
  have := jall (P := fun i => jkd i != 8 || jkd (i + 2) == 12) (by decide +kernel) (a := a) (by rw [h]; decide)
  simpa [h] using this
theorem lo8_10 {a : Int} (h : jkd a = 8) : jln (a + 2) = 12 := (jko (k := 8) (k2 := 12) (by decide +kernel) h).2
theorem ko8_11 {a : Int} (h : jkd a = 8) : jkd (a + 3) = 12 := by
  have := jall (P := fun i => jkd i != 8 || jkd (i + 3) == 12) (by decide +kernel) (a := a) (by rw [h]; decide)
  simpa [h] using this
theorem lo8_11 {a : Int} (h : jkd a = 8) : jln (a + 3) = 12 := (jko (k := 8) (k2 := 12) (by decide +kernel) h).2
theorem ko8_12 {a : Int} (h : jkd a = 8) : jkd (a + 4) = 12 := by
  have := jall (P := fun i => jkd i != 8 || jkd (i + 4) == 12) (by decide +kernel) (a := a) (by rw [h]; decide)
  simpa [h] using this
theorem lo8_12 {a : Int} (h : jkd a = 8) : jln (a + 4) = 10 := (jko (k := 8) (k2 := 12) (by decide +kernel) h).2
theorem ko8_13 {a : Int} (h : jkd a = 8) : jkd (a + 5) = 12 := by
  have := jall (P := fun i => jkd i != 8 || jkd (i + 5) == 12) (by decide +kernel) (a := a) (by rw [h]; decide)
  simpa [h] using this
theorem lo8_13 {a : Int} (h : jkd a = 8) : jln (a + 5) = 10 := (jko (k := 8) (k2 := 12) (by decide +kernel) h).2
theorem ko8_14 {a : Int} (h : jkd a = 8) : jkd (a + 6) = 12 := by
  have := jall (P := fun i => jkd i != 8 || jkd (i + 6) == 12) (by decide +kernel) (a := a) (by rw [h]; decide)
  simpa [h] using this
theorem lo8_14 {a : Int} (h : jkd a = 8) : jln (a + 6) = 135 := (jko (k := 8) (k2 := 12) (by decide +kernel) h).2
