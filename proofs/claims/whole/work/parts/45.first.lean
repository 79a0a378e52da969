/-! ===== the first memory keeps the invariant ===== -/
def m0 : jM := c_X10 (c_X9_init_1 (fun _ _ => 0))
set_option maxRecDepth 100000 in
theorem m0_F1 : ∀ a : Nat, a < 181 → jkd (a : Int) < 11 → a ≤ 179 → ∀ p ∈ jfo (jkd (a : Int)), m0 (a : Int) (p.1 : Int) = (a : Int) + p.2 := by decide +kernel
set_option maxRecDepth 100000 in
theorem m0_F2 : ∀ a : Nat, a < 181 → jkd (a : Int) = 14 → a ≤ 179 → ∀ i : Nat, i < 6 → m0 (a : Int) (i : Int) = (a : Int) + 1 + 6 * (i : Int) := by decide +kernel
set_option maxRecDepth 100000 in
theorem m0_F3 : ∀ a : Nat, a < 181 → jkd (a : Int) = 15 → a ≤ 179 → ∀ i : Nat, i < 6 → m0 (a : Int) (i : Int) = (a : Int) + 6 + 7 * (i : Int) := by decide +kernel
theorem m0_Fin : jFin 179 m0 := by
  refine ⟨fun a j off h1 h2 h3 => ?_, fun a i h1 h2 h3 h4 => ?_, fun a i h1 h2 h3 h4 => ?_⟩
  · have hb := jkd_in (a := a) (by omega)
    obtain ⟨n, rfl⟩ := Int.eq_ofNat_of_zero_le (show 0 ≤ a by omega)
    exact m0_F1 n (by omega) h1 (by omega) (j, off) h3
  · have hb := jkd_in (a := a) (by omega)
    obtain ⟨n, rfl⟩ := Int.eq_ofNat_of_zero_le (show 0 ≤ a by omega)
    obtain ⟨k, rfl⟩ := Int.eq_ofNat_of_zero_le h3
    exact m0_F2 n (by omega) h1 (by omega) k (by omega)
  · have hb := jkd_in (a := a) (by omega)
    obtain ⟨n, rfl⟩ := Int.eq_ofNat_of_zero_le (show 0 ≤ a by omega)
    obtain ⟨k, rfl⟩ := Int.eq_ofNat_of_zero_le h3
    exact m0_F3 n (by omega) h1 (by omega) k (by omega)
set_option maxRecDepth 100000 in
theorem m0_v : m0 1 1 = 0 ∧ m0 1 2 = -1 ∧ m0 1 3 = 3 ∧ m0 1 4 = 56 ∧ m0 166 2 = 0 ∧ m0 166 8 = -1 ∧ (m0 5 0 = 10 ∧ m0 16 0 = 6 ∧ m0 58 0 = 10 ∧ m0 69 0 = 6) ∧ m0 166 31 = 0 ∧ m0 164 1 = 0 ∧ m0 159 0 = 0 ∧ m0 159 1 = 0 ∧ m0 166 29 = 0 := by decide +kernel
set_option maxRecDepth 100000 in
theorem m0_P : m0 166 15 = 0 ∧ m0 166 16 = 0 ∧ m0 166 17 = 0 ∧ m0 166 18 = 0 ∧ m0 166 19 = 0 ∧ m0 166 20 = 0 ∧ m0 166 21 = 0 ∧ m0 166 22 = 0 := by decide +kernel
set_option maxRecDepth 100000 in
theorem m0_e : m0 3 0 = 5 ∧ m0 (3 + 2) 3 = 0 ∧ m0 (3 + 13) 3 = 0 ∧ m0 (3 + 7) 0 = 0 ∧ m0 (3 + 7) 1 = 0 ∧ ∀ i : Nat, i < 7 → m0 (3 + 1) (i : Int) = jstt 2 (i : Int) := by decide +kernel
set_option maxRecDepth 100000 in
theorem m0_s : ∀ s : Nat, s < 6 → m0 (3 + 16 + 1 + 6 * (s : Int)) 0 = 0 ∧ m0 (3 + 16 + 1 + 6 * (s : Int)) 1 = 0 ∧ m0 (3 + 16 + 1 + 6 * (s : Int)) 2 = 0 ∧ ∀ j : Nat, j < 135 → m0 (3 + 16 + 1 + 6 * (s : Int) + 5) (j : Int) = 0 := by decide +kernel
theorem m0_ev : ev0 3 m0 m0 := by
  obtain ⟨a1, a2, a3, a4, a5, a6⟩ := m0_e
  refine ⟨fun _ _ => rfl, rfl, rfl, a1, fun i q0 q1 => ?_, a2, a3, a4, a5⟩
  obtain ⟨k, rfl⟩ := Int.eq_ofNat_of_zero_le q0
  exact a6 k (by omega)
theorem m0_sk : ∀ s, 0 ≤ s → s < 6 → sk0 (3 + 16 + 1 + 6 * s) m0 := by
  intro s q0 q1
  obtain ⟨k, rfl⟩ := Int.eq_ofNat_of_zero_le q0
  obtain ⟨a1, a2, a3, a4⟩ := m0_s k (by omega)
  refine ⟨a1, a2, a3, fun j j0 j1 => ?_⟩
  obtain ⟨i, rfl⟩ := Int.eq_ofNat_of_zero_le j0
  exact a4 i (by omega)
theorem first_ok : ∃ M1 M2, f_X10_usual m0 = some M1 ∧ f_X10_taken M1 = some M2 ∧ Inv (jz M2) := by
  obtain ⟨M1, h1, u1, u2, u3⟩ := e_usual m0
  obtain ⟨M2, h2, k1, k2, k3⟩ := e_taken M1
  refine ⟨M1, M2, h1, h2, ?_⟩
  have zf : ∀ a, a ≠ 180 → jz M2 a = M2 a := fun a h => by
    funext j
    exact if_neg h
  have ya : ∀ a, a ≠ 180 → a ≠ 169 → a ≠ 170 → a ≠ 171 → a ≠ 172 → jz M2 a = m0 a := fun a q0 q1 q2 q3 q4 => by rw [zf a q0, k1 a q1 q2, u1 a q3 q4]
  have y9 : ∀ j, 0 ≤ j → j < 1089 → jz M2 169 j = M1 171 j := fun j q0 q1 => by rw [zf 169 (by decide)]; exact k2 j q0 q1
  have y0 : ∀ j, 0 ≤ j → j < 971 → jz M2 170 j = M1 172 j := fun j q0 q1 => by rw [zf 170 (by decide)]; exact k3 j q0 q1
  generalize jz M2 = Y at ya y9 y0 ⊢
  have x1 : Y 1 = m0 1 := ya 1 (by decide) (by decide) (by decide) (by decide) (by decide)
  have x6 : Y 166 = m0 166 := ya 166 (by decide) (by decide) (by decide) (by decide) (by decide)
  obtain ⟨v1, v2, v3, v4, v5, v6, v7, v8, v9, v10, v11, v12⟩ := m0_v
  have hE := evT_0 (p := 0) (by decide) m0_ev m0_sk u2 u3
  refine ⟨?_, ?_, ?_, ?_, ?_, ?_, ?_⟩
  · unfold iT
    rw [x1, x6, v1, v5]
    exact ⟨by decide, by decide, rfl, fun i q0 q1 => by omega⟩
  · unfold iF
    rw [x1, x6, v2, v6]
    decide
  · unfold iE
    rw [x1, v3, v4]
    refine ⟨cE_t (T := M1 171) (N := M1 172) ⟨Or.inl rfl, hE.1, hE.2.1, hE.2.2.1, rE_fr hE.1.2.1.2 (evT_E hE) (fun a b0 b1 b2 => ?_)⟩ y9 y0, Or.inl ⟨rfl, rfl⟩⟩
    exact ya a (by omega) (by omega) (by omega) (by omega) (by omega)
  · unfold iM
    rw [ya 5 (by decide) (by decide) (by decide) (by decide) (by decide), ya 16 (by decide) (by decide) (by decide) (by decide) (by decide), ya 58 (by decide) (by decide) (by decide) (by decide) (by decide), ya 69 (by decide) (by decide) (by decide) (by decide) (by decide)]
    exact v7
  · unfold iW
    rw [ya 164 (by decide) (by decide) (by decide) (by decide) (by decide), x6, v8, v9]
    exact ⟨rfl, by decide, by decide, fun i q0 q1 => by omega⟩
  · unfold iA
    rw [ya 159 (by decide) (by decide) (by decide) (by decide) (by decide), x6, v10, v11, v12]
    exact ⟨by decide, by decide, rfl, by decide, by decide, fun i q0 q1 => by omega⟩
  · obtain ⟨p1, p2, p3, p4, p5, p6, p7, p8⟩ := m0_P
    unfold bP
    rw [x6, p1, p2, p3, p4, p5, p6, p7, p8]
    decide
