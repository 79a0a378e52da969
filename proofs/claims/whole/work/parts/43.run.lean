/-! ===== the law, from its first instruction to its last ===== -/
set_option maxHeartbeats 4000000 in
theorem law_run {C : jC} {X : jX} {mc ms : Nat} (hC : jOc C X RL cL_law 7 0 60 mc ms) (hmc : 180 + 4 * 513 ≤ mc) (hms : 28790 + 24 * 513 ≤ ms) (hSc : jSc C X) (hNs : jNs C) (hL : (jXs X).2.1 ≤ 3072) {Inv : jM → Prop}
    (hInv : ∀ (M : jM) (a0 a1 a2 a3 a4 a5 : Int), Inv M → jin a0 → jin a1 → jin a2 → jin a3 → jin a4 → jin a5 → ∃ M', s_all (jw (jnd a0 63)) a1 a2 a3 a4 a5 M = some M' ∧ Inv M')
    {M1 M2 : jM} (hF : jFin 179 (c_X10 (c_X9_init_1 (fun _ _ => 0)))) (h1 : f_X10_usual (c_X10 (c_X9_init_1 (fun _ _ => 0))) = some M1) (h2 : f_X10_taken M1 = some M2) (hI0 : Inv (jz M2))
    (hend : ∀ (k : Nat) (M : jM) (ls : List jV), k ≤ 512 → jG C X 180 7 (180 + 4 * k) (28790 + 24 * k) 2762 ls [] M) : jK C X 0 7 0 0 0 [(4, 0), jN, jN, jN, jN, jN, jN] [] (fun _ _ => 0) := by
  refine k_new (pc := 0) hC (ci := 9) (N := 9) (ty := tyX9) rfl inX9 tyX9_ok nw_L_8.1 nw_L_8.2.1 nw_L_8.2.2 dv_9 (a := 1) (by decide) kk_1 (by decide) ll_1 (by omega) (by omega) dL_law_0 (kc2 := 1) (ks2 := 9) rfl rfl ?_
  refine k_dup (pc := 3) hC dL_law_3 (show (2 : Nat) ≠ 3 by decide) ?_
  refine k_ctor (pc := 4) hC mi_L_123 ok_X9_init_1 (by decide) rfl (Nat.le_of_ble_eq_true rfl) (by omega) (by omega) (Nat.le_of_ble_eq_true rfl) dL_law_4 rfl (kc2 := 165) (ks2 := 6621) rfl rfl ?_
  refine k_astoreA_n (pc := 7) (ls2 := [(4, 0), jA 1, jN, jN, jN, jN, jN]) hC dL_law_7 rfl (by decide) rfl kk_1 (by decide) rfl ?_
  refine k_new (pc := 8) hC (ci := 10) (N := 32) (ty := tyX10) rfl inX10 tyX10_ok nw_L_124.1 nw_L_124.2.1 nw_L_124.2.2 dv_10 (a := 166) (by decide) kk_166 (by decide) ll_166 (by omega) (by omega) dL_law_8 (kc2 := 166) (ks2 := 6653) rfl rfl ?_
  refine k_dup (pc := 11) hC dL_law_11 (show (2 : Nat) ≠ 3 by decide) ?_
  refine k_ctorD (pc := 12) hC mi_L_126 (ok_X10_init hF h1 h2) (by decide) rfl (Nat.le_of_ble_eq_true rfl) (by omega) (by omega) (Nat.le_of_ble_eq_true rfl) dL_law_12 rfl (kc2 := 179) (ks2 := 28789) rfl rfl (n := 179) rfl ?_
  refine x_astoreA_n (pc := 15) (ls2 := [(4, 0), jA 1, jA 166, jN, jN, jN, jN]) (hC.ok (n := 179) (Nat.le_refl _)) dL_law_15 rfl (by decide) rfl kk_166 (by decide) rfl ?_
  refine x_iconst (pc := 16) (hC.ok (n := 179) (Nat.le_refl _)) dL_law_16 ?_
  refine x_newL (pc := 17) hC aw_long (by omega) (by omega) dL_law_17 ?_
  have hC3 := hC.ok (n := 180) (by decide)
  refine x_astoreA_n (pc := 19) (ls2 := [(4, 0), jA 1, jA 166, jA 180, jN, jN, jN]) hC3 dL_law_19 rfl (by decide) rfl kk_180 (by decide) rfl ?_
  refine x_iconst (pc := 20) hC3 dL_law_20 ?_
  refine x_istore (ls2 := [(4, 0), jA 1, jA 166, jA 180, jI 0, jN, jN]) (pc := 21) hC3 dL_law_21 (by decide) rfl rfl rfl ?_
  have hl := law_loop hC3 hSc hNs hL hInv (ks0 := 28790) (fun k hk => hC.ro (by omega) (by omega)) hend 513 0 (jz M2) (by decide) (by decide) hI0
  exact hl
