/-! ===== the law's loop ===== -/
theorem jsx_in (X : jX) (i : Int) : jin (jsx X i) := by
  unfold jsx jin
  have h1 := Int32.le_toInt ((jXs X).2.2 i.toNat)
  have h2 := Int32.toInt_lt ((jXs X).2.2 i.toNat)
  exact ⟨by simpa using h1, by simpa using h2⟩
set_option maxHeartbeats 4000000 in
theorem law_loop {C : jC} {X : jX} (hC : jOk C X RL cL_law 7 180 60) (hSc : jSc C X) (hNs : jNs C) (hL : (jXs X).2.1 ≤ 3072) {Inv : jM → Prop}
    (hInv : ∀ (M : jM) (a0 a1 a2 a3 a4 a5 : Int), Inv M → jin a0 → jin a1 → jin a2 → jin a3 → jin a4 → jin a5 → ∃ M', s_all (jw (jnd a0 63)) a1 a2 a3 a4 a5 M = some M' ∧ Inv M')
    {ks0 : Nat} (hro : ∀ k : Nat, k ≤ 513 → jRo C (180 + 4 * k) (ks0 + 24 * k)) (hend : ∀ (k : Nat) (M : jM) (ls : List jV), k ≤ 512 → jG C X 180 7 (180 + 4 * k) (ks0 + 24 * k) 2762 ls [] M) :
    ∀ (f k : Nat) (M : jM), k ≤ 512 → 513 - k ≤ f → Inv M → jG C X 180 7 (180 + 4 * k) (ks0 + 24 * k) 23 [(4, 0), jA 1, jA 166, jA 180, jI (6 * (k : Int)), jN, jN] [] M := by
  intro f
  induction f with
  | zero => intro k M h1 h2; omega
  | succ f ih =>
    intro k M hk hf hI
    refine x_iload (pc := 23) hC dL_law_23 rfl ?_
    refine x_aload_n (pc := 25) hC dL_law_25 rfl rfl (show (4 : Nat) ≠ 0 by decide) rfl ?_
    refine x_scln (pc := 26) hC hSc dL_law_26 ?_
    refine x_bipush (pc := 27) hC dL_law_27 rfl ?_
    refine x_isub (pc := 29) hC dL_law_29 ?_
    refine x_icmp_gt (tgt := 2762) (pc := 30) hC dL_law_30 (by decide) (fun hc => hend k M _ hk) (fun hc => ?_)
    rw [jw_of (by omega) (by omega), jw_of (by omega) (by omega)] at hc
    have hb : ∀ j : Int, 0 ≤ j → j ≤ 5 → 0 ≤ jw (6 * (k : Int) + j) ∧ jw (6 * (k : Int) + j) < ((jXs X).2.1 : Nat) := fun j h0 h5 => by
      rw [jw_of (by omega) (by omega)]
      omega
    have hb0 : 0 ≤ jw (6 * (k : Int)) ∧ jw (6 * (k : Int)) < ((jXs X).2.1 : Nat) := by
      rw [jw_of (by omega) (by omega)]
      omega
    obtain ⟨M', h1, h2⟩ := hInv M (jsx X (jw (6 * (k : Int)))) (jsx X (jw (6 * (k : Int) + 1))) (jsx X (jw (6 * (k : Int) + 2))) (jsx X (jw (6 * (k : Int) + 3))) (jsx X (jw (6 * (k : Int) + 4))) (jsx X (jw (6 * (k : Int) + 5))) hI (jsx_in X _) (jsx_in X _) (jsx_in X _) (jsx_in X _) (jsx_in X _) (jsx_in X _)
    refine st_all hC hSc hNs (by have := hro (k + 1) (by omega); exact this) hb0 rfl (hb 1 (by decide) (by decide)) rfl (hb 2 (by decide) (by decide)) rfl (hb 3 (by decide) (by decide)) rfl (hb 4 (by decide) (by decide)) rfl (hb 5 (by decide) (by decide)) rfl h1 ?_
    refine x_iinc (y := 6 * ((k + 1 : Nat) : Int)) (ls2 := [(4, 0), jA 1, jA 166, jA 180, jI (6 * ((k + 1 : Nat) : Int)), jN, jN]) (pc := 2756) hC dL_law_2756 rfl (by decide) rfl (by omega) rfl ?_
    refine x_goto (tgt := 23) (pc := 2759) hC dL_law_2759 (by decide) ?_
    have := ih (k + 1) M' (by omega) (by omega) h2
    exact this
