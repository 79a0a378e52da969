/-! ===== the words of the four throws ===== -/
theorem j_exw {L : List Cond} (h : L.all (fun w => decide (w ∈ lw_tbl) && (goodWord w || (jnest w && w.onTables))) = true) : ∀ w ∈ L, w ∈ jTB ∨ (w ∈ jNB ∧ w.onTables = true) := by
  intro w hw
  have h1 := List.all_eq_true.mp h w hw
  simp only [Bool.and_eq_true, Bool.or_eq_true, decide_eq_true_eq] at h1
  rcases h1.2 with g | g
  · exact Or.inl (jTB_mem h1.1 g)
  · exact Or.inr ⟨List.mem_filter.mpr ⟨h1.1, g.1⟩, g.2⟩
theorem ex_1 : jEX RX9 70 74 1 := ⟨by decide, by decide +kernel, jTB_mem (by decide +kernel) rfl, jTB_mem (by decide +kernel) rfl, j_exw (by decide +kernel), by decide +kernel⟩
theorem ex_2 : jEX RX9 354 358 2 := ⟨by decide, by decide +kernel, jTB_mem (by decide +kernel) rfl, jTB_mem (by decide +kernel) rfl, j_exw (by decide +kernel), by decide +kernel⟩
theorem ex_4 : jEX RX9 321 325 4 := ⟨by decide, by decide +kernel, jTB_mem (by decide +kernel) rfl, jTB_mem (by decide +kernel) rfl, j_exw (by decide +kernel), by decide +kernel⟩
