/-! ===== a step of the law; by program ===== -/
set_option maxHeartbeats 4000000 in
set_option maxRecDepth 20000 in
theorem st_all {C : jC} {X : jX} (hC : jOk C X RL cL_law 7 180 60) (hSc : jSc C X) (hNs : jNs C) {kc ks : Nat} (hro : jRo C (kc + 4) (ks + 24)) {i a0 a1 a2 a3 a4 a5 : Int} (hi0 : 0 ≤ jw i ∧ jw i < ((jXs X).2.1 : Nat)) (ha0 : jsx X (jw i) = a0) (hi1 : 0 ≤ jw (i + 1) ∧ jw (i + 1) < ((jXs X).2.1 : Nat)) (ha1 : jsx X (jw (i + 1)) = a1) (hi2 : 0 ≤ jw (i + 2) ∧ jw (i + 2) < ((jXs X).2.1 : Nat)) (ha2 : jsx X (jw (i + 2)) = a2) (hi3 : 0 ≤ jw (i + 3) ∧ jw (i + 3) < ((jXs X).2.1 : Nat)) (ha3 : jsx X (jw (i + 3)) = a3) (hi4 : 0 ≤ jw (i + 4) ∧ jw (i + 4) < ((jXs X).2.1 : Nat)) (ha4 : jsx X (jw (i + 4)) = a4) (hi5 : 0 ≤ jw (i + 5) ∧ jw (i + 5) < ((jXs X).2.1 : Nat)) (ha5 : jsx X (jw (i + 5)) = a5) {M Mz : jM} (h : s_all (jw (jnd a0 63)) a1 a2 a3 a4 a5 M = some Mz) (kk : jG C X 180 7 (kc + 4) (ks + 24) 2756 [(4, 0), jA 1, jA 166, jA 180, jI i, jN, jN] [] Mz) : jG C X 180 7 kc ks 33 [(4, 0), jA 1, jA 166, jA 180, jI i, jN, jN] [] M := by
  unfold s_all at h
  refine x_aload_n (pc := 33) hC dL_law_33 rfl rfl (show (4 : Nat) ≠ 0 by decide) rfl ?_
  refine x_iload (pc := 34) hC dL_law_34 rfl ?_
  refine x_sa (pc := 36) hC hSc hi0 ha0 dL_law_36 ?_
  refine x_bipush (pc := 37) hC dL_law_37 rfl ?_
  refine x_iand (pc := 39) hC dL_law_39 ?_
  rcases jit_or h with ⟨hc, h⟩ | ⟨hc, h⟩
  · refine x_tableOut (tgt := 2756) (pc := 40) hC dL_law_40 hc (by decide) ?_
    cases h
    exact x_widen (by omega) (by omega) kk
  rcases jit_or h with ⟨hq, h⟩ | ⟨hr0, h⟩
  · refine x_tableIn (tgt := 224) (off := 184) (pc := 40) hC dL_law_40 (by omega) (by omega) (by rw [hq]; rfl) (by decide) ?_
    exact st_0 hC hSc hNs hro hi1 ha1 hi2 ha2 hi3 ha3 hi4 ha4 hi5 ha5 h kk
  rcases jit_or h with ⟨hq, h⟩ | ⟨hr1, h⟩
  · refine x_tableIn (tgt := 297) (off := 257) (pc := 40) hC dL_law_40 (by omega) (by omega) (by rw [hq]; rfl) (by decide) ?_
    exact st_1 hC hSc hNs hro hi1 ha1 h kk
  rcases jit_or h with ⟨hq, h⟩ | ⟨hr2, h⟩
  · refine x_tableIn (tgt := 322) (off := 282) (pc := 40) hC dL_law_40 (by omega) (by omega) (by rw [hq]; rfl) (by decide) ?_
    exact st_2 hC hSc hNs hro h kk
  rcases jit_or h with ⟨hq, h⟩ | ⟨hr3, h⟩
  · refine x_tableIn (tgt := 366) (off := 326) (pc := 40) hC dL_law_40 (by omega) (by omega) (by rw [hq]; rfl) (by decide) ?_
    exact st_3 hC hSc hNs hro h kk
  rcases jit_or h with ⟨hq, h⟩ | ⟨hr4, h⟩
  · refine x_tableIn (tgt := 379) (off := 339) (pc := 40) hC dL_law_40 (by omega) (by omega) (by rw [hq]; rfl) (by decide) ?_
    exact st_4 hC hSc hNs hro hi1 ha1 hi2 ha2 hi3 ha3 h kk
  rcases jit_or h with ⟨hq, h⟩ | ⟨hr5, h⟩
  · refine x_tableIn (tgt := 475) (off := 435) (pc := 40) hC dL_law_40 (by omega) (by omega) (by rw [hq]; rfl) (by decide) ?_
    exact st_5 hC hSc hNs hro hi1 ha1 hi2 ha2 h kk
  rcases jit_or h with ⟨hq, h⟩ | ⟨hr6, h⟩
  · refine x_tableIn (tgt := 543) (off := 503) (pc := 40) hC dL_law_40 (by omega) (by omega) (by rw [hq]; rfl) (by decide) ?_
    exact st_6 hC hSc hNs hro hi1 ha1 hi2 ha2 hi3 ha3 h kk
  rcases jit_or h with ⟨hq, h⟩ | ⟨hr7, h⟩
  · refine x_tableIn (tgt := 623) (off := 583) (pc := 40) hC dL_law_40 (by omega) (by omega) (by rw [hq]; rfl) (by decide) ?_
    exact st_7 hC hSc hNs hro hi1 ha1 hi2 ha2 hi3 ha3 h kk
  rcases jit_or h with ⟨hq, h⟩ | ⟨hr8, h⟩
  · refine x_tableIn (tgt := 703) (off := 663) (pc := 40) hC dL_law_40 (by omega) (by omega) (by rw [hq]; rfl) (by decide) ?_
    exact st_8 hC hSc hNs hro hi1 ha1 hi2 ha2 h kk
  rcases jit_or h with ⟨hq, h⟩ | ⟨hr9, h⟩
  · refine x_tableIn (tgt := 771) (off := 731) (pc := 40) hC dL_law_40 (by omega) (by omega) (by rw [hq]; rfl) (by decide) ?_
    exact st_9 hC hSc hNs hro hi1 ha1 hi2 ha2 hi3 ha3 h kk
  rcases jit_or h with ⟨hq, h⟩ | ⟨hr10, h⟩
  · refine x_tableIn (tgt := 851) (off := 811) (pc := 40) hC dL_law_40 (by omega) (by omega) (by rw [hq]; rfl) (by decide) ?_
    exact st_10 hC hSc hNs hro hi1 ha1 hi2 ha2 h kk
  rcases jit_or h with ⟨hq, h⟩ | ⟨hr11, h⟩
  · refine x_tableIn (tgt := 919) (off := 879) (pc := 40) hC dL_law_40 (by omega) (by omega) (by rw [hq]; rfl) (by decide) ?_
    exact st_11 hC hSc hNs hro hi1 ha1 hi2 ha2 h kk
  rcases jit_or h with ⟨hq, h⟩ | ⟨hr12, h⟩
  · refine x_tableIn (tgt := 987) (off := 947) (pc := 40) hC dL_law_40 (by omega) (by omega) (by rw [hq]; rfl) (by decide) ?_
    exact st_12 hC hSc hNs hro hi1 ha1 hi2 ha2 h kk
  rcases jit_or h with ⟨hq, h⟩ | ⟨hr13, h⟩
  · refine x_tableIn (tgt := 1055) (off := 1015) (pc := 40) hC dL_law_40 (by omega) (by omega) (by rw [hq]; rfl) (by decide) ?_
    exact st_13 hC hSc hNs hro hi1 ha1 h kk
  rcases jit_or h with ⟨hq, h⟩ | ⟨hr14, h⟩
  · refine x_tableIn (tgt := 1111) (off := 1071) (pc := 40) hC dL_law_40 (by omega) (by omega) (by rw [hq]; rfl) (by decide) ?_
    exact st_14 hC hSc hNs hro hi1 ha1 h kk
  rcases jit_or h with ⟨hq, h⟩ | ⟨hr15, h⟩
  · refine x_tableIn (tgt := 1136) (off := 1096) (pc := 40) hC dL_law_40 (by omega) (by omega) (by rw [hq]; rfl) (by decide) ?_
    exact st_15 hC hSc hNs hro hi1 ha1 hi2 ha2 hi3 ha3 hi4 ha4 h kk
  rcases jit_or h with ⟨hq, h⟩ | ⟨hr16, h⟩
  · refine x_tableIn (tgt := 1228) (off := 1188) (pc := 40) hC dL_law_40 (by omega) (by omega) (by rw [hq]; rfl) (by decide) ?_
    exact st_16 hC hSc hNs hro hi1 ha1 hi2 ha2 hi3 ha3 hi4 ha4 h kk
  rcases jit_or h with ⟨hq, h⟩ | ⟨hr17, h⟩
  · refine x_tableIn (tgt := 1320) (off := 1280) (pc := 40) hC dL_law_40 (by omega) (by omega) (by rw [hq]; rfl) (by decide) ?_
    exact st_17 hC hSc hNs hro hi1 ha1 hi2 ha2 hi3 ha3 hi4 ha4 h kk
  rcases jit_or h with ⟨hq, h⟩ | ⟨hr18, h⟩
  · refine x_tableIn (tgt := 1435) (off := 1395) (pc := 40) hC dL_law_40 (by omega) (by omega) (by rw [hq]; rfl) (by decide) ?_
    exact st_18 hC hSc hNs hro hi1 ha1 hi2 ha2 h kk
  rcases jit_or h with ⟨hq, h⟩ | ⟨hr19, h⟩
  · refine x_tableIn (tgt := 1503) (off := 1463) (pc := 40) hC dL_law_40 (by omega) (by omega) (by rw [hq]; rfl) (by decide) ?_
    exact st_19 hC hSc hNs hro hi1 ha1 hi2 ha2 h kk
  rcases jit_or h with ⟨hq, h⟩ | ⟨hr20, h⟩
  · refine x_tableIn (tgt := 1571) (off := 1531) (pc := 40) hC dL_law_40 (by omega) (by omega) (by rw [hq]; rfl) (by decide) ?_
    exact st_20 hC hSc hNs hro hi1 ha1 hi2 ha2 h kk
  rcases jit_or h with ⟨hq, h⟩ | ⟨hr21, h⟩
  · refine x_tableIn (tgt := 1639) (off := 1599) (pc := 40) hC dL_law_40 (by omega) (by omega) (by rw [hq]; rfl) (by decide) ?_
    exact st_21 hC hSc hNs hro h kk
  rcases jit_or h with ⟨hq, h⟩ | ⟨hr22, h⟩
  · refine x_tableIn (tgt := 1652) (off := 1612) (pc := 40) hC dL_law_40 (by omega) (by omega) (by rw [hq]; rfl) (by decide) ?_
    exact st_22 hC hSc hNs hro hi1 ha1 h kk
  rcases jit_or h with ⟨hq, h⟩ | ⟨hr23, h⟩
  · refine x_tableIn (tgt := 1708) (off := 1668) (pc := 40) hC dL_law_40 (by omega) (by omega) (by rw [hq]; rfl) (by decide) ?_
    exact st_23 hC hSc hNs hro h kk
  rcases jit_or h with ⟨hq, h⟩ | ⟨hr24, h⟩
  · refine x_tableIn (tgt := 1721) (off := 1681) (pc := 40) hC dL_law_40 (by omega) (by omega) (by rw [hq]; rfl) (by decide) ?_
    exact st_24 hC hSc hNs hro hi1 ha1 hi2 ha2 h kk
  rcases jit_or h with ⟨hq, h⟩ | ⟨hr25, h⟩
  · refine x_tableIn (tgt := 1789) (off := 1749) (pc := 40) hC dL_law_40 (by omega) (by omega) (by rw [hq]; rfl) (by decide) ?_
    exact st_25 hC hSc hNs hro hi1 ha1 h kk
  rcases jit_or h with ⟨hq, h⟩ | ⟨hr26, h⟩
  · refine x_tableIn (tgt := 1845) (off := 1805) (pc := 40) hC dL_law_40 (by omega) (by omega) (by rw [hq]; rfl) (by decide) ?_
    exact st_26 hC hSc hNs hro hi1 ha1 hi2 ha2 h kk
  rcases jit_or h with ⟨hq, h⟩ | ⟨hr27, h⟩
  · refine x_tableIn (tgt := 1913) (off := 1873) (pc := 40) hC dL_law_40 (by omega) (by omega) (by rw [hq]; rfl) (by decide) ?_
    exact st_27 hC hSc hNs hro hi1 ha1 hi2 ha2 h kk
  rcases jit_or h with ⟨hq, h⟩ | ⟨hr28, h⟩
  · refine x_tableIn (tgt := 1981) (off := 1941) (pc := 40) hC dL_law_40 (by omega) (by omega) (by rw [hq]; rfl) (by decide) ?_
    exact st_28 hC hSc hNs hro hi1 ha1 h kk
  rcases jit_or h with ⟨hq, h⟩ | ⟨hr29, h⟩
  · refine x_tableIn (tgt := 2037) (off := 1997) (pc := 40) hC dL_law_40 (by omega) (by omega) (by rw [hq]; rfl) (by decide) ?_
    exact st_29 hC hSc hNs hro hi1 ha1 h kk
  rcases jit_or h with ⟨hq, h⟩ | ⟨hr30, h⟩
  · refine x_tableIn (tgt := 2062) (off := 2022) (pc := 40) hC dL_law_40 (by omega) (by omega) (by rw [hq]; rfl) (by decide) ?_
    exact st_30 hC hSc hNs hro hi1 ha1 hi2 ha2 h kk
  rcases jit_or h with ⟨hq, h⟩ | ⟨hr31, h⟩
  · refine x_tableIn (tgt := 2130) (off := 2090) (pc := 40) hC dL_law_40 (by omega) (by omega) (by rw [hq]; rfl) (by decide) ?_
    exact st_31 hC hSc hNs hro hi1 ha1 hi2 ha2 h kk
  rcases jit_or h with ⟨hq, h⟩ | ⟨hr32, h⟩
  · refine x_tableIn (tgt := 2198) (off := 2158) (pc := 40) hC dL_law_40 (by omega) (by omega) (by rw [hq]; rfl) (by decide) ?_
    exact st_32 hC hSc hNs hro hi1 ha1 hi2 ha2 h kk
  rcases jit_or h with ⟨hq, h⟩ | ⟨hr33, h⟩
  · refine x_tableIn (tgt := 2266) (off := 2226) (pc := 40) hC dL_law_40 (by omega) (by omega) (by rw [hq]; rfl) (by decide) ?_
    exact st_33 hC hSc hNs hro hi1 ha1 hi2 ha2 h kk
  rcases jit_or h with ⟨hq, h⟩ | ⟨hr34, h⟩
  · refine x_tableIn (tgt := 2334) (off := 2294) (pc := 40) hC dL_law_40 (by omega) (by omega) (by rw [hq]; rfl) (by decide) ?_
    exact st_34 hC hSc hNs hro hi1 ha1 hi2 ha2 hi3 ha3 h kk
  rcases jit_or h with ⟨hq, h⟩ | ⟨hr35, h⟩
  · refine x_tableIn (tgt := 2414) (off := 2374) (pc := 40) hC dL_law_40 (by omega) (by omega) (by rw [hq]; rfl) (by decide) ?_
    exact st_35 hC hSc hNs hro hi1 ha1 hi2 ha2 h kk
  rcases jit_or h with ⟨hq, h⟩ | ⟨hr36, h⟩
  · refine x_tableIn (tgt := 2482) (off := 2442) (pc := 40) hC dL_law_40 (by omega) (by omega) (by rw [hq]; rfl) (by decide) ?_
    exact st_36 hC hSc hNs hro hi1 ha1 h kk
  rcases jit_or h with ⟨hq, h⟩ | ⟨hr37, h⟩
  · refine x_tableIn (tgt := 2538) (off := 2498) (pc := 40) hC dL_law_40 (by omega) (by omega) (by rw [hq]; rfl) (by decide) ?_
    exact st_37 hC hSc hNs hro hi1 ha1 h kk
  rcases jit_or h with ⟨hq, h⟩ | ⟨hr38, h⟩
  · refine x_tableIn (tgt := 2594) (off := 2554) (pc := 40) hC dL_law_40 (by omega) (by omega) (by rw [hq]; rfl) (by decide) ?_
    exact st_38 hC hSc hNs hro hi1 ha1 h kk
  rcases jit_or h with ⟨hq, h⟩ | ⟨hr39, h⟩
  · refine x_tableIn (tgt := 2650) (off := 2610) (pc := 40) hC dL_law_40 (by omega) (by omega) (by rw [hq]; rfl) (by decide) ?_
    exact st_39 hC hSc hNs hro hi1 ha1 h kk
  rcases jit_or h with ⟨hq, h⟩ | ⟨hr40, h⟩
  · refine x_tableIn (tgt := 2706) (off := 2666) (pc := 40) hC dL_law_40 (by omega) (by omega) (by rw [hq]; rfl) (by decide) ?_
    exact st_40 hC hSc hNs hro hi1 ha1 h kk
  have hq : jw (jnd a0 63) = 41 := by omega
  refine x_tableIn (tgt := 2731) (off := 2691) (pc := 40) hC dL_law_40 (by omega) (by omega) (by rw [hq]; rfl) (by decide) ?_
  exact st_41 hC hSc hNs hro hi1 ha1 h kk
