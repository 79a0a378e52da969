/-! ===== reading: the rows after a line ===== -/
theorem bL_c {T T' : Int → Int} (hT : bT T) (h : bL T) (h0 : T 0 ≤ T' 0) (h1 : T' 1 = T 1) (ht : ∀ j, 116 ≤ j → j < 482 → T' j = T j) : bL T' := by
  intro s k q0 q1 k0 k1
  have := hT.2.1
  have h12 := hT.2.2.2.2.2.2.1 s q0 (by omega)
  rw [ht (116 + s) (by omega) (by omega)] at k1
  obtain ⟨a1, a2⟩ := h s k q0 (by omega) k0 k1
  have h3 := hT.2.2.2.2.2.2.2.2.1 (12 * s + k) (by omega) (by omega)
  rw [ht (194 + (12 * s + k)) (by omega) (by omega)]
  refine ⟨a1, fun i i0 i1 => ?_⟩
  rw [ht (266 + 3 * (12 * s + k) + i) (by omega) (by omega)]
  have := a2 i i0 i1
  omega
theorem evT_sk {e p p' sh sh' : Int} {M M' : jM} {T T' N N' : Int → Int} (h : evT e p sh M T N) (hp : p ≤ p') (hf : ∀ a, e ≤ a → a < e + 17 → M' a = M a) (ht : ∀ j, (j < 110 ∨ 482 ≤ j) → T' j = T j) (hn : ∀ j, 954 ≤ j → N' j = N j) (hT' : bT T') (hN' : bN N') (hL' : bL T') (hS : ∀ s, 0 ≤ s → s < 6 → rSk (e + 16 + 1 + 6 * s) M' T' N' s) (h0 : ∀ s, T' 1 ≤ s → s < 6 → T' (116 + s) = 0) (hg : ∀ i, 0 ≤ i → i < 72 → N' (882 + i) = 0) (hsh : sh' = 0 ∨ sh' = 1) (hm : sh' = 0 → rM0 e M' T' N') : evT e p' sh' M' T' N' := by
  obtain ⟨bt, bn, bl, ⟨a1, a2, a3, a4, a5, a6, a7, a8, a9⟩, -, -, -, hc, -, -⟩ := h
  have t3 := bt.2.2.2.1
  have t0 := bt.1
  refine ⟨hT', hN', hL', ⟨?_, ?_, ?_, ?_, ?_, ?_, ?_, ?_, fun r q0 q1 => ?_⟩, hS, h0, hg, ?_, hsh, hm⟩
  · rw [hf e (by omega) (by omega), ht 2 (by omega)]; exact a1
  · intro i q0 q1
    rw [hf (e + 1) (by omega) (by omega), hn (964 + i) (by omega)]; exact a2 i q0 q1
  · rw [hf (e + 2) (by omega) (by omega), ht 0 (by omega)]; exact a3
  · rw [hf (e + 13) (by omega) (by omega), ht 1 (by omega)]; exact a4
  · rw [hf (e + 7) (by omega) (by omega), ht 3 (by omega)]; exact a5
  · rw [hf (e + 3) (by omega) (by omega), hf (e + 4) (by omega) (by omega), ht 0 (by omega)]
    exact rNm_c a6 (fun j q0 q1 => ht j (by omega))
  · have t1 := bt.2.1
    rw [hf (e + 14) (by omega) (by omega), hf (e + 15) (by omega) (by omega), ht 1 (by omega)]
    exact rNm_c a7 (fun j q0 q1 => ht j (by omega))
  · intro i q0 q1
    rw [ht 0 (by omega)] at q1
    rw [hf (e + 5) (by omega) (by omega), hf (e + 6) (by omega) (by omega), hn (954 + i) (by omega), ht (4 + i) (by omega)]
    exact a8 i q0 q1
  · rw [ht 3 (by omega)] at q1
    exact rRl_c (a9 r q0 q1) q0 (fun a b0 b1 => hf a (by omega) (by omega)) (fun j b0 => ht j (by omega))
  · rw [hf (e + 7) (by omega) (by omega), ht 3 (by omega), ht (482 + T 3) (by omega)]
    exact ⟨by omega, by omega, by omega, rlB_c hc.2.2.2 t3.1 (hf _ (by omega) (by omega)) (hf _ (by omega) (by omega)) (ht 3 (by omega)) (fun j b => ht j (by omega))⟩
theorem evT_set {e p p' sh i v : Int} {M M' : jM} {T N N' : Int → Int} (h : evT e p sh M T N) (hp : p ≤ p') (hi : 0 ≤ i ∧ i < 7) (hf : ∀ a, e ≤ a → a ≤ e + 52 → a ≠ e + 1 → M' a = M a) (h1 : ∀ j, j ≠ i → M' (e + 1) j = M (e + 1) j) (h2 : M' (e + 1) i = v) (hn : ∀ j, j ≠ 964 + i → N' j = N j) (hv : N' (964 + i) = v) (hok : okNi (964 + i) v) : evT e p' sh M' T N' := by
  obtain ⟨bt, bn, bl, ⟨a1, a2, a3, a4, a5, a6, a7, a8, a9⟩, hS, h0, hg, hc, hs, hm⟩ := h
  have t0 := bt.1
  refine ⟨bt, bN_r bn (okN_of hn (by rw [hv]; exact hok)), bl, ⟨?_, ?_, ?_, ?_, ?_, ?_, ?_, ?_, fun r q0 q1 => rRl_fr (a9 r q0 q1) (fun a b0 b1 => hf a (by omega) (by omega) (by omega))⟩, fun s q0 q1 => ?_, h0, fun j q0 q1 => ?_, ?_, hs, fun q s q0 q1 => ?_⟩
  · rw [hf e (by omega) (by omega) (by omega)]; exact a1
  · intro j q0 q1
    by_cases c : j = i
    · subst c; rw [h2, hv]
    · rw [h1 j c, hn (964 + j) (by omega)]; exact a2 j q0 q1
  · rw [hf (e + 2) (by omega) (by omega) (by omega)]; exact a3
  · rw [hf (e + 13) (by omega) (by omega) (by omega)]; exact a4
  · rw [hf (e + 7) (by omega) (by omega) (by omega)]; exact a5
  · rw [hf (e + 3) (by omega) (by omega) (by omega), hf (e + 4) (by omega) (by omega) (by omega)]; exact a6
  · rw [hf (e + 14) (by omega) (by omega) (by omega), hf (e + 15) (by omega) (by omega) (by omega)]; exact a7
  · intro j q0 q1
    rw [hf (e + 5) (by omega) (by omega) (by omega), hf (e + 6) (by omega) (by omega) (by omega), hn (954 + j) (by omega)]; exact a8 j q0 q1
  · have hg : M' (e + 16 + 1 + 6 * s) = M (e + 16 + 1 + 6 * s) := hf _ (by omega) (by omega) (by omega)
    exact rSk_c bt ⟨q0, q1⟩ (hS s q0 q1) (by rw [hg]; exact (hS s q0 q1).2.2.1) (by rw [hg]) (by rw [hg]) (fun a b0 b1 => hf a (by omega) (by omega) (by omega)) (fun _ _ => rfl) (fun j b => hn j (by omega))
  · rw [hn (882 + j) (by omega)]; exact hg j q0 q1
  · rw [hf (e + 7) (by omega) (by omega) (by omega)]
    exact ⟨by omega, by omega, by omega, rlB_c hc.2.2.2 bt.2.2.2.1.1 (hf _ (by omega) (by omega) (by omega)) (hf _ (by omega) (by omega) (by omega)) rfl (fun _ _ => rfl)⟩
  · rw [hf (e + 16 + 1 + 6 * s + 5) (by omega) (by omega) (by omega)]
    refine ⟨(hm q s q0 q1).1, fun c j c0 c1 j0 j1 => ?_⟩
    rw [hn (648 + 9 * (3 * s + c) + j) (by omega)]
    exact (hm q s q0 q1).2 c j c0 c1 j0 j1
theorem evT_jud {e p p' v : Int} {M M' : jM} {T T' N : Int → Int} (h : evT e p 0 M T N) (hp : p ≤ p') (hf : ∀ a, e ≤ a → a ≤ e + 52 → a ≠ e → M' a = M a) (h2 : M' e 0 = v) (ht : ∀ j, j ≠ 2 → T' j = T j) (hv : T' 2 = v) (hvb : 1 ≤ v ∧ v ≤ 9) : evT e p' 0 M' T' N := by
  obtain ⟨bt, bn, bl, ⟨a1, a2, a3, a4, a5, a6, a7, a8, a9⟩, hS, h0, hg, hc, hs, hm⟩ := h
  have t0 := bt.1
  have t1 := bt.2.1
  have t3 := bt.2.2.2.1
  have hm := hm rfl
  refine ⟨bT_r bt (okT_of ht (by rw [hv]; unfold okTi; omega)), bn, bL_c bt bl (by rw [ht 0 (by decide)]; omega) (ht 1 (by decide)) (fun j q0 q1 => ht j (by omega)), ⟨?_, ?_, ?_, ?_, ?_, ?_, ?_, ?_, fun r q0 q1 => ?_⟩, fun s q0 q1 => ?_, fun s q0 q1 => ?_, hg, ?_, hs, fun _ s q0 q1 => ?_⟩
  · rw [h2, hv]
  · rw [hf (e + 1) (by omega) (by omega) (by omega)]; exact a2
  · rw [hf (e + 2) (by omega) (by omega) (by omega), ht 0 (by decide)]; exact a3
  · rw [hf (e + 13) (by omega) (by omega) (by omega), ht 1 (by decide)]; exact a4
  · rw [hf (e + 7) (by omega) (by omega) (by omega), ht 3 (by decide)]; exact a5
  · rw [hf (e + 3) (by omega) (by omega) (by omega), hf (e + 4) (by omega) (by omega) (by omega), ht 0 (by decide)]
    exact rNm_c a6 (fun j q0 q1 => ht j (by omega))
  · rw [hf (e + 14) (by omega) (by omega) (by omega), hf (e + 15) (by omega) (by omega) (by omega), ht 1 (by decide)]
    exact rNm_c a7 (fun j q0 q1 => ht j (by omega))
  · intro j q0 q1
    rw [ht 0 (by decide)] at q1
    rw [hf (e + 5) (by omega) (by omega) (by omega), hf (e + 6) (by omega) (by omega) (by omega), ht (4 + j) (by omega)]; exact a8 j q0 q1
  · rw [ht 3 (by decide)] at q1
    exact rRl_c (a9 r q0 q1) q0 (fun a b0 b1 => hf a (by omega) (by omega) (by omega)) (fun j b0 => ht j (by omega))
  · obtain ⟨b1, b2, b3, b4, b5⟩ := hS s q0 q1
    obtain ⟨m1, m2⟩ := hm s q0 q1
    unfold rSk
    rw [hf (e + 16 + 1 + 6 * s) (by omega) (by omega) (by omega), hf (e + 16 + 1 + 6 * s + 5) (by omega) (by omega) (by omega), ht (116 + s) (by omega), ht (110 + s) (by omega), hv]
    exact ⟨b1, b2, b3, fun k k0 k1 => by omega, fun c j c0 c1 j0 j1 => m2 c j c0 c1 j0 (by omega)⟩
  · rw [ht 1 (by decide)] at q0
    rw [ht (116 + s) (by omega)]
    exact h0 s q0 q1
  · rw [hf (e + 7) (by omega) (by omega) (by omega), ht 3 (by decide), ht (482 + T 3) (by omega)]
    exact ⟨by omega, by omega, by omega, rlB_c hc.2.2.2 t3.1 (hf _ (by omega) (by omega) (by omega)) (hf _ (by omega) (by omega) (by omega)) (ht 3 (by decide)) (fun j b => ht j (by omega))⟩
  · rw [hf (e + 16 + 1 + 6 * s + 5) (by omega) (by omega) (by omega), ht (116 + s) (by omega)]
    exact hm s q0 q1
