/-! ===== System.arraycopy ===== -/
def jAC (own : String) (idx : Nat) : Prop := Cond.methodLink own idx arraycopyName ∈ jTB ∧ Cond.native arraycopyName ∈ jTB ∧ Cond.static arraycopyName ∈ jTB ∧ Cond.initialized "java/lang/System" ∈ jTB
theorem jE_cp_ne {X : jX} {M : jM} {src sp dst dp n b : Int} (h : b ≠ dst) : jE X (jcp M src sp dst dp n) b = jE X M b := by
  have : ∀ j, jcp M src sp dst dp n b j = M b j := fun j => by unfold jcp; rw [if_neg (fun q => h q.1)]
  unfold jE; simp only [this]
theorem jE_cpT_ne {X : jX} {M : jM} {k : Nat} {dst b : Int} (h : b ≠ dst) : jE X (jcpT M k dst) b = jE X M b := by
  have : ∀ j, jcpT M k dst b j = M b j := fun j => by unfold jcpT; rw [if_neg (fun q => h q.1)]
  unfold jE; simp only [this]
theorem jFin.other {n : Nat} {M M' : jM} {a : Int} (h : jFin n M) (hk : jkd a = 12) (ho : ∀ b j, b ≠ a → M' b j = M b j) : jFin n M' := by
  refine ⟨fun b j off hb hn hj => ?_, fun b j hb hn h0 h6 => ?_, fun b j hb hn h0 h6 => ?_⟩
  · rw [ho b j (by rintro rfl; omega)]; exact h.1 b j off hb hn hj
  · rw [ho b j (by rintro rfl; omega)]; exact h.2.1 b j hb hn h0 h6
  · rw [ho b j (by rintro rfl; omega)]; exact h.2.2 b j hb hn h0 h6
section JY
variable {C : jC} {X : jX} {own : String} {cc : ByteArray} {n nL d kc ks pc : Nat} {ls st : List jV} {M : jM}
theorem x_acA (hC : jOk C X own cc nL n d) {idx : Nat} (ac : jAC own idx) (hdd : 1 ≤ d) (hw : jCat st ≤ 8) {a0 a sp dp q : Int} (hk0 : jkd a0 = 12) (hk : jkd a = 12) (h1 : 0 ≤ jw sp) (h2 : 0 ≤ jw dp) (h3 : 0 ≤ jw q) (h4 : jw sp + jw q ≤ jln a0) (h5 : jw dp + jw q ≤ jln a) (hd : decode cc pc = .ok (.invokestatic idx, 3)) {M1 : jM} (hM : M1 = jcp M a0 (jw sp) a (jw dp) (jw q)) (k : jG C X n nL kc ks (pc + 3) ls st M1) : jG C X n nL kc ks pc ls (jI q :: jI dp :: jA a :: jI sp :: jA a0 :: st) M := by
  subst hM
  obtain ⟨p, l, e, R, s, m, args, below, meth, c, Q⟩ := C
  obtain ⟨hx, hb, hml, hown, hts, hO, hn, hfr, hlo, -⟩ := hC
  obtain ⟨w1, w2, w3, w4⟩ := ac
  obtain ⟨hp0, hq0⟩ := jk179 hk0 (by decide) (by decide)
  obtain ⟨ha1, ha2⟩ := jk179 hk (by decide) (by decide)
  intro H locs la hH hS hL
  simp only [List.map_cons]
  rw [jcv_p X ha1, jcv_p X hp0]
  have he0 := jws_get (X := X) (n := n) (M := M) hp0 (by omega)
  rw [jE_i hk0 (Or.inr rfl)] at he0
  have he1 := jws_get (X := X) (n := n) (M := M) ha1 (by omega)
  rw [jE_i hk (Or.inr rfl)] at he1
  have hset := jws_set (X := X) (n := n) (M := M) (M' := jcp M a0 (jw sp) a (jw dp) (jw q)) ha1 (by omega) (fun b hb => jE_cp_ne hb)
  have hf : (fun j : Nat => Int32.ofInt (jcp M a0 (jw sp) a (jw dp) (jw q) a (j : Int))) = va_cpy (fun j : Nat => Int32.ofInt (M a0 (j : Int))) (fun j : Nat => Int32.ofInt (M a (j : Int))) (jw sp).toNat (jw dp).toNat (jw q).toNat := by
    funext j
    unfold va_cpy jcp
    by_cases hj : (jw dp).toNat ≤ j ∧ j < (jw dp).toNat + (jw q).toNat
    · rw [if_pos hj, if_pos ⟨rfl, by omega, by omega⟩]
      congr 2
      omega
    · rw [if_neg hj, if_neg (by rintro ⟨-, q1, q2⟩; exact hj ⟨by omega, by omega⟩)]
  rw [jE_i hk (Or.inr rfl), hf] at hset
  have n1 : ¬ Int32.ofInt sp < 0 := fun z => absurd (j_lt0.mp z) (by omega)
  have n2 : ¬ Int32.ofInt dp < 0 := fun z => absurd (j_lt0.mp z) (by omega)
  have n3 : ¬ Int32.ofInt q < 0 := fun z => absurd (j_lt0.mp z) (by omega)
  have n4 : (Int32.ofInt sp).toNatClampNeg + (Int32.ofInt q).toNatClampNeg ≤ (jln a0).toNat := by rw [j_nc, j_nc]; omega
  have n5 : (Int32.ofInt dp).toNatClampNeg + (Int32.ofInt q).toNatClampNeg ≤ (jln a).toNat := by rw [j_nc, j_nc]; omega
  refine va_copyi (ty := .int) (sp := Int32.ofInt sp) (dp := Int32.ofInt dp) (n := Int32.ofInt q) hx hb (by rw [hml]; exact hL.1.symm) hown (hts _ w1) (hts _ w2) (hts _ w3) (hts _ w4) hO.1 hH.1 (jws_D X n M) hS _ _ 1 1 he0 he1 rfl rfl rfl n1 n2 n3 n4 n5 (fun i _ => rfl) (by omega) ?_ hd (fun H1 locs1 hP1 hD1 hS1 => k H1 locs1 la ⟨?_, hH.2.other hk (fun b j hb => by unfold jcp; rw [if_neg (fun q => hb q.1)])⟩ hS1 hL)
  · rw [jCat_eq]
    have : nativeFrameWords "java/lang/System" "arraycopy" 5 + 11 ≤ 80 := by decide +kernel
    omega
  · rw [j_nc, j_nc, j_nc, hset] at hP1
    exact hP1
theorem x_acT (hC : jOk C X own cc nL n d) {idx : Nat} (ac : jAC own idx) (hdd : 1 ≤ d) (hw : jCat st ≤ 8) {kk : Nat} (hkk : kk < 3) {a : Int} (hk : jkd a = 12) (hl : jln a = 7) (hd : decode cc pc = .ok (.invokestatic idx, 3)) {M1 : jM} (hM : M1 = jcpT M kk a) (k : jG C X n nL kc ks (pc + 3) ls st M1) : jG C X n nL kc ks pc ls (jI 7 :: jI 0 :: jA a :: jI 0 :: (5, (kk : Int)) :: st) M := by
  subst hM
  obtain ⟨p, l, e, R, s, m, args, below, meth, c, Q⟩ := C
  obtain ⟨hx, hb, hml, hown, hts, hO, hn, hfr, hlo, -⟩ := hC
  obtain ⟨w1, w2, w3, w4⟩ := ac
  obtain ⟨ha1, ha2⟩ := jk179 hk (by decide) (by decide)
  intro H locs la hH hS hL
  have he1 := jws_get (X := X) (n := n) (M := M) ha1 (by omega)
  rw [jE_i hk (Or.inr rfl), hl] at he1
  have hset := jws_set (X := X) (n := n) (M := M) (M' := jcpT M kk a) ha1 (by omega) (fun b hb => jE_cpT_ne hb)
  have hf : (fun j : Nat => Int32.ofInt (jcpT M kk a a (j : Int))) = va_cpy (fun j : Nat => Int32.ofInt ((jsv kk).getD j 0)) (fun j : Nat => Int32.ofInt (M a (j : Int))) 0 0 7 := by
    funext j
    unfold va_cpy jcpT
    by_cases hj : 0 ≤ j ∧ j < 0 + 7
    · rw [if_pos hj, if_pos ⟨rfl, by omega, by omega⟩]
      unfold jstt
      rw [Int.toNat_natCast]
      congr 2
      omega
    · rw [if_neg hj, if_neg (by rintro ⟨-, q1, q2⟩; exact hj ⟨by omega, by omega⟩)]
  rw [jE_i hk (Or.inr rfl), hl, hf] at hset
  obtain ⟨scr, g1, g2, g3, g4, -, g5, g7⟩ := (hO.2.2.1 kk hkk).2
  have hc0 : H[jXt X kk]? = some scr := by rw [hS.2.1 _ (Array.getElem?_eq_some_iff.mp g1).1 g7]; exact g1
  have hc1 : H[jXB X + a.toNat - 1]? = some (vp_cell (jXc X 12) (7, .inl (fun j => Int32.ofInt (M a (j : Int))))) := hH.1 _ _ he1
  obtain ⟨g6, k0, y0, cm0, z0⟩ := g2
  obtain ⟨-, k1, y1, cm1, z1⟩ := (hO.1.2 1 (jXc X 12, .int) rfl).1 7 (fun j => .int (Int32.ofInt (M a (j : Int))))
  intro T hT XX
  have e0 : (F0 m pc la ((jI 7 :: jI 0 :: jA a :: jI 0 :: (5, (kk : Int)) :: st).map (jcv X))).stack = Value.int 7 :: .int 0 :: .ref (jXB X + a.toNat - 1) :: .int 0 :: .ref (jXt X kk) :: st.map (jcv X) := by
    show (jI 7 :: jI 0 :: jA a :: jI 0 :: (5, (kk : Int)) :: st).map (jcv X) = _
    simp only [List.map_cons]
    rw [jcv_p X ha1]
    rfl
  obtain ⟨vm', X', step⟩ := XX.arraycopy hx hown (hts _ w1) (hts _ w2) (hts _ w3) (hts _ w4) (src := jXt X kk) (dst := jXB X + a.toNat - 1) (cs := scr) (cd := vp_cell (jXc X 12) (7, .inl (fun j => Int32.ofInt (M a (j : Int))))) (srcPos := 0) (destPos := 0) (n := 7) (by rw [hT]; exact hc0) (by rw [hT]; exact hc1)
    g6 (fun _ h => by cases h) g3 (fun h => by cases h) y0 y1 z0 z1 (by simp [refKind]) (by decide) (by decide) (by decide)
    (by show ¬ (0 : Int) + 7 > _; omega)
    (by show ¬ (0 : Int) + 7 > ((arrV (jXc X 12) 7 (fun j => .int (Int32.ofInt (M a (j : Int))))).slots.size : Int); rw [arrV_size]; omega)
    (fun vm₁ _ i hi => by
      have hi7 : i < 7 := hi
      have ev : scr.slots.getD ((0 : Int32).toNatClampNeg + i) .null = .int (Int32.ofInt ((jsv kk).getD i 0)) := by
        rw [Array.getD_eq_getD_getElem?, show (0 : Int32).toNatClampNeg + i = i by show 0 + i = i; omega, g5 _ hi7]
        rfl
      rw [ev]
      exact ⟨rfl, trivial⟩)
    (g := F0 m pc la ((jI 7 :: jI 0 :: jA a :: jI 0 :: (5, (kk : Int)) :: st).map (jcv X))) rfl (by rw [hml]; exact hL.1) (rest := st.map (jcv X)) e0 (by rw [hb]; exact hd) (by omega) (by
      show 2 * 0 + _ + _ ≤ _
      rw [jCat_eq]
      have : nativeFrameWords "java/lang/System" "arraycopy" 5 + 11 ≤ 80 := by decide +kernel
      omega)
  have e1 : copied scr (vp_cell (jXc X 12) (7, .inl (fun j => Int32.ofInt (M a (j : Int))))) 0 0 7 = vp_cell (jXc X 12) (7, .inl (va_cpy (fun j : Nat => Int32.ofInt ((jsv kk).getD j 0)) (fun j => Int32.ofInt (M a (j : Int))) 0 0 7)) := va_copiedX (fun z => .int z) scr (jXc X 12) (fun j : Nat => Int32.ofInt ((jsv kk).getD j 0)) (fun j => Int32.ofInt (M a (j : Int))) g5 (by decide)
  rw [e1] at X' step
  have hlt : jXB X + a.toNat - 1 < H.size := (Array.getElem?_eq_some_iff.mp hc1).1
  have oq : ∀ q : Nat, q ≠ jXB X + a.toNat - 1 → ((T.setVm vm').setCell (jXB X + a.toNat - 1) (vp_cell (jXc X 12) (7, .inl (va_cpy (fun j : Nat => Int32.ofInt ((jsv kk).getD j 0)) (fun j => Int32.ofInt (M a (j : Int))) 0 0 7)))).heap[q]? = H[q]? := fun q hq => by
    show (T.heap.setIfInBounds _ _)[q]? = _
    rw [hT]
    simp [Array.getElem?_setIfInBounds, Ne.symm hq]
  have hD := jws_D X n M
  have hat : va_at (jXD X) vwCl (jXB X + a.toNat - 1, .inl (jXc X 12, 7, .inl (va_cpy (fun j : Nat => Int32.ofInt ((jsv kk).getD j 0)) (fun j => Int32.ofInt (M a (j : Int))) 0 0 7))) ((T.setVm vm').setCell (jXB X + a.toNat - 1) (vp_cell (jXc X 12) (7, .inl (va_cpy (fun j : Nat => Int32.ofInt ((jsv kk).getD j 0)) (fun j => Int32.ofInt (M a (j : Int))) 0 0 7)))).heap := by
    show (T.heap.setIfInBounds _ _)[jXB X + a.toNat - 1]? = _
    rw [hT]
    simp [Array.getElem?_setIfInBounds, hlt]
  have hP2 := hH.1.set hD he1 hat oq
  rw [show Int.toNat 7 = 7 from rfl] at hset
  rw [hset] at hP2
  obtain ⟨t, a1, b1⟩ := k _ _ la ⟨hP2, hH.2.other hk (fun b j hb => by unfold jcpT; rw [if_neg (fun q => hb q.1)])⟩ ⟨by
      show s.heap.size ≤ (T.heap.setIfInBounds _ _).size
      rw [Array.size_setIfInBounds, hT]; exact hS.1, fun q h1 h2 => by
      rw [oq q (fun z => h2 (by rw [z]; exact hD.2 _ _ he1))]
      exact hS.2.1 q h1 h2, fun q hq => by
      rcases List.mem_append.mp hq with h | h
      · exact hS.2.2 q h
      · obtain ⟨z, -, hz⟩ := List.mem_map.mp h
        rw [← hz]
        exact hD.2 _ _ he1⟩ hL _ rfl X'
  exact ⟨t, step t a1, b1⟩
end JY
-- LINKS
theorem ac_X1_53 : jAC RX1 53 := ⟨jTB_mem wm_239 rfl, jTB_mem wm_241 rfl, jTB_mem wm_240 rfl, jTB_mem wm_145 rfl⟩
theorem ac_X2_29 : jAC RX2 29 := ⟨jTB_mem wm_884 rfl, jTB_mem wm_241 rfl, jTB_mem wm_240 rfl, jTB_mem wm_145 rfl⟩
