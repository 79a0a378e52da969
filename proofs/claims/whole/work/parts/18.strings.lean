/-! ===== String.length, String.charAt of the constants ===== -/
abbrev jB (k : Int) : jV := (7, k)
section JT
variable {C : jC} {X : jX} {own : String} {cc : ByteArray} {n nL d kc ks pc : Nat} {ls st : List jV} {M : jM}
theorem x_sgv (hC : jOk C X "java/lang/String" cc nL n d) {k : Nat} (hk : k < 58) (hd : decode cc pc = .ok (.getfield 9, 3)) (kk : jG C X n nL kc ks (pc + 3) ls (jB (k : Int) :: st) M) : jG C X n nL kc ks pc ls (jS (k : Int) :: st) M := by
  obtain ⟨p, l, e, R, s, m, args, below, meth, c, Q⟩ := C
  obtain ⟨hx, hb, hml, hown, hts, hO, hn, -⟩ := hC
  intro H locs la hH hS hL
  exact vk_getf hx hb (hO.2.2.2.1 k hk).2.2.2.1 hS hown (hts _ swv) (fun _ q => q) hd (kk H locs la hH hS hL)
theorem x_sgc (hC : jOk C X "java/lang/String" cc nL n d) {k : Nat} (hk : k < 58) (hd : decode cc pc = .ok (.getfield 15, 3)) (kk : jG C X n nL kc ks (pc + 3) ls (jI 0 :: st) M) : jG C X n nL kc ks pc ls (jS (k : Int) :: st) M := by
  obtain ⟨p, l, e, R, s, m, args, below, meth, c, Q⟩ := C
  obtain ⟨hx, hb, hml, hown, hts, hO, hn, -⟩ := hC
  intro H locs la hH hS hL
  exact vk_getf hx hb (hO.2.2.2.1 k hk).2.2.1 hS hown (hts _ swc) (fun _ q => q) hd (kk H locs la hH hS hL)
theorem x_gsC (hC : jOk C X "java/lang/String" cc nL n d) (hd : decode cc pc = .ok (.getstatic 38, 3)) (kk : jG C X n nL kc ks (pc + 3) ls (jI 1 :: st) M) : jG C X n nL kc ks pc ls st M := by
  obtain ⟨p, l, e, R, s, m, args, below, meth, c, Q⟩ := C
  obtain ⟨hx, hb, hml, hown, hts, hO, hn, -⟩ := hC
  intro H locs la hH hS hL
  exact va_gets hx hb hO.2.2.2.2.2.1 hS hown (hts _ sws) (fun _ q => q) hd (kk H locs la hH hS hL)
/-- null, or some reference: nothing else is said of it -/
theorem x_gsF (hC : jOk C X "java/lang/String" cc nL n d) (hd : decode cc pc = .ok (.getstatic 1053, 3)) (kk : ∀ v : jV, (v = jA 0 ∨ ∃ t : Nat, v = (8, (t : Int))) → jG C X n nL kc ks (pc + 3) ls (v :: st) M) : jG C X n nL kc ks pc ls st M := by
  obtain ⟨p, l, e, R, s, m, args, below, meth, c, Q⟩ := C
  obtain ⟨hx, hb, hml, hown, hts, hO, hn, -⟩ := hC
  intro H locs la hH hS hL
  rcases hO.2.2.2.2.2.2.1 with hz | ⟨t, hz⟩
  · exact va_gets hx hb hz hS hown (hts _ swf) (fun _ q => q) hd (kk (jA 0) (Or.inl rfl) H locs la hH hS hL)
  · exact va_gets hx hb hz hS hown (hts _ swf) (fun _ q => q) hd (kk (8, (t : Int)) (Or.inr ⟨t, rfl⟩) H locs la hH hS hL)
theorem j_sl (k : Nat) : Int32.ofNat (jsB.getD k []).length = Int32.ofInt (jsln (k : Int)) := by
  unfold jsln
  rw [Int.toNat_natCast]
  first | exact (Int32.ofInt_natCast _).symm | rfl | simp
theorem x_salen (hC : jOk C X own cc nL n d) {k : Nat} (hk : k < 58) (hd : decode cc pc = .ok (.arraylength, 1)) (kk : jG C X n nL kc ks (pc + 1) ls (jI (jsln (k : Int)) :: st) M) : jG C X n nL kc ks pc ls (jB (k : Int) :: st) M := by
  obtain ⟨p, l, e, R, s, m, args, below, meth, c, Q⟩ := C
  obtain ⟨hx, hb, hml, hown, hts, hO, hn, -⟩ := hC
  intro H locs la hH hS hL
  exact va_tlen hx hb (hO.2.2.2.1 k hk).2.2.2.2 hS (v := Int32.ofInt (jsln (k : Int))) (j_sl k) hd (kk H locs la hH hS hL)
theorem x_sbald (hC : jOk C X own cc nL n d) {k : Nat} (hk : k < 58) {i : Int} (hi : 0 ≤ jw i ∧ jw i < jsln (k : Int)) (hd : decode cc pc = .ok (.baload, 1)) (kk : jG C X n nL kc ks (pc + 1) ls (jI (jsch (k : Int) (jw i)) :: st) M) : jG C X n nL kc ks pc ls (jI i :: jB (k : Int) :: st) M := by
  obtain ⟨p, l, e, R, s, m, args, below, meth, c, Q⟩ := C
  obtain ⟨hx, hb, hml, hown, hts, hO, hn, -⟩ := hC
  intro H locs la hH hS hL
  have h2 := kk H locs la hH hS hL
  have hl : jsln (k : Int) = ((jsB.getD k []).length : Nat) := by unfold jsln; rw [Int.toNat_natCast]
  refine va_tb hx hb (hO.2.2.2.1 k hk).2.2.2.2 hS (by
    have := j_vin (i := i) (l := jsln (k : Int)) hi.1 hi.2
    rw [hl, Int.toNat_natCast] at this
    exact this) (v := .int (Int32.ofInt (jsch (k : Int) (jw i)))) ?_ hd h2
  show Value.int (Int32.ofNat ((jsB.getD k []).getD (Int32.ofInt i).toNatClampNeg 0)) = _
  rw [j_nc]
  unfold jsch
  rw [Int.toNat_natCast]
  first | done | rfl | (congr 1; first | exact (Int32.ofInt_natCast _).symm | rfl | simp)
theorem x_cVs (hC : jOk C X own cc nL n d) {idx : Nat} {y : MethodName} {cc' : ByteArray} {maxL : Nat} {ret : Option FieldType} {d' na : Nat} (ml : jMV own idx y cc' maxL ret "java/lang/String" na) {q : Nat} (hq : q < 58) {av : List jV} {rv : Option jV} {M1 : jM} (ct : jCt X n y cc' maxL ret d' (jS (q : Int) :: av) M rv M1) (hav : av.length = na) (hdd : d' + 1 ≤ d) (hro : jRo C kc ks) (hw : jCat st ≤ 8) (hd : decode cc pc = .ok (.invokevirtual idx, 3)) {stk : List jV} (hs : stk = av.reverse ++ jS (q : Int) :: st) (k : jG C X n nL kc ks (pc + 3) ls (rv.toList ++ st) M1) : jG C X n nL kc ks pc ls stk M := by
  subst hs
  obtain ⟨p, l, e, R, s, m, args, below, meth, c, Q⟩ := C
  obtain ⟨hx, hb, hml, hown, hts, hO, hn, hfr, hlo, hlk, hB, rfl⟩ := hC
  obtain ⟨hlink, hinst, hsel, hini, hcode, hdesc, hm⟩ := ml
  intro H locs la hH hS hL
  have hc : jcv X (jS (q : Int)) = .ref (jXk X q) := rfl
  have hrecv : ∃ cell : Cell, H[jXk X q]? = some cell ∧ cell.vm.isStatics = false ∧ s.vm.findClass "java/lang/String" = some cell.cls := by
    obtain ⟨cell, h1, h2, h3, -⟩ := (hO.2.2.2.1 q hq).2.1.kept hS.2.1
    exact ⟨cell, h1, h2, h3⟩
  have hpre : PreV s H "java/lang/String" (jXk X q) (jPc X n (jS (q : Int) :: av) M) (av.map (jcv X)) := ⟨jPc_blind X n _ M, hrecv, fun U hU hW => ⟨rfl, j_in hO hH hB hS hU hW⟩⟩
  have hG : GoodIn jTB (.code y cc' maxL ret :: jTB) := fun w hw => (List.mem_cons.mp hw).elim (fun q => by rw [q]; exact jTB_good _ hcode) (jTB_good w)
  have hR : (jRm d' 0 0).frames + 1 ≤ R.frames ∧ 8 + (maxL + 11) + (jRm d' 0 0).locals ≤ R.locals := by
    show d' + 1 ≤ R.frames ∧ 8 + (maxL + 11) + 100 * d' ≤ R.locals
    omega
  have hstk : (F0 m pc la ((av.reverse ++ jS (q : Int) :: st).map (jcv X))).stack = (av.map (jcv X)).reverse ++ .ref (jXk X q) :: st.map (jcv X) := by
    show (av.reverse ++ jS (q : Int) :: st).map (jcv X) = _
    rw [List.map_append, List.map_cons, hc, List.map_reverse]
  have hW8 : 2 * (F0 m pc la ((av.reverse ++ jS (q : Int) :: st).map (jcv X))).monitorRoom + ((st.map (jcv X)).map fun v => v.category).sum ≤ 8 := by
    rw [jCat_eq]
    show 2 * 0 + _ ≤ 8
    omega
  have hrun : va_Run p (jXl X) e R s m args below meth c H locs kc ks 0 0 (F0 m pc la ((av.reverse ++ jS (q : Int) :: st).map (jcv X))) (st.map (jcv X)) (jQc X n rv M1 (Value.ref (jXk X q) :: av.map (jcv X)).toArray) (jAd X) := by
    rcases hlink with h | ⟨host, h⟩
    · exact va_runV (nL := nL) (own := own) (C := "java/lang/String") ⟨hx, hb, hml, hown, hts⟩ ct ⟨callB_of na hts hG rfl rfl rfl (hts _ hini) (hts _ h) hdesc hR, hts _ hinst, hts _ hsel⟩ hpre rfl (by rw [List.length_map]; exact hav) hL.1 hstk hW8 hd hro
    · exact va_runVN (nL := nL) (own := own) (C := "java/lang/String") ⟨hx, hb, hml, hown, hts⟩ ct ⟨va_cnB na hts hG rfl rfl rfl (hO.2.1 _ h) (hts _ hini) hdesc hR, hts _ hinst, hts _ hsel⟩ hpre rfl (by rw [List.length_map]; exact hav) hL.1 hstk hW8 hd hro
  exact j_after hrun hS (fun H1 locs1 hH1 hS1 => k H1 locs1 la hH1 hS1 hL)
theorem x_i2c (hC : jOk C X own cc nL n d) {a : Int} (ha : 0 ≤ jw a ∧ jw a < 65536) (hd : decode cc pc = .ok (.i2c, 1)) (k : jG C X n nL kc ks (pc + 1) ls (jI a :: st) M) : jG C X n nL kc ks pc ls (jI a :: st) M := by
  obtain ⟨p, l, e, R, s, m, args, below, meth, c, Q⟩ := C
  obtain ⟨hx, hb, -⟩ := hC
  intro H locs la hH hS hL
  exact lv_i2c hx hb hd (lg_i2c_word (by rw [j_toInt]; exact ha.1) (by rw [j_toInt]; exact ha.2)) (k H locs la hH hS hL)
theorem x_nret (hC : jOk C X own cc nL n d) {z v : Int} {ty : FieldType} {M' : jM} (hR : jRet C X n (some ty) (some (jI v)) M') (hd : decode cc pc = .ok (.ireturn, 1)) (hnr : narrow ty (.int (Int32.ofInt z)) = .int (Int32.ofInt z)) (hz : z = v) (hM : M = M') : jG C X n nL 0 0 pc ls [jI z] M := by
  subst hz hM
  obtain ⟨p, l, e, R, s, m, args, below, meth, c, Q⟩ := C
  obtain ⟨hx, hb, hml, hown, hts, hO, hn, hfr, hlo, hlk, hB, rfl⟩ := hC
  obtain ⟨rfl, hr⟩ := hR
  intro H locs la hH hS hL
  exact W.zret (v := Int32.ofInt z) (ty := ty) hx hb hr hnr (fun t ht hW => ⟨rfl, by rw [ht]; exact hH, hS.F ht⟩) hS.2.2 hd hlk
end JT
theorem ok_s_coder {X : jX} {n : Nat} (hn : 179 ≤ n) {k : Nat} (hk : k < 58) {M : jM} : jCt X n yJ0_coder_7d493 cJ0_coder_7d493 1 (some .byte) 0 [jS (k : Int)] M (some (jI 0)) M := by
  refine jCt_of (own := RJ0) (ls := [jS (k : Int)]) (by decide +kernel) rfl hn (Nat.le_of_ble_eq_true rfl) rfl ?_
  intro C hC hR
  refine x_gsC (pc := 0) hC dJ0_coder_7d493_0 ?_
  refine x_if_eq (tgt := 13) (pc := 3) hC dJ0_coder_7d493_3 (by decide) (fun hc => absurd hc (by decide)) (fun hc => ?_)
  refine x_aload_n (pc := 6) hC dJ0_coder_7d493_6 rfl rfl (show (6 : Nat) ≠ 0 by decide) rfl ?_
  refine x_sgc (pc := 7) hC hk dJ0_coder_7d493_7 ?_
  refine x_goto (tgt := 14) (pc := 10) hC dJ0_coder_7d493_10 (by decide) ?_
  exact x_nret (pc := 14) hC hR dJ0_coder_7d493_14 (by decide) rfl rfl
theorem ok_s_latin {X : jX} {n : Nat} (hn : 179 ≤ n) {k : Nat} (hk : k < 58) {M : jM} : jCt X n yJ0_isLatin1_aae02 cJ0_isLatin1_aae02 1 (some .boolean) 0 [jS (k : Int)] M (some (jI 1)) M := by
  refine jCt_of (own := RJ0) (ls := [jS (k : Int)]) (by decide +kernel) rfl hn (Nat.le_of_ble_eq_true rfl) rfl ?_
  intro C hC hR
  refine x_gsC (pc := 0) hC dJ0_isLatin1_aae02_0 ?_
  refine x_if_eq (tgt := 17) (pc := 3) hC dJ0_isLatin1_aae02_3 (by decide) (fun hc => absurd hc (by decide)) (fun hc => ?_)
  refine x_aload_n (pc := 6) hC dJ0_isLatin1_aae02_6 rfl rfl (show (6 : Nat) ≠ 0 by decide) rfl ?_
  refine x_sgc (pc := 7) hC hk dJ0_isLatin1_aae02_7 ?_
  refine x_if_ne (tgt := 17) (pc := 10) hC dJ0_isLatin1_aae02_10 (by decide) (fun hc => absurd (by decide) hc) (fun hc => ?_)
  refine x_iconst (pc := 13) hC dJ0_isLatin1_aae02_13 ?_
  refine x_goto (tgt := 18) (pc := 14) hC dJ0_isLatin1_aae02_14 (by decide) ?_
  exact x_zret (pc := 18) hC hR dJ0_isLatin1_aae02_18 (Or.inr jw1) rfl rfl
theorem j_sr0 (a : Int) : Int32.ofInt (jsr a 0) = Int32.ofInt a := by
  unfold jsr
  rw [Int32.ofInt_toInt]
  show Int32.ofInt a >>> ((0 : Int32) &&& 31) = _
  exact sb_shr0 _
theorem ok_s_length {X : jX} {n : Nat} (hn : 179 ≤ n) {k : Nat} (hk : k < 58) {M : jM} : jCt X n yJ0_length_8abf5 cJ0_length_8abf5 1 (some .int) 1 [jS (k : Int)] M (some (jI (jsr (jsln (k : Int)) 0))) M := by
  refine jCt_of (own := RJ0) (ls := [jS (k : Int)]) (by decide +kernel) rfl hn (Nat.le_of_ble_eq_true rfl) rfl ?_
  intro C hC hR
  refine x_aload_n (pc := 0) hC dJ0_length_8abf5_0 rfl rfl (show (6 : Nat) ≠ 0 by decide) rfl ?_
  refine x_sgv (pc := 1) hC hk dJ0_length_8abf5_1 ?_
  refine x_salen (pc := 4) hC hk dJ0_length_8abf5_4 ?_
  refine x_aload_n (pc := 5) hC dJ0_length_8abf5_5 rfl rfl (show (6 : Nat) ≠ 0 by decide) rfl ?_
  refine x_cVs (pc := 6) hC mv_J0_335 hk (ok_s_coder hn hk) rfl (Nat.le_of_ble_eq_true rfl) (jRo0 C) (Nat.le_of_ble_eq_true rfl) dJ0_length_8abf5_6 rfl ?_
  refine x_ishr (pc := 9) hC dJ0_length_8abf5_9 ?_
  exact x_iret (pc := 10) hC hR dJ0_length_8abf5_10 rfl rfl
theorem ok_s_pre {X : jX} {n : Nat} (hn : 179 ≤ n) {i l : Int} (h : 0 ≤ jw i ∧ jw i < jw l) {v : jV} {M : jM} (hv : v.1 ≠ 3) : jCt X n yJ3_checkIndex_8e157 cJ3_checkIndex_8e157 3 (some .int) 0 [jI i, jI l, v] M (some (jI i)) M := by
  refine jCt_of (own := RJ3) (ls := [jI i, jI l, v]) (by decide +kernel) rfl hn (by simp [jfl, hv]) (by simp [jfl, hv]) ?_
  intro C hC hR
  refine x_iload_n (pc := 0) hC dJ3_checkIndex_8e157_0 rfl rfl ?_
  refine x_if_lt (tgt := 9) (pc := 1) hC dJ3_checkIndex_8e157_1 (by decide) (fun hc => absurd hc (by omega)) (fun hc => ?_)
  refine x_iload_n (pc := 4) hC dJ3_checkIndex_8e157_4 rfl rfl ?_
  refine x_iload_n (pc := 5) hC dJ3_checkIndex_8e157_5 rfl rfl ?_
  refine x_icmp_lt (tgt := 16) (pc := 6) hC dJ3_checkIndex_8e157_6 (by decide) (fun hc => ?_) (fun hc => absurd h.2 hc)
  refine x_iload_n (pc := 16) hC dJ3_checkIndex_8e157_16 rfl rfl ?_
  exact x_iret (pc := 17) hC hR dJ3_checkIndex_8e157_17 rfl rfl
theorem ok_s_check {X : jX} {n : Nat} (hn : 179 ≤ n) {i l : Int} (h : 0 ≤ jw i ∧ jw i < jw l) {M : jM} : jCt X n yJ0_checkIndex_df160 cJ0_checkIndex_df160 2 none 1 [jI i, jI l] M none M := by
  refine jCt_of (own := RJ0) (ls := [jI i, jI l]) (by decide +kernel) rfl hn (Nat.le_of_ble_eq_true rfl) rfl ?_
  intro C hC hR
  refine x_iload_n (pc := 0) hC dJ0_checkIndex_df160_0 rfl rfl ?_
  refine x_iload_n (pc := 1) hC dJ0_checkIndex_df160_1 rfl rfl ?_
  refine x_gsF (pc := 2) hC dJ0_checkIndex_df160_2 (fun v hv => ?_)
  have hv3 : v.1 ≠ 3 := by
    rcases hv with rfl | ⟨t, rfl⟩
    · exact (show (2 : Nat) ≠ 3 by decide)
    · exact (show (8 : Nat) ≠ 3 by decide)
  refine x_cS (pc := 5) (st := []) hC ms_J0_1059 (ok_s_pre hn h hv3) rfl (Nat.le_of_ble_eq_true rfl) (jRo0 C) (Nat.le_of_ble_eq_true rfl) dJ0_checkIndex_df160_5 rfl ?_
  refine x_pop (pc := 8) hC dJ0_checkIndex_df160_8 (show (1 : Nat) ≠ 3 by decide) ?_
  exact x_vret (pc := 9) hC hR dJ0_checkIndex_df160_9 rfl
theorem j_sb : ∀ k : Nat, k < 58 → ∀ b ∈ jsB.getD k [], b < 128 := by
  intro k hk
  have : (List.range 58).all (fun k => (jsB.getD k []).all (fun b => b < 128)) = true := by decide +kernel
  have h1 := List.all_eq_true.mp this k (List.mem_range.mpr hk)
  intro b hb
  simpa using List.all_eq_true.mp h1 b hb
theorem j_sc {k : Nat} (hk : k < 58) (i : Int) : 0 ≤ jsch (k : Int) i ∧ jsch (k : Int) i < 128 := by
  unfold jsch
  rw [Int.toNat_natCast, List.getD_eq_getElem?_getD]
  cases h : (jsB.getD k [])[i.toNat]? with
  | none => simp
  | some b =>
    have := j_sb k hk b (List.mem_of_getElem? h)
    simp
    omega
theorem j_sln {k : Nat} (hk : k < 58) : 0 ≤ jsln (k : Int) ∧ jsln (k : Int) < 200 := by
  have : (List.range 58).all (fun k => (jsB.getD k []).length < 200) = true := by decide +kernel
  have h1 := List.all_eq_true.mp this k (List.mem_range.mpr hk)
  unfold jsln
  rw [Int.toNat_natCast]
  have h2 : (jsB.getD k []).length < 200 := by simpa using h1
  omega
theorem j_and255 {b : Int} (h0 : 0 ≤ b) (h1 : b < 128) : jnd b 255 = b := by
  have : ∀ q : Fin 128, jnd (q.val : Int) 255 = (q.val : Int) := by decide +kernel
  have := this ⟨b.toNat, by omega⟩
  simpa [show ((b.toNat : Nat) : Int) = b by omega] using this
theorem ok_s_lchar {X : jX} {n : Nat} (hn : 179 ≤ n) {k : Nat} (hk : k < 58) {i : Int} (h : 0 ≤ jw i ∧ jw i < jsln (k : Int)) {M : jM} : jCt X n yJ1_charAt_3b067 cJ1_charAt_3b067 2 (some .char) 2 [jB (k : Int), jI i] M (some (jI (jsch (k : Int) (jw i)))) M := by
  refine jCt_of (own := RJ1) (ls := [jB (k : Int), jI i]) (by decide +kernel) rfl hn (Nat.le_of_ble_eq_true rfl) rfl ?_
  intro C hC hR
  have hl := j_sln hk
  have hc := j_sc hk (jw i)
  refine x_iload_n (pc := 0) hC dJ1_charAt_3b067_0 rfl rfl ?_
  refine x_aload_n (pc := 1) hC dJ1_charAt_3b067_1 rfl rfl (show (7 : Nat) ≠ 0 by decide) rfl ?_
  refine x_salen (pc := 2) hC hk dJ1_charAt_3b067_2 ?_
  refine x_cS (pc := 3) (st := []) hC ms_J1_9 (ok_s_check hn ⟨h.1, by rw [jw_of (z := jsln (k : Int)) (by omega) (by omega)]; exact h.2⟩) rfl (Nat.le_of_ble_eq_true rfl) (jRo0 C) (Nat.le_of_ble_eq_true rfl) dJ1_charAt_3b067_3 rfl ?_
  refine x_aload_n (pc := 6) hC dJ1_charAt_3b067_6 rfl rfl (show (7 : Nat) ≠ 0 by decide) rfl ?_
  refine x_iload_n (pc := 7) hC dJ1_charAt_3b067_7 rfl rfl ?_
  refine x_sbald (pc := 8) hC hk h dJ1_charAt_3b067_8 ?_
  refine x_sipush (pc := 9) hC dJ1_charAt_3b067_9 rfl ?_
  refine x_iand (pc := 12) hC dJ1_charAt_3b067_12 ?_
  rw [j_and255 hc.1 hc.2]
  refine x_i2c (pc := 13) hC (by rw [jw_of (by omega) (by omega)]; omega) dJ1_charAt_3b067_13 ?_
  refine x_nret (pc := 14) hC hR dJ1_charAt_3b067_14 ?_ rfl rfl
  have h1 : (Int32.ofInt (jsch (k : Int) (jw i))).toInt = jsch (k : Int) (jw i) := by rw [j_toInt, jw_of (by omega) (by omega)]
  show Value.int _ = _
  rw [lg_i2c_small (by rw [h1]; omega) (by rw [h1]; omega)]
theorem ok_s_char {X : jX} {n : Nat} (hn : 179 ≤ n) {k : Nat} (hk : k < 58) {i : Int} (h : 0 ≤ jw i ∧ jw i < jsln (k : Int)) {M : jM} : jCt X n yJ0_charAt_5068e cJ0_charAt_5068e 2 (some .char) 3 [jS (k : Int), jI i] M (some (jI (jsch (k : Int) (jw i)))) M := by
  refine jCt_of (own := RJ0) (ls := [jS (k : Int), jI i]) (by decide +kernel) rfl hn (Nat.le_of_ble_eq_true rfl) rfl ?_
  intro C hC hR
  have hc := j_sc hk (jw i)
  refine x_aload_n (pc := 0) hC dJ0_charAt_5068e_0 rfl rfl (show (6 : Nat) ≠ 0 by decide) rfl ?_
  refine x_cVs (pc := 1) hC mv_J0_492 hk (ok_s_latin hn hk) rfl (Nat.le_of_ble_eq_true rfl) (jRo0 C) (Nat.le_of_ble_eq_true rfl) dJ0_charAt_5068e_1 rfl ?_
  refine x_if_eq (tgt := 16) (pc := 4) hC dJ0_charAt_5068e_4 (by decide) (fun hc => absurd hc (by decide)) (fun _ => ?_)
  refine x_aload_n (pc := 7) hC dJ0_charAt_5068e_7 rfl rfl (show (6 : Nat) ≠ 0 by decide) rfl ?_
  refine x_sgv (pc := 8) hC hk dJ0_charAt_5068e_8 ?_
  refine x_iload_n (pc := 11) hC dJ0_charAt_5068e_11 rfl rfl ?_
  refine x_cS (pc := 12) (st := []) hC ms_J0_495 (ok_s_lchar hn hk h) rfl (Nat.le_of_ble_eq_true rfl) (jRo0 C) (Nat.le_of_ble_eq_true rfl) dJ0_charAt_5068e_12 rfl ?_
  refine x_nret (pc := 15) hC hR dJ0_charAt_5068e_15 ?_ rfl rfl
  have h1 : (Int32.ofInt (jsch (k : Int) (jw i))).toInt = jsch (k : Int) (jw i) := by rw [j_toInt, jw_of (by omega) (by omega)]
  show Value.int _ = _
  rw [lg_i2c_small (by rw [h1]; omega) (by rw [h1]; omega)]
section JT2
variable {C : jC} {X : jX} {own : String} {cc : ByteArray} {n nL d kc ks pc : Nat} {ls st : List jV} {M : jM}
/-- a text's number stands for a constant -/
theorem x_slen (hC : jOk C X own cc nL n d) {idx : Nat} (ml : jMV own idx yJ0_length_8abf5 cJ0_length_8abf5 1 (some .int) "java/lang/String" 0) (hdd : 2 ≤ d) (hro : jRo C kc ks) (hw : jCat st ≤ 8) {q : Int} (hq : 0 ≤ q ∧ q < 58) (hd : decode cc pc = .ok (.invokevirtual idx, 3)) (k : jG C X n nL kc ks (pc + 3) ls (jI (jsln q) :: st) M) : jG C X n nL kc ks pc ls (jS q :: st) M := by
  obtain ⟨k0, rfl⟩ : ∃ k0 : Nat, q = (k0 : Int) := ⟨q.toNat, by omega⟩
  have hn : 179 ≤ n := by obtain ⟨p, l, e, R, s, m, args, below, meth, c, Q⟩ := C; exact hC.2.2.2.2.2.2.1
  refine x_cVs (st := st) hC ml (q := k0) (by omega) (ok_s_length hn (by omega)) rfl hdd hro hw hd rfl ?_
  obtain ⟨p, l, e, R, s, m, args, below, meth, c, Q⟩ := C
  intro H locs la hH hS hL
  have h2 := k H locs la hH hS hL
  rw [List.map_cons, jcv_i, ← j_sr0] at h2
  exact h2
theorem x_schr (hC : jOk C X own cc nL n d) {idx : Nat} (ml : jMV own idx yJ0_charAt_5068e cJ0_charAt_5068e 2 (some .char) "java/lang/String" 1) (hdd : 4 ≤ d) (hro : jRo C kc ks) (hw : jCat st ≤ 8) {q i : Int} (hq : 0 ≤ q ∧ q < 58) (hi : 0 ≤ jw i ∧ jw i < jsln q) (hd : decode cc pc = .ok (.invokevirtual idx, 3)) (k : jG C X n nL kc ks (pc + 3) ls (jI (jsch q (jw i)) :: st) M) : jG C X n nL kc ks pc ls (jI i :: jS q :: st) M := by
  obtain ⟨k0, rfl⟩ : ∃ k0 : Nat, q = (k0 : Int) := ⟨q.toNat, by omega⟩
  have hn : 179 ≤ n := by obtain ⟨p, l, e, R, s, m, args, below, meth, c, Q⟩ := C; exact hC.2.2.2.2.2.2.1
  exact x_cVs (st := st) hC ml (q := k0) (by omega) (ok_s_char hn (by omega) hi) rfl hdd hro hw hd rfl k
end JT2
