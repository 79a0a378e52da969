/-! ===== methods that throw ===== -/
def jen (c : Int) : String := if c = 1 then "java/lang/IllegalArgumentException" else if c = 2 then "java/lang/IndexOutOfBoundsException" else if c = 3 then "java/util/NoSuchElementException" else "java/lang/IllegalStateException"
abbrev jnms : List String := ["java/lang/RuntimeException", "java/lang/Exception"]
def jQcT (X : jX) (n : Nat) (code : Int) (rv : Option jV) (M' : jM) : Array Value → State → Outcome → State → Prop := fun a st o t => code = 0 ∧ jQc X n rv M' a st o t
def jXcT (X : jX) (n : Nat) (code : Int) (M' : jM) : String → State → State → Prop := fun E st t => code ≠ 0 ∧ E = jen code ∧ jH X n M' t.heap ∧ va_F (jAd X) st t
/-- a contract that answers (code 0) or throws -/
def jCtT (X : jX) (n : Nat) (y : MethodName) (cc : ByteArray) (maxL : Nat) (ret : Option FieldType) (d mc : Nat) (av : List jV) (M : jM) (code : Int) (rv : Option jV) (M' : jM) : Prop :=
  vx_Met (jXl X) y (.code y cc maxL ret :: jTB) (jRm d mc (6 * mc)) (jPc X n av M) (jQcT X n code rv M') (jXcT X n code M') mc (6 * mc) (jAd X)
def jRetT (C : jC) (X : jX) (n : Nat) (ret : Option FieldType) (mc : Nat) (code : Int) (rv : Option jV) (M' : jM) : Prop := match C with
  | (_, _, _, R, s, _, args, below, meth, c, Q) => Q = vx_MQ below (jQcT X n code rv M') (jXcT X n code M') args s mc (6 * mc) (jAd X) ∧ meth.sig.returnType = ret ∧ (∀ x ∈ c.exceptionTable.toList, False) ∧ R.cells = mc ∧ R.slots = 6 * mc
theorem jCtT_of {X : jX} {n : Nat} {y : MethodName} {cc : ByteArray} {maxL : Nat} {ret : Option FieldType} {d mc : Nat} {av ls : List jV} {M : jM} {code : Int} {rv : Option jV} {M' : jM} {own : String} (hy : plainName y.cls = true) (hown : y.cls = own) (hn : 179 ≤ n) (hl : (jfl av).length ≤ maxL) (hls : jfl av ++ List.replicate (maxL - (jfl av).length) jN = ls)
    (body : ∀ C : jC, jOk C X own cc maxL n d → jRetT C X n ret mc code rv M' → jG C X n maxL 0 0 0 ls [] M) : jCtT X n y cc maxL ret d mc av M code rv M' := by
  refine vx_ofW (cc := cc) (maxL := maxL) (ret := ret) hy rfl ?_
  intro p e s m args below meth c s₁ B hml htab hv
  obtain ⟨rfl, hO, hH, hB⟩ := hv
  have hts := atoms_spec (ws := .code y cc maxL ret :: jTB) B.pre
  have hk := body (p, jXl X, e, (headSpec (.code y cc maxL ret :: jTB) (jRm d mc (6 * mc))).room, s, m, (av.map (jcv X)).toArray, below, meth, c, vx_MQ below (jQcT X n code rv M') (jXcT X n code M') (av.map (jcv X)).toArray s mc (6 * mc) (jAd X))
    ⟨B.exec, B.bytes, hml, by rw [← hown]; exact findClass_of_methodNamed B.named, fun w hw => hts w (List.mem_cons_of_mem _ hw), hO, hn, Nat.le_refl _, Nat.le_refl _, B.notSynchronized, hB, rfl⟩ ⟨rfl, B.returns, htab, rfl, rfl⟩
  rw [lg_entry_eq]
  refine hk s.heap [] _ hH ⟨Nat.le_refl _, fun _ _ _ => rfl, fun _ h => by cases h⟩ ?_
  have hlen : (lg_sl (av.map (jcv X))).length ≤ maxL := by rw [jfl_len]; exact hl
  have h := lv_entry (av.map (jcv X)) (n := maxL) hlen
  exact ⟨h.1, h.2.1, fun q hq => h.2.2 q (jfl_args X av 0 q (jal_pad X _ _ 0 q (by rw [hls]; exact hq)))⟩
theorem jRoT {C : jC} {X : jX} {n : Nat} {ret : Option FieldType} {mc : Nat} {code : Int} {rv : Option jV} {M' : jM} (hR : jRetT C X n ret mc code rv M') {kc ks : Nat} (h1 : kc ≤ mc) (h2 : ks ≤ 6 * mc) : jRo C kc ks := by
  obtain ⟨p, l, e, R, s, m, args, below, meth, c, Q⟩ := C
  obtain ⟨-, -, -, e1, e2⟩ := hR
  exact ⟨by show kc ≤ R.cells; omega, by show ks ≤ R.slots; omega⟩
/-- what a throw of this class's file needs -/
def jEX (own : String) (ik ic : Nat) (code : Int) : Prop := code ≠ 0 ∧ Bundle.fit (jen code) = true ∧ Cond.classLink own ik (jen code) ∈ jTB ∧ Cond.initialized (jen code) ∈ jTB ∧ (∀ w ∈ vx_atS own ic (jen code) jnms, w ∈ jTB ∨ (w ∈ jNB ∧ w.onTables = true)) ∧
  ∀ w ∈ Cond.classLink own ik (jen code) :: Cond.initialized (jen code) :: vx_atS own ic (jen code) jnms, vx_ot w = true
theorem jnms_fit : ∀ n ∈ jnms, Bundle.fit n = true := by decide +kernel
section JX
variable {C : jC} {X : jX} {own : String} {cc : ByteArray} {n nL d kc ks pc : Nat} {ls st : List jV} {M : jM}
theorem x_throw (hC : jOk C X own cc nL n d) {ret : Option FieldType} {mc : Nat} {code cz : Int} {rv : Option jV} {M' : jM} (hR : jRetT C X n ret mc cz rv M') {ik is ic k : Nat} (ex : jEX own ik ic code) (sr : jSR own is k) (hdd : 6 ≤ d) (hw : jCat st ≤ 8) (hkc : kc + 1 ≤ mc) (hks : ks + 6 ≤ 6 * mc)
    (d0 : decode cc pc = .ok (.new ik, 3)) (d3 : decode cc (pc + 3) = .ok (.dup, 1)) (d4 : decode cc (pc + 4) = .ok (.ldc is, 2)) (d6 : decode cc (pc + 6) = .ok (.invokespecial ic, 3)) (d9 : decode cc (pc + 9) = .ok (.athrow, 1)) (hc : code = cz) (hM : M = M') : jG C X n nL kc ks pc ls st M := by
  subst hc hM
  obtain ⟨p, l, e, R, s, m, args, below, meth, c, Q⟩ := C
  obtain ⟨hx, hb, hml, hown, hts, hO, hn, hfr, hlo, hlk, hB, rfl⟩ := hC
  obtain ⟨rfl, hr, htab, hrc, hrs⟩ := hR
  obtain ⟨hc0, hfit, hcl, hini, hat, hgood⟩ := ex
  obtain ⟨h58, ho, hi⟩ := sr
  intro H locs la hH hS hL
  have hstr := (hO.2.2.2.1 k h58).1
  rw [ho, hi] at hstr
  refine vx_throwS (names := jnms) (ik := ik) (is := is) (ic := ic) (sa := jXk X k) (A := jAd X) hx hb hO.2.2.2.2.1 hown hfit jnms_fit (hts _ hcl) (hts _ hini) hstr (fun w h => (hat w h).elim (fun q => hts w q) (fun q => va_Nw.use q.2 (hO.2.1 w q.1))) hgood hO.2.2.2.2.2.2.2.1 hO.2.2.2.2.2.2.2.2 hS (by rw [hml]; exact hL.1) d0 d3 d4 d6 d9 (fun x h => (htab x h).elim) ?_ ?_ (by omega) (by omega) hlk (fun t hW hsz hk => ?_) hS.2.2 hkc hks
  · show 2 + 3 < R.frames
    omega
  · rw [jCat_eq]
    show _ + (13 * (2 + 1) + 43) ≤ R.locals
    omega
  · refine ⟨hc0, rfl, ⟨hH.1.kept (fun q x hq => hk x.1 ((hH.1 q x hq).lt)), hH.2⟩, Nat.le_trans hS.1 hsz, fun q h1 h2 => ?_⟩
    rw [hk q (Nat.lt_of_lt_of_le h1 hS.1)]
    exact hS.2.1 q h1 h2
theorem x_iretT (hC : jOk C X own cc nL n d) {mc : Nat} {z v code : Int} {M' : jM} (hR : jRetT C X n (some .int) mc code (some (jI v)) M') (hd : decode cc pc = .ok (.ireturn, 1)) (hkc : kc ≤ mc) (hks : ks ≤ 6 * mc) (hc : 0 = code) (hz : z = v) (hM : M = M') : jG C X n nL kc ks pc ls [jI z] M := by
  subst hz hM hc
  obtain ⟨p, l, e, R, s, m, args, below, meth, c, Q⟩ := C
  obtain ⟨hx, hb, hml, hown, hts, hO, hn, hfr, hlo, hlk, hB, rfl⟩ := hC
  obtain ⟨rfl, hr, -⟩ := hR
  intro H locs la hH hS hL
  exact W.widen hkc hks (vx_ret (W.iret (v := Int32.ofInt z) hx hb hr (fun t ht hW => ⟨rfl, rfl, by rw [ht]; exact hH, hS.F ht⟩) hS.2.2 hd hlk))
theorem x_zretT (hC : jOk C X own cc nL n d) {mc : Nat} {z v code : Int} {M' : jM} (hR : jRetT C X n (some .boolean) mc code (some (jI v)) M') (hd : decode cc pc = .ok (.ireturn, 1)) (hkc : kc ≤ mc) (hks : ks ≤ 6 * mc) (h01 : jw z = 0 ∨ jw z = 1) (hc : 0 = code) (hz : z = v) (hM : M = M') : jG C X n nL kc ks pc ls [jI z] M := by
  subst hz hM hc
  obtain ⟨p, l, e, R, s, m, args, below, meth, c, Q⟩ := C
  obtain ⟨hx, hb, hml, hown, hts, hO, hn, hfr, hlo, hlk, hB, rfl⟩ := hC
  obtain ⟨rfl, hr, -⟩ := hR
  intro H locs la hH hS hL
  have h1 : Int32.ofInt z = 0 ∨ Int32.ofInt z = 1 := by
    rcases h01 with q | q
    · exact Or.inl (j_eq0.mpr q)
    · exact Or.inr ((j_eq (a := z) (b := 1)).mpr (by rw [q]; decide))
  exact W.widen hkc hks (vx_ret (W.zret (v := Int32.ofInt z) (ty := .boolean) hx hb hr (by rcases h1 with q | q <;> rw [q] <;> decide) (fun t ht hW => ⟨rfl, rfl, by rw [ht]; exact hH, hS.F ht⟩) hS.2.2 hd hlk))
theorem x_vretT (hC : jOk C X own cc nL n d) {mc : Nat} {code : Int} {M' : jM} (hR : jRetT C X n none mc code none M') (hd : decode cc pc = .ok (.return_, 1)) (hkc : kc ≤ mc) (hks : ks ≤ 6 * mc) (hc : 0 = code) (hM : M = M') : jG C X n nL kc ks pc ls [] M := by
  subst hM hc
  obtain ⟨p, l, e, R, s, m, args, below, meth, c, Q⟩ := C
  obtain ⟨hx, hb, hml, hown, hts, hO, hn, hfr, hlo, hlk, hB, rfl⟩ := hC
  obtain ⟨rfl, hr, -⟩ := hR
  intro H locs la hH hS hL
  exact W.widen hkc hks (vx_ret (W.vret hx hb hr (fun t ht hW => ⟨rfl, rfl, by rw [ht]; exact hH, hS.F ht⟩) hS.2.2 hd hlk))
/-- a call of a method that may throw, out of one that lets it go on -/
theorem x_cVT (hC : jOk C X own cc nL n d) {ret0 : Option FieldType} {mc : Nat} {cz : Int} {rv0 : Option jV} {M' : jM} (hR : jRetT C X n ret0 mc cz rv0 M') {idx : Nat} {y : MethodName} {cc' : ByteArray} {maxL : Nat} {ret : Option FieldType} {d' na ci N mc' : Nat} {Cn : String} {T : u_T} (ml : jMV own idx y cc' maxL ret Cn na) (hpl : Cond.methodLink own idx y ∈ jTB) {a : Int} {av : List jV} {code : Int} {rv : Option jV} {M1 : jM} (ct : jCtT X n y cc' maxL ret d' mc' (jA a :: av) M code rv M1) (hav : av.length = na) (hdd : d' + 1 ≤ d) (hk : jkd a = ci) (hcl : vwCl[ci]? = some (Cn, T, N)) (h11 : ci < 11) (hkc : kc + mc' ≤ mc) (hks : ks + 6 * mc' ≤ 6 * mc) (hw : jCat st ≤ 8) (hd : decode cc pc = .ok (.invokevirtual idx, 3)) {stk : List jV} (hs : stk = av.reverse ++ jA a :: st) (kx : code ≠ 0 → code = cz ∧ M1 = M') {kc2 ks2 : Nat} (h2c : kc + mc' = kc2) (h2s : ks + 6 * mc' = ks2) (k : code = 0 → jG C X n nL kc2 ks2 (pc + 3) ls (rv.toList ++ st) M1) : jG C X n nL kc ks pc ls stk M := by
  subst hs h2c h2s
  obtain ⟨p, l, e, R, s, m, args, below, meth, c, Q⟩ := C
  obtain ⟨hx, hb, hml, hown, hts, hO, hn, hfr, hlo, hlk, hB, rfl⟩ := hC
  obtain ⟨rfl, hr, htab, hrc, hrs⟩ := hR
  obtain ⟨hlink, hinst, hsel, hini, hcode, hdesc, hm⟩ := ml
  obtain ⟨ha1, ha2⟩ := jk179 hk (by omega) (by omega)
  intro H locs la hH hS hL
  have hE : jE X M a = .inr (ci, (List.range (jln a).toNat).map (fun j => jfv X (jft ci j) (M a (j : Int)))) := jE_o hk h11
  have he := jws_get (X := X) (n := n) (M := M) ha1 (by omega)
  rw [hE] at he
  have hrecv := va_recv hO.1 hH.1 hcl he
  have hpre : PreV s H Cn (jXB X + a.toNat - 1) (jPc X n (jA a :: av) M) (av.map (jcv X)) := ⟨jPc_blind X n _ M, hrecv, fun U hU hW => ⟨by rw [List.map_cons, jcv_p X ha1], j_in hO hH hB hS hU hW⟩⟩
  have hG : GoodIn jTB (.code y cc' maxL ret :: jTB) := fun w hw => (List.mem_cons.mp hw).elim (fun q => by rw [q]; exact jTB_good _ hcode) (jTB_good w)
  have hRm : (jRm d' mc' (6 * mc')).frames + 1 ≤ R.frames ∧ 8 + (maxL + 11) + (jRm d' mc' (6 * mc')).locals ≤ R.locals := by
    show d' + 1 ≤ R.frames ∧ 8 + (maxL + 11) + 100 * d' ≤ R.locals
    omega
  have hstk : (F0 m pc la ((av.reverse ++ jA a :: st).map (jcv X))).stack = (av.map (jcv X)).reverse ++ .ref (jXB X + a.toNat - 1) :: st.map (jcv X) := by
    show (av.reverse ++ jA a :: st).map (jcv X) = _
    rw [List.map_append, List.map_cons, jcv_p X ha1, List.map_reverse]
  have hW8 : 2 * (F0 m pc la ((av.reverse ++ jA a :: st).map (jcv X))).monitorRoom + ((st.map (jcv X)).map fun v => v.category).sum ≤ 8 := by
    rw [jCat_eq]
    show 2 * 0 + _ ≤ 8
    omega
  have hrun : vx_Run p (jXl X) e R s m args below meth c H locs kc ks mc' (6 * mc') (F0 m pc la ((av.reverse ++ jA a :: st).map (jcv X))) (st.map (jcv X)) (jQcT X n code rv M1 (Value.ref (jXB X + a.toNat - 1) :: av.map (jcv X)).toArray) (jXcT X n code M1) (jAd X) := by
    exact vx_runV (nL := nL) (own := own) (C := Cn) ⟨hx, hb, hml, hown, hts⟩ ct ⟨callB_of na hts hG rfl rfl rfl (hts _ hini) (hts _ hpl) hdesc hRm, hts _ hinst, hts _ hsel⟩ hpre rfl (by rw [List.length_map]; exact hav) hL.1 hstk hW8 hd ⟨by omega, by omega⟩
  intro T0 hT X0
  rcases hrun T0 hT X0 with ⟨v, st₀, t, T', L, h0, X', hL', e1, e2, ⟨hcd, hv, hH1, hF⟩, stp⟩ | ⟨q, st₀, t, T', L, E, ce, h0, X', hL', e1, e2, ⟨hcd, hEn, hH1, hF⟩, hce, hcv, hcl9, stp⟩
  · cases hv
    obtain ⟨k1, k2, k3⟩ := vx_keep h0 e1 hS (fun _ _ h => h) (fun _ h => h) hL' hF
    obtain ⟨t2, a1, b1⟩ := k hcd T'.heap (locs ++ L) la (by rw [e1]; exact hH1) k3 hL T' rfl X'
    refine ⟨t2, stp t2 ?_, b1⟩
    have : (rv.map (jcv X)).toList ++ st.map (jcv X) = (rv.toList ++ st).map (jcv X) := by cases rv <;> simp
    rw [this]
    exact a1
  · obtain ⟨k1, k2, k3⟩ := vx_keep h0 e1 hS (fun _ _ h => h) (fun _ h => h) hL' hF
    obtain ⟨rfl, rfl⟩ := kx hcd
    subst hEn
    have hout : vx_W p (jXl X) e R s m args below meth c T'.heap (locs ++ L) (kc + mc') (ks + 6 * mc') (vx_MQ below (jQcT X n code rv0 M1) (jXcT X n code M1) args s mc (6 * mc) (jAd X)) (F0 m pc la (st.map (jcv X))) q :=
      vx_out (fun x h => (htab x h).elim) hlk (by rw [e1]; exact hce) hcv hcl9 (fun t9 ht9 hW9 => ⟨hcd, rfl, by rw [ht9, e1]; exact hH1, by rw [ht9]; exact k3.1, fun q h1 h2 => by rw [ht9]; exact k3.2.1 q h1 h2⟩) k3.2.2 hkc hks
    obtain ⟨t2, a1, b1⟩ := hout T' rfl X'
    exact ⟨t2, stp.trans a1, b1⟩
end JX
