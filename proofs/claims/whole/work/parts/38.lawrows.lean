/-! ===== rows for the law's main method ===== -/
def jSc (C : jC) (X : jX) : Prop := match C with
  | (_, _, _, _, s, _, _, _, _, _, _) => va_X (jXs X).1 (jXs X).2.1 (jXs X).2.2 s s.heap ∧ (jXs X).1 < s.heap.size ∧ (jXs X).1 < jXB X
def jNs (C : jC) : Prop := match C with
  | (_, _, _, _, s, _, _, _, _, _, _) => jNcs s
def jsx (X : jX) (i : Int) : Int := ((jXs X).2.2 i.toNat).toInt
def jMW (own : String) (idx : Nat) (y : MethodName) (cc : ByteArray) (maxL : Nat) (hh : jHh) (na : Nat) : Prop :=
  Cond.methodLink own idx y ∈ jTB ∧ Cond.static y ∈ jTB ∧ Cond.initialized y.cls ∈ jTB ∧ Cond.codeWith y cc maxL (some .int) hh ∈ jTB ∧
  (y.cls ≠ "java/lang/invoke/MethodHandle" ∧ y.cls ≠ "java/lang/invoke/VarHandle" ∧ (parseMethodDescriptor y.desc).map (fun d => d.parameters.length) = some na) ∧ maxL ≤ 81
section JLW
variable {C : jC} {X : jX} {own : String} {cc : ByteArray} {n n0 nL d mc ms kc ks pc : Nat} {ls st : List jV} {M : jM}
theorem x_sald (hC : jOk C X own cc nL n d) (hSc : jSc C X) {i : Int} (hi : 0 ≤ jw i ∧ jw i < ((jXs X).2.1 : Nat)) (hd : decode cc pc = .ok (.iaload, 1)) (k : jG C X n nL kc ks (pc + 1) ls (jI (jsx X (jw i)) :: st) M) : jG C X n nL kc ks pc ls (jI i :: (4, 0) :: st) M := by
  obtain ⟨p, l, e, R, s, m, args, below, meth, c, Q⟩ := C
  obtain ⟨hx, hb, -⟩ := hC
  obtain ⟨s1, s2, s3⟩ := hSc
  intro H locs la hH hS hL
  have h2 := k H locs la hH hS hL
  have hv := j_vin (i := i) (l := ((jXs X).2.1 : Nat)) hi.1 hi.2
  rw [Int.toNat_natCast] at hv
  refine va_sld hx hb s1 s2 (fun h => by have : jXB X ≤ (jXs X).1 := h; omega) hS hv hd ?_
  rw [j_nc]
  have e9 : jcv X (jI (jsx X (jw i))) = .int ((jXs X).2.2 (jw i).toNat) := by
    rw [jcv_i]
    unfold jsx
    rw [Int32.ofInt_toInt]
  rw [List.map_cons, e9] at h2
  exact h2
theorem x_scln (hC : jOk C X own cc nL n d) (hSc : jSc C X) (hd : decode cc pc = .ok (.arraylength, 1)) (k : jG C X n nL kc ks (pc + 1) ls (jI ((jXs X).2.1 : Nat) :: st) M) : jG C X n nL kc ks pc ls ((4, 0) :: st) M := by
  obtain ⟨p, l, e, R, s, m, args, below, meth, c, Q⟩ := C
  obtain ⟨hx, hb, -⟩ := hC
  obtain ⟨s1, s2, s3⟩ := hSc
  intro H locs la hH hS hL
  have h2 := k H locs la hH hS hL
  refine va_slen hx hb s1 s2 (fun h => by have : jXB X ≤ (jXs X).1 := h; omega) hS hd ?_
  have e9 : jcv X (jI ((jXs X).2.1 : Nat)) = .int (Int32.ofNat (jXs X).2.1) := by
    rw [jcv_i]
    rfl
  rw [List.map_cons, e9] at h2
  exact h2
theorem x_widen {kc2 ks2 : Nat} (h1 : kc ≤ kc2) (h2 : ks ≤ ks2) (k : jG C X n nL kc2 ks2 pc ls st M) : jG C X n nL kc ks pc ls st M := by
  obtain ⟨p, l, e, R, s, m, args, below, meth, c, Q⟩ := C
  intro H locs la hH hS hL
  exact W.widen h1 h2 (k H locs la hH hS hL)
theorem x_cSW (hC : jOk C X own cc nL n d) (hNs : jNs C) {idx : Nat} {y : MethodName} {cc' : ByteArray} {maxL : Nat} {hh : jHh} {d' na mc' : Nat} (ml : jMW own idx y cc' maxL hh na) {av : List jV} {rv : Int} {M1 : jM} (ct : jCw X n y cc' maxL hh d' mc' av M rv M1) (hav : av.length = na) (hdd : d' + 1 ≤ d) (hro : jRo C (kc + mc') (ks + 6 * mc')) (hw : jCat st ≤ 8) (hd : decode cc pc = .ok (.invokestatic idx, 3)) {stk : List jV} (hs : stk = av.reverse ++ st) {kc2 ks2 : Nat} (h2c : kc + mc' = kc2) (h2s : ks + 6 * mc' = ks2) (k : jG C X n nL kc2 ks2 (pc + 3) ls (jI rv :: st) M1) : jG C X n nL kc ks pc ls stk M := by
  subst hs h2c h2s
  obtain ⟨p, l, e, R, s, m, args, below, meth, c, Q⟩ := C
  obtain ⟨hx, hb, hml, hown, hts, hO, hn, hfr, hlo, hlk, hB, rfl⟩ := hC
  obtain ⟨hlink, hstat, hini, hcode, hdesc, hm⟩ := ml
  intro H locs la hH hS hL
  have hpre : PreS s H (jPw X n av M) (av.map (jcv X)) := ⟨jPw_blind X n _ M, fun U hU hW => ⟨rfl, j_in hO hH hB hS hU hW, hNs.moved hW.alike⟩⟩
  have hG : GoodIn jTB (va_wsS own idx y (.codeWith y cc' maxL (some .int) hh :: jTB)) := by
    intro w hw
    unfold va_wsS at hw
    rcases List.mem_append.mp hw with h | h
    · simp only [List.mem_cons, List.not_mem_nil, or_false] at h
      rcases h with rfl | rfl | rfl
      · exact jTB_good _ hlink
      · exact jTB_good _ hstat
      · exact jTB_good _ hini
    · exact (List.mem_cons.mp h).elim (fun q => by rw [q]; exact jTB_good _ hcode) (jTB_good w)
  have hRm : (jRm d' mc' (6 * mc')).frames + 1 ≤ R.frames ∧ 8 + (maxL + 11) + (jRm d' mc' (6 * mc')).locals ≤ R.locals := by
    show d' + 1 ≤ R.frames ∧ 8 + (maxL + 11) + 100 * d' ≤ R.locals
    omega
  have hstk : (F0 m pc la ((av.reverse ++ st).map (jcv X))).stack = (av.map (jcv X)).reverse ++ st.map (jcv X) := by
    show (av.reverse ++ st).map (jcv X) = _
    rw [List.map_append, List.map_reverse]
  have hW8 : 2 * (F0 m pc la ((av.reverse ++ st).map (jcv X))).monitorRoom + ((st.map (jcv X)).map fun v => v.category).sum ≤ 8 := by
    rw [jCat_eq]
    show 2 * 0 + _ ≤ 8
    omega
  have hrun : va_Run p (jXl X) e R s m args below meth c H locs kc ks mc' (6 * mc') (F0 m pc la ((av.reverse ++ st).map (jcv X))) (st.map (jcv X)) (jQc X n (some (jI rv)) M1 (av.map (jcv X)).toArray) (jAd X) :=
    vx_runSW (nL := nL) (own := own) ⟨hx, hb, hml, hown, hts⟩ ct (vx_cwSW na hts hG rfl rfl rfl hdesc hRm) hpre rfl (by rw [List.length_map]; exact hav) hL.1 hstk hW8 hd hro
  exact j_after hrun hS (fun H1 locs1 hH1 hS1 => k H1 locs1 la hH1 hS1 hL)
theorem k_ctorD (hC : jOc C X own cc nL n0 d mc ms) {idx : Nat} {y : MethodName} {cc' : ByteArray} {maxL d' na mc' ms' : Nat} (mi : jMI own idx y cc' maxL na) {a : Int} {av : List jV} {M1 : jM} (ct : jCd X (n0 + kc) y cc' maxL d' mc' ms' (jA a :: av) M M1) (ha1 : 1 ≤ a) (hav : av.length = na) (hdd : d' + 1 ≤ d) (hkc : kc + mc' ≤ mc) (hks : ks + ms' ≤ ms) (hw : jCat st ≤ 8) (hd : decode cc pc = .ok (.invokespecial idx, 3)) {stk : List jV} (hs : stk = av.reverse ++ jA a :: st) {kc2 ks2 : Nat} (h2c : kc + mc' = kc2) (h2s : ks + ms' = ks2) {n : Nat} (hn : n0 + kc + mc' = n) (k : jG C X n nL kc2 ks2 (pc + 3) ls st M1) : jK C X n0 nL kc ks pc ls stk M := by
  subst hs h2c h2s hn
  obtain ⟨p, l, e, R, s, m, args, below, meth, c, Q⟩ := C
  obtain ⟨hx, hb, hml, hown, hts, hO, hsz, hfr, hlo, hlk, rfl, hao, hmc, hms⟩ := hC
  obtain ⟨hlink, hinst, hini, hcode, hdesc, hm, hnm⟩ := mi
  intro H locs la hH hS hL Tt hT XX
  have hH0 := jK_size XX hT hsz hH hS
  have hpre : PreS s H (jPcc X (n0 + kc) (jA a :: av) M) (.ref (jXB X + a.toNat - 1) :: av.map (jcv X)) := ⟨jPcc_blind X _ _ M, fun U hU hW => ⟨by rw [List.map_cons, jcv_p X ha1], by rw [hU]; exact (hO.kept hS.2.1).warm hW, by rw [hU]; exact hH, by rw [hU]; exact hH0, hao.moved hW.alike⟩⟩
  have hG : GoodIn jTB (.code y cc' maxL none :: jTB) := fun w hw => (List.mem_cons.mp hw).elim (fun q => by rw [q]; exact jTB_good _ hcode) (jTB_good w)
  have hRm : (jRm d' mc' ms').frames + 1 ≤ R.frames ∧ 8 + (maxL + 11) + (jRm d' mc' ms').locals ≤ R.locals := by
    show d' + 1 ≤ R.frames ∧ 8 + (maxL + 11) + 100 * d' ≤ R.locals
    omega
  have hstk : (F0 m pc la ((av.reverse ++ jA a :: st).map (jcv X))).stack = (av.map (jcv X)).reverse ++ .ref (jXB X + a.toNat - 1) :: st.map (jcv X) := by
    show (av.reverse ++ jA a :: st).map (jcv X) = _
    rw [List.map_append, List.map_cons, jcv_p X ha1, List.map_reverse]
  have hW8 : 2 * (F0 m pc la ((av.reverse ++ jA a :: st).map (jcv X))).monitorRoom + ((st.map (jcv X)).map fun v => v.category).sum ≤ 8 := by
    rw [jCat_eq]
    show 2 * 0 + _ ≤ 8
    omega
  have hrun : va_Run p (jXl X) e R s m args below meth c H locs kc ks mc' ms' (F0 m pc la ((av.reverse ++ jA a :: st).map (jcv X))) (st.map (jcv X)) (jQc X (n0 + kc + mc') none M1 (Value.ref (jXB X + a.toNat - 1) :: av.map (jcv X)).toArray) (jAd X) := by
    rcases hlink with h | ⟨host, h⟩
    · exact va_runI (nL := nL) (own := own) ⟨hx, hb, hml, hown, hts⟩ ct ⟨callB_of na hts hG rfl rfl rfl (hts _ hini) (hts _ h) hdesc hRm, hnm, hts _ hinst⟩ hpre rfl (by rw [List.length_map]; exact hav) hL.1 hstk hW8 hd ⟨by omega, by omega⟩
    · exact va_runIN (nL := nL) (own := own) ⟨hx, hb, hml, hown, hts⟩ ct ⟨va_cnB na hts hG rfl rfl rfl (hO.2.1 _ h) (hts _ hini) hdesc hRm, hnm, hts _ hinst⟩ hpre rfl (by rw [List.length_map]; exact hav) hL.1 hstk hW8 hd ⟨by omega, by omega⟩
  obtain ⟨v, st₀, t, T', L, h0, X', hL', e1, e2, ⟨hv, hH1, hz, hk⟩, stp⟩ := hrun Tt hT XX
  cases hv
  rw [h0] at hz hk
  obtain ⟨t2, a1, b1⟩ := k T'.heap (locs ++ L) la (by rw [e1]; exact hH1)
    ⟨Nat.le_trans hS.1 (by rw [e1]; exact hz), fun q h1 h2 => by rw [e1, hk q (Nat.lt_of_lt_of_le h1 hS.1) h2]; exact hS.2.1 q h1 h2, fun q hq => by
      rcases List.mem_append.mp hq with h | h
      · exact hS.2.2 q h
      · exact hL' q h⟩ hL T' rfl X'
  exact ⟨t2, stp t2 a1, b1⟩
end JLW
