/-! ===== methods that catch ===== -/
def jNcs (U : State) : Prop := ∀ a ∈ [(1 : Int), 2, 3, 4], ∀ b ∈ [(1 : Int), 2, 3, 4], a ≠ b → va_Nc (jen a) (jen b) U
theorem jNcs.moved {s U : State} (h : s.vm.Alike U.vm) (ha : jNcs s) : jNcs U := fun a h1 b h2 h3 => (ha a h1 b h2 h3).moved h
def jPw (X : jX) (n : Nat) (av : List jV) (M : jM) : Array Value → State → Prop := fun a U => a = (av.map (jcv X)).toArray ∧ jUs X n M U ∧ jNcs U
theorem jPw_blind (X : jX) (n : Nat) (av : List jV) (M : jM) : FrameBlind (jPw X n av M) := by
  intro a U g mk h
  exact ⟨h.1, ⟨h.2.1.1.calling g mk a, h.2.1.2.1, h.2.1.2.2⟩, h.2.2.moved (s := U) (U := U.calling g mk a) (Vm.Alike.refl U.vm)⟩
abbrev jHh : Type := List (Nat × Nat × Nat × Nat)
def jCw (X : jX) (n : Nat) (y : MethodName) (cc : ByteArray) (maxL : Nat) (hh : jHh) (d mc : Nat) (av : List jV) (M : jM) (rv : Int) (M' : jM) : Prop :=
  Met (jXl X) y (.codeWith y cc maxL (some .int) hh :: jTB) (jRm d mc (6 * mc)) (jPw X n av M) (jQc X n (some (jI rv)) M') mc (6 * mc) (jAd X)
def jRtw (C : jC) (X : jX) (n mc : Nat) (hh : jHh) (rv : Int) (M' : jM) : Prop := match C with
  | (_, _, _, R, s, _, args, below, meth, c, Q) => Q = MQ below (jQc X n (some (jI rv)) M') args s mc (6 * mc) (jAd X) ∧ meth.sig.returnType = some .int ∧ R.cells = mc ∧ R.slots = 6 * mc ∧ jNcs s ∧ c.exceptionTable.toList.map (fun h => (h.startPc, h.endPc, h.handlerPc, h.catchType)) = hh
theorem jCw_of {X : jX} {n : Nat} {y : MethodName} {cc : ByteArray} {maxL : Nat} {hh : jHh} {d mc : Nat} {av ls : List jV} {M : jM} {rv : Int} {M' : jM} {own : String} (hy : plainName y.cls = true) (hown : y.cls = own) (hn : 179 ≤ n) (hl : (jfl av).length ≤ maxL) (hls : jfl av ++ List.replicate (maxL - (jfl av).length) jN = ls)
    (body : ∀ C : jC, jOk C X own cc maxL n d → jRtw C X n mc hh rv M' → jG C X n maxL 0 0 0 ls [] M) : jCw X n y cc maxL hh d mc av M rv M' := by
  refine va_MetW (cc := cc) (maxL := maxL) (ret := some .int) (hh := hh) hy rfl ?_
  intro p e s m args below meth c s₁ B hml hv
  obtain ⟨rfl, ⟨hO, hH, hB⟩, hN⟩ := hv
  have hts := atoms_spec (ws := .codeWith y cc maxL (some .int) hh :: jTB) B.pre
  obtain ⟨m9, meth9, c9, hn9, h1, h2, h3, h4, h5, h6, h7, -⟩ := Cond.codeWith_spec (hts _ List.mem_cons_self)
  have hmc : meth.code = some c := by
    have q := B.here.code
    rw [State.code?_eq, B.method₁] at q
    exact q
  have e1 : m9 = m := Option.some.inj (hn9.symm.trans B.named)
  rw [e1] at h1
  have e2 : meth9 = meth := Option.some.inj (h1.symm.trans B.method)
  rw [e2] at h2
  have e3 : c9 = c := Option.some.inj (h2.symm.trans hmc)
  rw [e3] at h5
  have hk := body (p, jXl X, e, (headSpec (.codeWith y cc maxL (some .int) hh :: jTB) (jRm d mc (6 * mc))).room, s, m, (av.map (jcv X)).toArray, below, meth, c, MQ below (jQc X n (some (jI rv)) M') (av.map (jcv X)).toArray s mc (6 * mc) (jAd X))
    ⟨B.exec, B.bytes, hml, by rw [← hown]; exact findClass_of_methodNamed B.named, fun w hw => hts w (List.mem_cons_of_mem _ hw), hO, hn, Nat.le_refl _, Nat.le_refl _, B.notSynchronized, hB, rfl⟩ ⟨rfl, B.returns, rfl, rfl, hN, h5⟩
  rw [lg_entry_eq]
  refine hk s.heap [] _ hH ⟨Nat.le_refl _, fun _ _ _ => rfl, fun _ h => by cases h⟩ ?_
  have hlen : (lg_sl (av.map (jcv X))).length ≤ maxL := by rw [jfl_len]; exact hl
  have h := lv_entry (av.map (jcv X)) (n := maxL) hlen
  exact ⟨h.1, h.2.1, fun q hq => h.2.2 q (jfl_args X av 0 q (jal_pad X _ _ 0 q (by rw [hls]; exact hq)))⟩
/-- this handler takes it -/
def jHit (own : String) (hh : jHh) (pc : Nat) (code : Int) (tgt : Nat) : Prop := ∃ (pre suf : jHh) (a b ct : Nat), hh = pre ++ (a, b, tgt, ct) :: suf ∧ a ≤ pc ∧ pc < b ∧ ct ≠ 0 ∧ code ∈ [(1 : Int), 2, 3, 4] ∧ Cond.classLink own ct (jen code) ∈ jTB ∧ Cond.castable (jen code) (jen code) ∈ jNB ∧
  ∀ z ∈ pre, z.2.2.2 ≠ 0 ∧ ∃ k ∈ [(1 : Int), 2, 3, 4], code ≠ k ∧ Cond.classLink own z.2.2.2 (jen k) ∈ jTB
section JXC
variable {C : jC} {X : jX} {own : String} {cc : ByteArray} {n nL d kc ks pc : Nat} {ls st : List jV} {M : jM}
theorem jRow {mc : Nat} {hh : jHh} {rz : Int} {M' : jM} (hR : jRtw C X n mc hh rz M') {kc ks : Nat} (h1 : kc ≤ mc) (h2 : ks ≤ 6 * mc) : jRo C kc ks := by
  obtain ⟨p, l, e, R, s, m, args, below, meth, c, Q⟩ := C
  obtain ⟨-, -, e1, e2, -⟩ := hR
  exact ⟨by show kc ≤ R.cells; omega, by show ks ≤ R.slots; omega⟩
theorem x_iretW (hC : jOk C X own cc nL n d) {mc : Nat} {hh : jHh} {z v : Int} {M' : jM} (hR : jRtw C X n mc hh v M') (hd : decode cc pc = .ok (.ireturn, 1)) (h1 : kc = mc) (h2 : ks = 6 * mc) (hz : z = v) (hM : M = M') : jG C X n nL kc ks pc ls [jI z] M := by
  subst hz hM h1 h2
  obtain ⟨p, l, e, R, s, m, args, below, meth, c, Q⟩ := C
  obtain ⟨hx, hb, hml, hown, hts, hO, hn, hfr, hlo, hlk, hB, rfl⟩ := hC
  obtain ⟨rfl, hr, -⟩ := hR
  intro H locs la hH hS hL
  exact W.iret (v := Int32.ofInt z) hx hb hr (fun t ht hW => ⟨rfl, by rw [ht]; exact hH, hS.F ht⟩) hS.2.2 hd hlk
/-- a call of a method that may throw, out of one that catches -/
theorem x_cVC (hC : jOk C X own cc nL n d) {hh : jHh} {mc : Nat} {rz : Int} {M' : jM} (hR : jRtw C X n mc hh rz M') {idx : Nat} {y : MethodName} {cc' : ByteArray} {maxL : Nat} {ret : Option FieldType} {d' na ci N : Nat} {Cn : String} {T : u_T} (ml : jMV own idx y cc' maxL ret Cn na) (hpl : Cond.methodLink own idx y ∈ jTB) {a : Int} {av : List jV} {code : Int} {rv : Option jV} {M1 : jM} (ct : jCtT X n y cc' maxL ret d' mc (jA a :: av) M code rv M1) (hav : av.length = na) (hdd : d' + 1 ≤ d) (hk : jkd a = ci) (hcl : vwCl[ci]? = some (Cn, T, N)) (h11 : ci < 11) (hw : jCat st ≤ 8) (hd : decode cc pc = .ok (.invokevirtual idx, 3)) {stk : List jV} (hs : stk = av.reverse ++ jA a :: st) (h0c : kc = 0) (h0s : ks = 0)
    (k : code = 0 → jG C X n nL mc (6 * mc) (pc + 3) ls (rv.toList ++ st) M1) (kx : code ≠ 0 → ∃ tgt, jHit own hh pc code tgt ∧ ∀ q : Int, 0 ≤ q → jG C X n nL mc (6 * mc) tgt ls [(8, q)] M1) : jG C X n nL kc ks pc ls stk M := by
  subst hs h0c h0s
  obtain ⟨p, l, e, R, s, m, args, below, meth, c, Q⟩ := C
  obtain ⟨hx, hb, hml, hown, hts, hO, hn, hfr, hlo, hlk, hB, rfl⟩ := hC
  obtain ⟨rfl, hr, hrc, hrs, hN, htab⟩ := hR
  obtain ⟨hlink, hinst, hsel, hini, hcode, hdesc, hm⟩ := ml
  obtain ⟨ha1, ha2⟩ := jk179 hk (by omega) (by omega)
  intro H locs la hH hS hL
  have hE : jE X M a = .inr (ci, (List.range (jln a).toNat).map (fun j => jfv X (jft ci j) (M a (j : Int)))) := jE_o hk h11
  have he := jws_get (X := X) (n := n) (M := M) ha1 (by omega)
  rw [hE] at he
  have hrecv := va_recv hO.1 hH.1 hcl he
  have hpre : PreV s H Cn (jXB X + a.toNat - 1) (jPc X n (jA a :: av) M) (av.map (jcv X)) := ⟨jPc_blind X n _ M, hrecv, fun U hU hW => ⟨by rw [List.map_cons, jcv_p X ha1], j_in hO hH hB hS hU hW⟩⟩
  have hG : GoodIn jTB (.code y cc' maxL ret :: jTB) := fun w hw => (List.mem_cons.mp hw).elim (fun q => by rw [q]; exact jTB_good _ hcode) (jTB_good w)
  have hRm : (jRm d' mc (6 * mc)).frames + 1 ≤ R.frames ∧ 8 + (maxL + 11) + (jRm d' mc (6 * mc)).locals ≤ R.locals := by
    show d' + 1 ≤ R.frames ∧ 8 + (maxL + 11) + 100 * d' ≤ R.locals
    omega
  have hstk : (F0 m pc la ((av.reverse ++ jA a :: st).map (jcv X))).stack = (av.map (jcv X)).reverse ++ .ref (jXB X + a.toNat - 1) :: st.map (jcv X) := by
    show (av.reverse ++ jA a :: st).map (jcv X) = _
    rw [List.map_append, List.map_cons, jcv_p X ha1, List.map_reverse]
  have hW8 : 2 * (F0 m pc la ((av.reverse ++ jA a :: st).map (jcv X))).monitorRoom + ((st.map (jcv X)).map fun v => v.category).sum ≤ 8 := by
    rw [jCat_eq]
    show 2 * 0 + _ ≤ 8
    omega
  have hrun : vx_Run p (jXl X) e R s m args below meth c H locs 0 0 mc (6 * mc) (F0 m pc la ((av.reverse ++ jA a :: st).map (jcv X))) (st.map (jcv X)) (jQcT X n code rv M1 (Value.ref (jXB X + a.toNat - 1) :: av.map (jcv X)).toArray) (jXcT X n code M1) (jAd X) := by
    exact vx_runV (nL := nL) (own := own) (C := Cn) ⟨hx, hb, hml, hown, hts⟩ ct ⟨callB_of na hts hG rfl rfl rfl (hts _ hini) (hts _ hpl) hdesc hRm, hts _ hinst, hts _ hsel⟩ hpre rfl (by rw [List.length_map]; exact hav) hL.1 hstk hW8 hd ⟨by omega, by omega⟩
  intro T0 hT X0
  rcases hrun T0 hT X0 with ⟨v, st₀, t, T', L, h0, X', hL', e1, e2, ⟨hcd, hv, hH1, hF⟩, stp⟩ | ⟨q, st₀, t, T', L, E, ce, h0, X', hL', e1, e2, ⟨hcd, hEn, hH1, hF⟩, hce, hcv, hcl9, stp⟩
  · cases hv
    obtain ⟨k1, k2, k3⟩ := vx_keep h0 e1 hS (fun _ _ h => h) (fun _ h => h) hL' hF
    obtain ⟨t2, a1, b1⟩ := k hcd T'.heap (locs ++ L) la (by rw [e1]; exact hH1) k3 hL T' rfl (by rw [Nat.zero_add, Nat.zero_add] at X'; exact X')
    refine ⟨t2, stp t2 ?_, b1⟩
    have : (rv.map (jcv X)).toList ++ st.map (jcv X) = (rv.toList ++ st).map (jcv X) := by cases rv <;> simp
    rw [this]
    exact a1
  · obtain ⟨k1, k2, k3⟩ := vx_keep h0 e1 hS (fun _ _ h => h) (fun _ h => h) hL' hF
    obtain ⟨tgt, ⟨pre, suf, x1, x2, xt, hhe, hp1, hp2, hct, hcin, hlk1, hcast, hpass⟩, kk⟩ := kx hcd
    subst hEn
    rw [hhe] at htab
    obtain ⟨l1, l2, hl12, hl1, hl2⟩ := List.map_eq_append_iff.mp htab
    obtain ⟨x, l3, hl3, hxe, hl4⟩ := List.map_eq_cons_iff.mp hl2
    obtain ⟨ex1, ex2, ex3, ex4⟩ : x.startPc = x1 ∧ x.endPc = x2 ∧ x.handlerPc = tgt ∧ x.catchType = xt := by
      simp only [Prod.mk.injEq] at hxe
      exact hxe
    have hk9 := kk (q : Int) (by omega)
    have hcat : vx_W p (jXl X) e R s m args below meth c T'.heap (locs ++ L) mc (6 * mc) (MQ below (jQc X n (some (jI rz)) M') args s mc (6 * mc) (jAd X)) (F0 m pc la (st.map (jcv X))) q := by
      refine vx_catch (own := own) (name := jen code) hown l1 x l3 (by rw [hl12, hl3]) (fun z hz => Or.inr ?_) ?_ (by rw [ex4]; exact hct) (by rw [ex4]; exact hts _ hlk1) (va_Nw.use rfl (hO.2.1 _ hcast)) (by rw [e1]; exact hce) hcv hcl9 ?_
      · have hz2 : (z.startPc, z.endPc, z.handlerPc, z.catchType) ∈ pre := by rw [← hl1]; exact List.mem_map_of_mem hz
        obtain ⟨g1, k9, g2, g3, g4⟩ := hpass _ hz2
        exact ⟨g1, _, hts _ g4, hN code hcin k9 g2 g3⟩
      · simp only [covers, ex1, ex2, Bool.and_eq_true, decide_eq_true_eq]
        exact ⟨hp1, hp2⟩
      · have := hk9 T'.heap (locs ++ L) la (by rw [e1]; exact hH1) k3 hL
        rw [ex3]
        exact this
    obtain ⟨t2, a1, b1⟩ := hcat T' rfl (by rw [Nat.zero_add, Nat.zero_add] at X'; exact X')
    exact ⟨t2, stp.trans a1, b1⟩
end JXC
