/-! ===== contracts and calls ===== -/
def jUs (X : jX) (n : Nat) (M : jM) (U : State) : Prop := jO X U U.heap ∧ jH X n M U.heap ∧ jXB X ≤ U.heap.size
def jRm (d mc ms : Nat) : Room := { frames := d, cells := mc, slots := ms, locals := 100 * d }
def jPc (X : jX) (n : Nat) (av : List jV) (M : jM) : Array Value → State → Prop := fun a U => a = (av.map (jcv X)).toArray ∧ jUs X n M U
def jQc (X : jX) (n : Nat) (rv : Option jV) (M' : jM) : Array Value → State → Outcome → State → Prop := fun _ st o t => o = .returned (rv.map (jcv X)) ∧ jH X n M' t.heap ∧ va_F (jAd X) st t
/-- a method's contract: called with these values in this memory it answers this and leaves that memory -/
def jCt (X : jX) (n : Nat) (y : MethodName) (cc : ByteArray) (maxL : Nat) (ret : Option FieldType) (d : Nat) (av : List jV) (M : jM) (rv : Option jV) (M' : jM) : Prop :=
  Met (jXl X) y (.code y cc maxL ret :: jTB) (jRm d 0 0) (jPc X n av M) (jQc X n rv M') 0 0 (jAd X)
theorem jPc_blind (X : jX) (n : Nat) (av : List jV) (M : jM) : FrameBlind (jPc X n av M) := by
  intro a U g mk h
  exact ⟨h.1, h.2.1.calling g mk a, h.2.2.1, h.2.2.2⟩
def jfl : List jV → List jV
  | [] => []
  | v :: t => if v.1 = 3 then v :: jN :: jfl t else v :: jfl t
theorem jfl_args (X : jX) : ∀ (av : List jV) (i : Nat) (q : Nat × Value), q ∈ jal X i (jfl av) → q ∈ lv_args i (av.map (jcv X)) := by
  intro av
  induction av with
  | nil => intro i q h; simp [jfl, jal] at h
  | cons v t ih =>
    intro i q h
    unfold jfl at h
    rw [List.map_cons]
    unfold lv_args
    by_cases h3 : v.1 = 3
    · rw [if_pos h3] at h
      rw [if_pos ((jcv_cat X v).mpr h3)]
      unfold jal at h
      rw [if_neg (by omega)] at h
      rcases List.mem_cons.mp h with h | h
      · exact List.mem_cons.mpr (Or.inl h)
      · unfold jal at h
        rw [if_pos rfl] at h
        exact List.mem_cons.mpr (Or.inr (ih (i + 2) q h))
    · rw [if_neg h3] at h
      rw [if_neg (fun z => h3 ((jcv_cat X v).mp z))]
      unfold jal at h
      split at h
      · exact List.mem_cons.mpr (Or.inr (ih (i + 1) q h))
      · rcases List.mem_cons.mp h with h | h
        · exact List.mem_cons.mpr (Or.inl h)
        · exact List.mem_cons.mpr (Or.inr (ih (i + 1) q h))
theorem jfl_len (X : jX) : ∀ av : List jV, (lg_sl (av.map (jcv X))).length = (jfl av).length := by
  intro av
  induction av with
  | nil => rfl
  | cons v t ih =>
    have e : lg_sl ((v :: t).map (jcv X)) = (if (jcv X v).category = 2 then [.val (jcv X v), .second] else [.val (jcv X v)]) ++ lg_sl (t.map (jcv X)) := by
      simp [lg_sl]
    rw [e, List.length_append, ih, show jfl (v :: t) = (if v.1 = 3 then v :: jN :: jfl t else v :: jfl t) from rfl]
    by_cases h3 : v.1 = 3
    · rw [if_pos ((jcv_cat X v).mpr h3), if_pos h3]; simp; omega
    · rw [if_neg (fun z => h3 ((jcv_cat X v).mp z)), if_neg h3]; simp; omega
theorem jal_pad (X : jX) : ∀ (ls : List jV) (k i : Nat) (q : Nat × Value), q ∈ jal X i (ls ++ List.replicate k jN) → q ∈ jal X i ls := by
  intro ls k i q h
  obtain ⟨j, w, h1, h2, h3⟩ := jal_mem.mp h
  refine jal_mem.mpr ⟨j, w, ?_, h2, h3⟩
  by_cases hj : j < ls.length
  · rwa [List.getElem?_append_left hj] at h1
  · rw [List.getElem?_append_right (by omega)] at h1
    have := List.mem_of_getElem? h1
    rw [List.mem_replicate] at this
    rw [this.2] at h2
    exact absurd rfl h2
def jRet (C : jC) (X : jX) (n : Nat) (ret : Option FieldType) (rv : Option jV) (M' : jM) : Prop := match C with
  | (_, _, _, _, s, _, args, below, meth, _, Q) => Q = MQ below (jQc X n rv M') args s 0 0 (jAd X) ∧ meth.sig.returnType = ret
theorem jCt_of {X : jX} {n : Nat} {y : MethodName} {cc : ByteArray} {maxL : Nat} {ret : Option FieldType} {d : Nat} {av ls : List jV} {M : jM} {rv : Option jV} {M' : jM} {own : String} (hy : plainFor y = true) (hown : y.cls = own) (hn : 179 ≤ n) (hl : (jfl av).length ≤ maxL) (hls : jfl av ++ List.replicate (maxL - (jfl av).length) jN = ls)
    (body : ∀ C : jC, jOk C X own cc maxL n d → jRet C X n ret rv M' → jG C X n maxL 0 0 0 ls [] M) : jCt X n y cc maxL ret d av M rv M' := by
  refine va_MetF (cc := cc) (maxL := maxL) (ret := ret) hy rfl ?_
  intro p e s m args below meth c s₁ B hml hv
  obtain ⟨rfl, hO, hH, hB⟩ := hv
  have hts := atoms_spec (ws := .code y cc maxL ret :: jTB) B.pre
  have hk := body (p, jXl X, e, (headSpec (.code y cc maxL ret :: jTB) (jRm d 0 0)).room, s, m, (av.map (jcv X)).toArray, below, meth, c, MQ below (jQc X n rv M') (av.map (jcv X)).toArray s 0 0 (jAd X))
    ⟨B.exec, B.bytes, hml, by rw [← hown]; exact findClass_of_methodNamed B.named, fun w hw => hts w (List.mem_cons_of_mem _ hw), hO, hn, Nat.le_refl _, Nat.le_refl _, B.notSynchronized, hB, rfl⟩ ⟨rfl, B.returns⟩
  rw [lg_entry_eq]
  refine hk s.heap [] _ hH ⟨Nat.le_refl _, fun _ _ _ => rfl, fun _ h => by cases h⟩ ?_
  have hlen : (lg_sl (av.map (jcv X))).length ≤ maxL := by rw [jfl_len]; exact hl
  have h := lv_entry (av.map (jcv X)) (n := maxL) hlen
  exact ⟨h.1, h.2.1, fun q hq => h.2.2 q (jfl_args X av 0 q (jal_pad X _ _ 0 q (by rw [hls]; exact hq)))⟩
/-- room that is left -/
def jRo (C : jC) (kc ks : Nat) : Prop := kc ≤ C.2.2.2.1.cells ∧ ks ≤ C.2.2.2.1.slots
theorem jRo0 (C : jC) : jRo C 0 0 := ⟨Nat.zero_le _, Nat.zero_le _⟩
def jCat (st : List jV) : Nat := (st.map (fun v => if v.1 = 3 then 2 else 1)).sum
theorem jCat_eq (X : jX) (st : List jV) : ((st.map (jcv X)).map fun v => v.category).sum = jCat st := by
  unfold jCat
  rw [List.map_map]
  congr 1
  apply List.map_congr_left
  intro v _
  show (jcv X v).category = _
  by_cases h : v.1 = 3
  · rw [if_pos h]; exact (jcv_cat X v).mpr h
  · rw [if_neg h]; exact j_cat1 X h
/-- a method's link in a class's file -/
def jMV (own : String) (idx : Nat) (y : MethodName) (cc : ByteArray) (maxL : Nat) (ret : Option FieldType) (Cn : String) (na : Nat) : Prop :=
  (Cond.methodLink own idx y ∈ jTB ∨ ∃ host, Cond.methodLinkNest own idx y host ∈ jNB) ∧ Cond.instanceMethod y ∈ jTB ∧ Cond.selects Cn y y ∈ jTB ∧ Cond.initialized y.cls ∈ jTB ∧ Cond.code y cc maxL ret ∈ jTB ∧
  (y.cls ≠ "java/lang/invoke/MethodHandle" ∧ y.cls ≠ "java/lang/invoke/VarHandle" ∧ (parseMethodDescriptor y.desc).map (fun d => d.parameters.length) = some na) ∧ maxL ≤ 81
def jMS (own : String) (idx : Nat) (y : MethodName) (cc : ByteArray) (maxL : Nat) (ret : Option FieldType) (na : Nat) : Prop :=
  (Cond.methodLink own idx y ∈ jTB ∨ ∃ host, Cond.methodLinkNest own idx y host ∈ jNB) ∧ Cond.static y ∈ jTB ∧ Cond.initialized y.cls ∈ jTB ∧ Cond.code y cc maxL ret ∈ jTB ∧
  (y.cls ≠ "java/lang/invoke/MethodHandle" ∧ y.cls ≠ "java/lang/invoke/VarHandle" ∧ (parseMethodDescriptor y.desc).map (fun d => d.parameters.length) = some na) ∧ maxL ≤ 81
section JK
variable {C : jC} {X : jX} {own : String} {cc : ByteArray} {n nL d kc ks pc : Nat} {ls st : List jV} {M : jM}
theorem j_after {p : Program} {l : Launch} {e : Env} {R : Room} {s : State} {m : MethodId} {args : Array Value} {below : List Frame} {meth : Method} {c : Code} {H : Heap} {locs : List Loc} {Q : State → Prop} {la : Array Slot} {st0 : List Value} {a : Array Value} {rv : Option jV} {M1 : jM} {mc ms : Nat}
    (hr : va_Run p l e R s m args below meth c H locs kc ks mc ms (F0 m pc la st0) (st.map (jcv X)) (jQc X n rv M1 a) (jAd X)) (hS : va_S (jAd X) s.heap H locs)
    (kk : ∀ (H1 : Heap) (locs1 : List Loc), jH X n M1 H1 → va_S (jAd X) s.heap H1 locs1 → W p l e R s m args below meth c H1 locs1 (kc + mc) (ks + ms) Q (F0 m (pc + 3) la ((rv.toList ++ st).map (jcv X)))) : W p l e R s m args below meth c H locs kc ks Q (F0 m pc la st0) := by
  intro T hT X0
  obtain ⟨v, st₀, t, T', L, h0, X', hL, e1, e2, ⟨hv, hH, hz, hk⟩, stp⟩ := hr T hT X0
  cases hv
  rw [h0] at hz hk
  obtain ⟨t2, a1, b1⟩ := kk T'.heap (locs ++ L) (by rw [e1]; exact hH)
    ⟨Nat.le_trans hS.1 (by rw [e1]; exact hz), fun q h1 h2 => by rw [e1, hk q (Nat.lt_of_lt_of_le h1 hS.1) h2]; exact hS.2.1 q h1 h2, fun q hq => by
      rcases List.mem_append.mp hq with h | h
      · exact hS.2.2 q h
      · exact hL q h⟩ T' rfl X'
  refine ⟨t2, stp t2 ?_, b1⟩
  have : (rv.map (jcv X)).toList ++ st.map (jcv X) = (rv.toList ++ st).map (jcv X) := by cases rv <;> simp
  rw [this]
  exact a1
theorem j_in {X : jX} {n : Nat} {M : jM} {s U : State} {H : Heap} {locs : List Loc} (hO : jO X s s.heap) (hH : jH X n M H) (hB : jXB X ≤ s.heap.size) (hS : va_S (jAd X) s.heap H locs) (hU : U.heap = H) (hW : s.WarmedH U.vm) : jUs X n M U :=
  ⟨by rw [hU]; exact (hO.kept hS.2.1).warm hW, by rw [hU]; exact hH, by rw [hU]; exact Nat.le_trans hB hS.1⟩
theorem x_cV (hC : jOk C X own cc nL n d) {idx : Nat} {y : MethodName} {cc' : ByteArray} {maxL : Nat} {ret : Option FieldType} {d' na ci N : Nat} {Cn : String} {T : u_T} (ml : jMV own idx y cc' maxL ret Cn na) {a : Int} {av : List jV} {rv : Option jV} {M1 : jM} (ct : jCt X n y cc' maxL ret d' (jA a :: av) M rv M1) (hav : av.length = na) (hdd : d' + 1 ≤ d) (hk : jkd a = ci) (hcl : vwCl[ci]? = some (Cn, T, N)) (h11 : ci < 11) (hro : jRo C kc ks) (hw : jCat st ≤ 8) (hd : decode cc pc = .ok (.invokevirtual idx, 3)) {stk : List jV} (hs : stk = av.reverse ++ jA a :: st) (k : jG C X n nL kc ks (pc + 3) ls (rv.toList ++ st) M1) : jG C X n nL kc ks pc ls stk M := by
  subst hs
  obtain ⟨p, l, e, R, s, m, args, below, meth, c, Q⟩ := C
  obtain ⟨hx, hb, hml, hown, hts, hO, hn, hfr, hlo, hlk, hB, rfl⟩ := hC
  obtain ⟨hlink, hinst, hsel, hini, hcode, hdesc, hm⟩ := ml
  obtain ⟨ha1, ha2⟩ := jk179 hk (by omega) (by omega)
  intro H locs la hH hS hL
  have hE : jE X M a = .inr (ci, (List.range (jln a).toNat).map (fun j => jfv X (jft ci j) (M a (j : Int)))) := jE_o hk h11
  have he := jws_get (X := X) (n := n) (M := M) ha1 (by omega)
  rw [hE] at he
  have hrecv := va_recv hO.1 hH.1 hcl he
  have hpre : PreV s H Cn (jXB X + a.toNat - 1) (jPc X n (jA a :: av) M) (av.map (jcv X)) := ⟨jPc_blind X n _ M, hrecv, fun U hU hW => ⟨by rw [List.map_cons, jcv_p X ha1], j_in hO hH hB hS hU hW⟩⟩
  have hG : GoodIn jTB (.code y cc' maxL ret :: jTB) := fun w hw => (List.mem_cons.mp hw).elim (fun q => by rw [q]; exact jTB_good _ hcode) (jTB_good w)
  have hR : (jRm d' 0 0).frames + 1 ≤ R.frames ∧ 8 + (maxL + 11) + (jRm d' 0 0).locals ≤ R.locals := by
    show d' + 1 ≤ R.frames ∧ 8 + (maxL + 11) + 100 * d' ≤ R.locals
    omega
  have hstk : (F0 m pc la ((av.reverse ++ jA a :: st).map (jcv X))).stack = (av.map (jcv X)).reverse ++ .ref (jXB X + a.toNat - 1) :: st.map (jcv X) := by
    show (av.reverse ++ jA a :: st).map (jcv X) = _
    rw [List.map_append, List.map_cons, jcv_p X ha1, List.map_reverse]
  have hW8 : 2 * (F0 m pc la ((av.reverse ++ jA a :: st).map (jcv X))).monitorRoom + ((st.map (jcv X)).map fun v => v.category).sum ≤ 8 := by
    rw [jCat_eq]
    show 2 * 0 + _ ≤ 8
    omega
  have hrun : va_Run p (jXl X) e R s m args below meth c H locs kc ks 0 0 (F0 m pc la ((av.reverse ++ jA a :: st).map (jcv X))) (st.map (jcv X)) (jQc X n rv M1 (Value.ref (jXB X + a.toNat - 1) :: av.map (jcv X)).toArray) (jAd X) := by
    rcases hlink with h | ⟨host, h⟩
    · exact va_runV (nL := nL) (own := own) (C := Cn) ⟨hx, hb, hml, hown, hts⟩ ct ⟨callB_of na hts hG rfl rfl rfl (hts _ hini) (hts _ h) hdesc hR, hts _ hinst, hts _ hsel⟩ hpre rfl (by rw [List.length_map]; exact hav) hL.1 hstk hW8 hd hro
    · exact va_runVN (nL := nL) (own := own) (C := Cn) ⟨hx, hb, hml, hown, hts⟩ ct ⟨va_cnB na hts hG rfl rfl rfl (hO.2.1 _ h) (hts _ hini) hdesc hR, hts _ hinst, hts _ hsel⟩ hpre rfl (by rw [List.length_map]; exact hav) hL.1 hstk hW8 hd hro
  exact j_after hrun hS (fun H1 locs1 hH1 hS1 => k H1 locs1 la hH1 hS1 hL)
theorem x_cS (hC : jOk C X own cc nL n d) {idx : Nat} {y : MethodName} {cc' : ByteArray} {maxL : Nat} {ret : Option FieldType} {d' na : Nat} (ml : jMS own idx y cc' maxL ret na) {av : List jV} {rv : Option jV} {M1 : jM} (ct : jCt X n y cc' maxL ret d' av M rv M1) (hav : av.length = na) (hdd : d' + 1 ≤ d) (hro : jRo C kc ks) (hw : jCat st ≤ 8) (hd : decode cc pc = .ok (.invokestatic idx, 3)) {stk : List jV} (hs : stk = av.reverse ++ st) (k : jG C X n nL kc ks (pc + 3) ls (rv.toList ++ st) M1) : jG C X n nL kc ks pc ls stk M := by
  subst hs
  obtain ⟨p, l, e, R, s, m, args, below, meth, c, Q⟩ := C
  obtain ⟨hx, hb, hml, hown, hts, hO, hn, hfr, hlo, hlk, hB, rfl⟩ := hC
  obtain ⟨hlink, hstt, hini, hcode, hdesc, hm⟩ := ml
  intro H locs la hH hS hL
  have hpre : PreS s H (jPc X n av M) (av.map (jcv X)) := ⟨jPc_blind X n _ M, fun U hU hW => ⟨rfl, j_in hO hH hB hS hU hW⟩⟩
  have hG : GoodIn jTB (.code y cc' maxL ret :: jTB) := fun w hw => (List.mem_cons.mp hw).elim (fun q => by rw [q]; exact jTB_good _ hcode) (jTB_good w)
  have hR : (jRm d' 0 0).frames + 1 ≤ R.frames ∧ 8 + (maxL + 11) + (jRm d' 0 0).locals ≤ R.locals := by
    show d' + 1 ≤ R.frames ∧ 8 + (maxL + 11) + 100 * d' ≤ R.locals
    omega
  have hstk : (F0 m pc la ((av.reverse ++ st).map (jcv X))).stack = (av.map (jcv X)).reverse ++ st.map (jcv X) := by
    show (av.reverse ++ st).map (jcv X) = _
    rw [List.map_append, List.map_reverse]
  have hW8 : 2 * (F0 m pc la ((av.reverse ++ st).map (jcv X))).monitorRoom + ((st.map (jcv X)).map fun v => v.category).sum ≤ 8 := by
    rw [jCat_eq]
    show 2 * 0 + _ ≤ 8
    omega
  have hrun : va_Run p (jXl X) e R s m args below meth c H locs kc ks 0 0 (F0 m pc la ((av.reverse ++ st).map (jcv X))) (st.map (jcv X)) (jQc X n rv M1 (av.map (jcv X)).toArray) (jAd X) := by
    rcases hlink with h | ⟨host, h⟩
    · exact va_runS (nL := nL) (own := own) ⟨hx, hb, hml, hown, hts⟩ ct ⟨callB_of na hts hG rfl rfl rfl (hts _ hini) (hts _ h) hdesc hR, hts _ hstt⟩ hpre rfl (by rw [List.length_map]; exact hav) hL.1 hstk hW8 hd hro
    · exact va_runSN (nL := nL) (own := own) ⟨hx, hb, hml, hown, hts⟩ ct ⟨va_cnB na hts hG rfl rfl rfl (hO.2.1 _ h) (hts _ hini) hdesc hR, hts _ hstt, trivial⟩ hpre rfl (by rw [List.length_map]; exact hav) hL.1 hstk hW8 hd hro
  exact j_after hrun hS (fun H1 locs1 hH1 hS1 => k H1 locs1 la hH1 hS1 hL)
theorem x_iret (hC : jOk C X own cc nL n d) {z v : Int} {M' : jM} (hR : jRet C X n (some .int) (some (jI v)) M') (hd : decode cc pc = .ok (.ireturn, 1)) (hz : z = v) (hM : M = M') : jG C X n nL 0 0 pc ls [jI z] M := by
  subst hz hM
  obtain ⟨p, l, e, R, s, m, args, below, meth, c, Q⟩ := C
  obtain ⟨hx, hb, hml, hown, hts, hO, hn, hfr, hlo, hlk, hB, rfl⟩ := hC
  obtain ⟨rfl, hr⟩ := hR
  intro H locs la hH hS hL
  exact W.iret (v := Int32.ofInt z) hx hb hr (fun t ht hW => ⟨rfl, by rw [ht]; exact hH, hS.F ht⟩) hS.2.2 hd hlk
theorem x_zret (hC : jOk C X own cc nL n d) {z v : Int} {M' : jM} (hR : jRet C X n (some .boolean) (some (jI v)) M') (hd : decode cc pc = .ok (.ireturn, 1)) (h01 : jw z = 0 ∨ jw z = 1) (hz : z = v) (hM : M = M') : jG C X n nL 0 0 pc ls [jI z] M := by
  subst hz hM
  obtain ⟨p, l, e, R, s, m, args, below, meth, c, Q⟩ := C
  obtain ⟨hx, hb, hml, hown, hts, hO, hn, hfr, hlo, hlk, hB, rfl⟩ := hC
  obtain ⟨rfl, hr⟩ := hR
  intro H locs la hH hS hL
  have h1 : Int32.ofInt z = 0 ∨ Int32.ofInt z = 1 := by
    rcases h01 with q | q
    · exact Or.inl (j_eq0.mpr q)
    · exact Or.inr ((j_eq (a := z) (b := 1)).mpr (by rw [q]; decide))
  exact W.zret (v := Int32.ofInt z) (ty := .boolean) hx hb hr (by rcases h1 with q | q <;> rw [q] <;> decide) (fun t ht hW => ⟨rfl, by rw [ht]; exact hH, hS.F ht⟩) hS.2.2 hd hlk
theorem x_lret (hC : jOk C X own cc nL n d) {z v : Int} {M' : jM} (hR : jRet C X n (some .long) (some (jJ v)) M') (hd : decode cc pc = .ok (.lreturn, 1)) (hz : z = v) (hM : M = M') : jG C X n nL 0 0 pc ls [jJ z] M := by
  subst hz hM
  obtain ⟨p, l, e, R, s, m, args, below, meth, c, Q⟩ := C
  obtain ⟨hx, hb, hml, hown, hts, hO, hn, hfr, hlo, hlk, hB, rfl⟩ := hC
  obtain ⟨rfl, hr⟩ := hR
  intro H locs la hH hS hL
  exact W.lret (v := Int64.ofInt z) hx hb hr (fun t ht hW => ⟨rfl, by rw [ht]; exact hH, hS.F ht⟩) hS.2.2 hd hlk
theorem x_vret (hC : jOk C X own cc nL n d) {M' : jM} (hR : jRet C X n none none M') (hd : decode cc pc = .ok (.return_, 1)) (hM : M = M') : jG C X n nL 0 0 pc ls [] M := by
  subst hM
  obtain ⟨p, l, e, R, s, m, args, below, meth, c, Q⟩ := C
  obtain ⟨hx, hb, hml, hown, hts, hO, hn, hfr, hlo, hlk, hB, rfl⟩ := hC
  obtain ⟨rfl, hr⟩ := hR
  intro H locs la hH hS hL
  exact W.vret hx hb hr (fun t ht hW => ⟨rfl, by rw [ht]; exact hH, hS.F ht⟩) hS.2.2 hd hlk
theorem x_aret (hC : jOk C X own cc nL n d) {z v : Int} {nm : String} {M' : jM} (hR : jRet C X n (some (.object nm)) (some (jA v)) M') (hd : decode cc pc = .ok (.areturn, 1)) (hz : z = v) (hM : M = M') : jG C X n nL 0 0 pc ls [jA z] M := by
  subst hz hM
  obtain ⟨p, l, e, R, s, m, args, below, meth, c, Q⟩ := C
  obtain ⟨hx, hb, hml, hown, hts, hO, hn, hfr, hlo, hlk, hB, rfl⟩ := hC
  obtain ⟨rfl, hr⟩ := hR
  intro H locs la hH hS hL
  exact W.aret (v := jcv X (jA z)) (rt := .object nm) hx hb hr (Or.inl ⟨nm, rfl⟩) (by rw [jcv_a]; cases jro X z <;> simp [va_rf]) (fun t ht hW => ⟨rfl, by rw [ht]; exact hH, hS.F ht⟩) hS.2.2 hd hlk
end JK
