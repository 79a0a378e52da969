/-! ===== making the objects: arrays, constructors; by program ===== -/
def jPcc (X : jX) (n : Nat) (av : List jV) (M : jM) : Array Value → State → Prop := fun a U => a = (av.map (jcv X)).toArray ∧ jO X U U.heap ∧ jHc X n M U.heap ∧ U.heap.size = jXB X + n ∧ jAos U
def jQcc (X : jX) (n : Nat) (M' : jM) : Array Value → State → Outcome → State → Prop := fun _ st o t => o = .returned none ∧ jHc X n M' t.heap ∧ va_F (jAd X) st t
theorem jAos.moved {s U : State} (h : s.vm.Alike U.vm) (ha : jAos s) : jAos U := ⟨ha.1.moved h, ha.2.moved h⟩
theorem jPcc_blind (X : jX) (n : Nat) (av : List jV) (M : jM) : FrameBlind (jPcc X n av M) := by
  intro a U g mk h
  exact ⟨h.1, h.2.1.calling g mk a, h.2.2.1, h.2.2.2.1, h.2.2.2.2.moved (s := U) (U := U.calling g mk a) (Vm.Alike.refl U.vm)⟩
/-- a constructor's contract -/
def jCc (X : jX) (n : Nat) (y : MethodName) (cc : ByteArray) (maxL d mc ms : Nat) (av : List jV) (M M' : jM) : Prop :=
  Met (jXl X) y (.code y cc maxL none :: jTB) (jRm d mc ms) (jPcc X n av M) (jQcc X (n + mc) M') mc ms (jAd X)
def jRtc (C : jC) (X : jX) (n mc ms : Nat) (M' : jM) : Prop := match C with
  | (_, _, _, _, s, _, args, below, meth, _, Q) => Q = MQ below (jQcc X (n + mc) M') args s mc ms (jAd X) ∧ meth.sig.returnType = none
theorem jCc_of {X : jX} {n : Nat} {y : MethodName} {cc : ByteArray} {maxL : Nat} {d mc ms : Nat} {av ls : List jV} {M M' : jM} {own : String} (hy : plainFor y = true) (hown : y.cls = own) (hname : y.name = "<init>") (hl : (jfl av).length ≤ maxL) (hls : jfl av ++ List.replicate (maxL - (jfl av).length) jN = ls)
    (body : ∀ C : jC, jOc C X own cc maxL n d mc ms → jIn C → jRtc C X n mc ms M' → jK C X n maxL 0 0 0 ls [] M) : jCc X n y cc maxL d mc ms av M M' := by
  refine va_MetF (cc := cc) (maxL := maxL) (ret := none) hy rfl ?_
  intro p e s m args below meth c s₁ B hml hv
  obtain ⟨rfl, hO, hH, hB, hA⟩ := hv
  have hts := atoms_spec (ws := .code y cc maxL none :: jTB) B.pre
  have hk := body (p, jXl X, e, (headSpec (.code y cc maxL none :: jTB) (jRm d mc ms)).room, s, m, (av.map (jcv X)).toArray, below, meth, c, MQ below (jQcc X (n + mc) M') (av.map (jcv X)).toArray s mc ms (jAd X))
    ⟨B.exec, B.bytes, hml, by rw [← hown]; exact findClass_of_methodNamed B.named, fun w hw => hts w (List.mem_cons_of_mem _ hw), hO, hB, Nat.le_refl _, Nat.le_refl _, B.notSynchronized, rfl, hA, Nat.le_refl _, Nat.le_refl _⟩ ((name_of_methodNamed B.named B.method).1.trans hname) ⟨rfl, B.returns⟩
  rw [lg_entry_eq]
  refine hk s.heap [] _ hH ⟨Nat.le_refl _, fun _ _ _ => rfl, fun _ h => by cases h⟩ ?_
  have hlen : (lg_sl (av.map (jcv X))).length ≤ maxL := by rw [jfl_len]; exact hl
  have h := lv_entry (av.map (jcv X)) (n := maxL) hlen
  exact ⟨h.1, h.2.1, fun q hq => h.2.2 q (jfl_args X av 0 q (jal_pad X _ _ 0 q (by rw [hls]; exact hq)))⟩
def jMI (own : String) (idx : Nat) (y : MethodName) (cc : ByteArray) (maxL na : Nat) : Prop :=
  (Cond.methodLink own idx y ∈ jTB ∨ ∃ host, Cond.methodLinkNest own idx y host ∈ jNB) ∧ Cond.instanceMethod y ∈ jTB ∧ Cond.initialized y.cls ∈ jTB ∧ Cond.code y cc maxL none ∈ jTB ∧
  (y.cls ≠ "java/lang/invoke/MethodHandle" ∧ y.cls ≠ "java/lang/invoke/VarHandle" ∧ (parseMethodDescriptor y.desc).map (fun d => d.parameters.length) = some na) ∧ maxL ≤ 81 ∧ y.name = "<init>"
section JKS
variable {C : jC} {X : jX} {own : String} {cc : ByteArray} {n0 nL d mc ms kc ks pc : Nat} {ls st : List jV} {M : jM}
theorem k_vret (hC : jOc C X own cc nL n0 d mc ms) {M' : jM} (hR : jRtc C X n0 mc ms M') (hd : decode cc pc = .ok (.return_, 1)) (h1 : kc = mc) (h2 : ks = ms) (hM : M = M') : jK C X n0 nL kc ks pc ls [] M := by
  subst hM h1 h2
  obtain ⟨p, l, e, R, s, m, args, below, meth, c, Q⟩ := C
  obtain ⟨hx, hb, hml, hown, hts, hO, hsz, hfr, hlo, hlk, -⟩ := hC
  obtain ⟨rfl, hr⟩ := hR
  intro H locs la hH hS hL
  exact W.vret hx hb hr (fun t ht hW => ⟨rfl, by rw [ht]; exact hH, hS.F ht⟩) hS.2.2 hd hlk
theorem k_ctor (hC : jOc C X own cc nL n0 d mc ms) {idx : Nat} {y : MethodName} {cc' : ByteArray} {maxL d' na mc' ms' : Nat} (mi : jMI own idx y cc' maxL na) {a : Int} {av : List jV} {M1 : jM} (ct : jCc X (n0 + kc) y cc' maxL d' mc' ms' (jA a :: av) M M1) (ha1 : 1 ≤ a) (hav : av.length = na) (hdd : d' + 1 ≤ d) (hkc : kc + mc' ≤ mc) (hks : ks + ms' ≤ ms) (hw : jCat st ≤ 8) (hd : decode cc pc = .ok (.invokespecial idx, 3)) {stk : List jV} (hs : stk = av.reverse ++ jA a :: st) {kc2 ks2 : Nat} (h2c : kc + mc' = kc2) (h2s : ks + ms' = ks2) (k : jK C X n0 nL kc2 ks2 (pc + 3) ls st M1) : jK C X n0 nL kc ks pc ls stk M := by
  subst hs h2c h2s
  obtain ⟨p, l, e, R, s, m, args, below, meth, c, Q⟩ := C
  obtain ⟨hx, hb, hml, hown, hts, hO, hsz, hfr, hlo, hlk, rfl, hao, hmc, hms⟩ := hC
  obtain ⟨hlink, hinst, hini, hcode, hdesc, hm, hnm⟩ := mi
  intro H locs la hH hS hL Tt hT XX
  have hH0 := jK_size XX hT hsz hH hS
  have hpre : PreS s H (jPcc X (n0 + kc) (jA a :: av) M) (.ref (jXB X + a.toNat - 1) :: av.map (jcv X)) := ⟨jPcc_blind X _ _ M, fun U hU hW => ⟨by rw [List.map_cons, jcv_p X ha1], by rw [hU]; exact (hO.kept hS.2.1).warm hW, by rw [hU]; exact hH, by rw [hU]; exact hH0, hao.moved hW.alike⟩⟩
  have hG : GoodIn jTB (.code y cc' maxL none :: jTB) := fun w hw => (List.mem_cons.mp hw).elim (fun q => by rw [q]; exact jTB_good _ hcode) (jTB_good w)
  have hRm : (jRm d' mc' ms').frames + 1 ≤ R.frames ∧ 8 + (maxL + 11) + (jRm d' mc' ms').locals ≤ R.locals := by
    show d' + 1 ≤ R.frames ∧ 8 + (maxL + 11) + 100 * d' ≤ R.locals
    omega
  have hstk : (F0 m pc la ((av.reverse ++ jA a :: st).map (jcv X))).stack = (av.map (jcv X)).reverse ++ .ref (jXB X + a.toNat - 1) :: st.map (jcv X) := by
    show (av.reverse ++ jA a :: st).map (jcv X) = _
    rw [List.map_append, List.map_cons, jcv_p X ha1, List.map_reverse]
  have hW8 : 2 * (F0 m pc la ((av.reverse ++ jA a :: st).map (jcv X))).monitorRoom + ((st.map (jcv X)).map fun v => v.category).sum ≤ 8 := by
    rw [jCat_eq]
    show 2 * 0 + _ ≤ 8
    omega
  have hrun : va_Run p (jXl X) e R s m args below meth c H locs kc ks mc' ms' (F0 m pc la ((av.reverse ++ jA a :: st).map (jcv X))) (st.map (jcv X)) (jQcc X (n0 + kc + mc') M1 (Value.ref (jXB X + a.toNat - 1) :: av.map (jcv X)).toArray) (jAd X) := by
    rcases hlink with h | ⟨host, h⟩
    · exact va_runI (nL := nL) (own := own) ⟨hx, hb, hml, hown, hts⟩ ct ⟨callB_of na hts hG rfl rfl rfl (hts _ hini) (hts _ h) hdesc hRm, hnm, hts _ hinst⟩ hpre rfl (by rw [List.length_map]; exact hav) hL.1 hstk hW8 hd ⟨by omega, by omega⟩
    · exact va_runIN (nL := nL) (own := own) ⟨hx, hb, hml, hown, hts⟩ ct ⟨va_cnB na hts hG rfl rfl rfl (hO.2.1 _ h) (hts _ hini) hdesc hRm, hnm, hts _ hinst⟩ hpre rfl (by rw [List.length_map]; exact hav) hL.1 hstk hW8 hd ⟨by omega, by omega⟩
  obtain ⟨v, st₀, t, T', L, h0, X', hL', e1, e2, ⟨hv, hH1, hz, hk⟩, stp⟩ := hrun Tt hT XX
  cases hv
  rw [h0] at hz hk
  obtain ⟨t2, a1, b1⟩ := k T'.heap (locs ++ L) la (by rw [e1, ← Nat.add_assoc]; exact hH1)
    ⟨Nat.le_trans hS.1 (by rw [e1]; exact hz), fun q h1 h2 => by rw [e1, hk q (Nat.lt_of_lt_of_le h1 hS.1) h2]; exact hS.2.1 q h1 h2, fun q hq => by
      rcases List.mem_append.mp hq with h | h
      · exact hS.2.2 q h
      · exact hL' q h⟩ hL T' rfl X'
  exact ⟨t2, stp t2 a1, b1⟩
def jOI (own : String) (idx : Nat) : Prop := Cond.methodLink own idx Lib.objectInit ∈ jTB ∧ Cond.instanceMethod Lib.objectInit ∈ jTB ∧ Cond.code Lib.objectInit ⟨#[0xb1]⟩ 1 none ∈ jTB
theorem k_oinit (hC : jOc C X own cc nL n0 d mc ms) {idx : Nat} (oi : jOI own idx) {a : Int} (ha1 : 1 ≤ a) (hdd : 1 ≤ d) (hw : jCat st ≤ 8) (hd : decode cc pc = .ok (.invokespecial idx, 3)) (k : jK C X n0 nL kc ks (pc + 3) ls st M) : jK C X n0 nL kc ks pc ls (jA a :: st) M := by
  obtain ⟨p, l, e, R, s, m, args, below, meth, c, Q⟩ := C
  obtain ⟨hx, hb, hml, hown, hts, hO, hsz, hfr, hlo, -⟩ := hC
  obtain ⟨w1, w2, w3⟩ := oi
  intro H locs la hH hS hL
  refine W.objInit hx hb hown (hts _ w1) (hts _ w2) (hts _ w3) (g := F0 m pc la ((jA a :: st).map (jcv X))) rfl (by rw [hml]; exact hL.1) (a := jXB X + a.toNat - 1) (rest := st.map (jcv X)) (by show (jA a :: st).map (jcv X) = _; rw [List.map_cons, jcv_p X ha1]) hd (by omega) (by
    rw [jCat_eq]
    show 2 * 0 + _ + 12 ≤ R.locals
    omega) (k H locs la hH hS hL)
theorem jE12 {a : Int} {n N : Nat} (hk : jkd a = 12) (hl : (jln a).toNat = N) : ∀ (X : jX) (M : jM), (∀ j, M a j = 0) → ∀ H : Heap, H[jXB X + n]? = some (arrV (jXc X 12) N (fun _ => defaultValue .int)) → va_at (jXD X) vwCl (jXB X + n, jE X M a) H := by
  intro X M h0 H hH
  rw [jE_i hk (Or.inr rfl), hl]
  show H[jXB X + n]? = some (vp_cell _ _)
  rw [hH, vp_cell_i]
  congr 2
  funext j
  show Value.int 0 = .int (Int32.ofInt (M a j))
  rw [h0]; rfl
theorem jE11 {a : Int} {n N : Nat} (hk : jkd a = 11) (hl : (jln a).toNat = N) : ∀ (X : jX) (M : jM), (∀ j, M a j = 0) → ∀ H : Heap, H[jXB X + n]? = some (arrV (jXc X 11) N (fun _ => defaultValue .byte)) → va_at (jXD X) vwCl (jXB X + n, jE X M a) H := by
  intro X M h0 H hH
  rw [jE_i hk (Or.inl rfl), hl]
  show H[jXB X + n]? = some (vp_cell _ _)
  rw [hH, vp_cell_i]
  congr 2
  funext j
  show Value.int 0 = .int (Int32.ofInt (M a j))
  rw [h0]; rfl
theorem jE13 {a : Int} {n N : Nat} (hk : jkd a = 13) (hl : (jln a).toNat = N) : ∀ (X : jX) (M : jM), (∀ j, M a j = 0) → ∀ H : Heap, H[jXB X + n]? = some (arrV (jXc X 13) N (fun _ => defaultValue .long)) → va_at (jXD X) vwCl (jXB X + n, jE X M a) H := by
  intro X M h0 H hH
  rw [jE_l hk, hl]
  show H[jXB X + n]? = some (vp_cell _ _)
  rw [hH, vp_cell_l]
  congr 2
  funext j
  show Value.long 0 = .long (Int64.ofInt (M a j))
  rw [h0]; rfl
theorem k_newI (hC : jOc C X own cc nL n0 d mc ms) (harr : Cond.arrayClass .int ∈ jTB) {a z : Int} {N : Nat} (ha : a = ((n0 + kc : Nat) : Int) + 1) (hk : jkd a = 12) (hl : (jln a).toNat = N) (hn : ¬ Int32.ofInt z < 0) (hN : (Int32.ofInt z).toNatClampNeg = N) (hby : N * 4 ≤ 536870912) (hkc : kc + 1 ≤ mc) (hks : ks + N ≤ ms) (hd : decode cc pc = .ok (.newarray .int, 2)) {kc2 ks2 : Nat} (h2c : kc + 1 = kc2) (h2s : ks + N = ks2) (k : jK C X n0 nL kc2 ks2 (pc + 2) ls (jA a :: st) M) : jK C X n0 nL kc ks pc ls (jI z :: st) M :=
  k_newa hC (aty := .int) (ty := .int) (kk := 12) (t0 := 1) rfl rfl (fun _ _ h => h) harr ha (jE12 hk hl) hn hN hby hkc hks hd h2c h2s k
theorem k_newB (hC : jOc C X own cc nL n0 d mc ms) (harr : Cond.arrayClass .byte ∈ jTB) {a z : Int} {N : Nat} (ha : a = ((n0 + kc : Nat) : Int) + 1) (hk : jkd a = 11) (hl : (jln a).toNat = N) (hn : ¬ Int32.ofInt z < 0) (hN : (Int32.ofInt z).toNatClampNeg = N) (hby : N * 1 ≤ 536870912) (hkc : kc + 1 ≤ mc) (hks : ks + N ≤ ms) (hd : decode cc pc = .ok (.newarray .byte, 2)) {kc2 ks2 : Nat} (h2c : kc + 1 = kc2) (h2s : ks + N = ks2) (k : jK C X n0 nL kc2 ks2 (pc + 2) ls (jA a :: st) M) : jK C X n0 nL kc ks pc ls (jI z :: st) M :=
  k_newa hC (aty := .byte) (ty := .byte) (kk := 11) (t0 := 0) rfl rfl (fun _ _ h => h) harr ha (jE11 hk hl) hn hN hby hkc hks hd h2c h2s k
theorem k_newL (hC : jOc C X own cc nL n0 d mc ms) (harr : Cond.arrayClass .long ∈ jTB) {a z : Int} {N : Nat} (ha : a = ((n0 + kc : Nat) : Int) + 1) (hk : jkd a = 13) (hl : (jln a).toNat = N) (hn : ¬ Int32.ofInt z < 0) (hN : (Int32.ofInt z).toNatClampNeg = N) (hby : N * 8 ≤ 536870912) (hkc : kc + 1 ≤ mc) (hks : ks + N ≤ ms) (hd : decode cc pc = .ok (.newarray .long, 2)) {kc2 ks2 : Nat} (h2c : kc + 1 = kc2) (h2s : ks + N = ks2) (k : jK C X n0 nL kc2 ks2 (pc + 2) ls (jA a :: st) M) : jK C X n0 nL kc ks pc ls (jI z :: st) M :=
  k_newa hC (aty := .long) (ty := .long) (kk := 13) (t0 := 2) rfl rfl (fun _ _ h => h) harr ha (jE13 hk hl) hn hN hby hkc hks hd h2c h2s k
/-- an array of references -/
theorem k_anew (hC : jOc C X own cc nL n0 d mc ms) {ik kk t0 : Nat} {Cn : String} (hcl : Cond.classLink own ik Cn ∈ jTB) (hAO : ∀ U, jAos U → va_AO Cn U) (htk : (jtys X)[t0]? = some (jXc X kk, .object Cn)) (hkk : kk = 14 ∨ kk = 15) {a z : Int} {N : Nat} (ha : a = ((n0 + kc : Nat) : Int) + 1) (hk : jkd a = kk) (hl : (jln a).toNat = N) (hn : ¬ Int32.ofInt z < 0) (hN : (Int32.ofInt z).toNatClampNeg = N) (hby : N * 4 ≤ 536870912) (hkc : kc + 1 ≤ mc) (hks : ks + N ≤ ms) (hd : decode cc pc = .ok (.anewarray ik, 3)) {kc2 ks2 : Nat} (h2c : kc + 1 = kc2) (h2s : ks + N = ks2) (k : jK C X n0 nL kc2 ks2 (pc + 3) ls (jA a :: st) M) : jK C X n0 nL kc ks pc ls (jI z :: st) M := by
  subst ha h2c h2s hN
  obtain ⟨p, l, e, R, s, m, args, below, meth, c, Q⟩ := C
  obtain ⟨hx, hb, hml, hown, hts, hO, hsz, hfr, hlo, hlk, hl9, hao, hmc, hms⟩ := hC
  intro H locs la hH hS hL Tt hT XX
  have hH0 := jK_size XX hT hsz hH hS
  refine W.anew hx hb hown (hts _ hcl) (va_AO.use (hAO _ hao)) (g := F0 m pc la ((jI z :: st).map (jcv X))) rfl hd (n := Int32.ofInt z) rfl hn hby (by omega) (by show ks + (Int32.ofInt z).toNatClampNeg ≤ R.slots; omega) (fun cA kA comp f1 f2 f3 f4 => ?_) Tt hT XX
  obtain ⟨kA9, comp9, g1, g2, g3, g4⟩ := (hO.1.2 t0 _ htk).2
  have hcA : cA = jXc X kk := Option.some.inj (f1.symm.trans g4)
  subst hcA
  generalize hH1 : H.push ({ cls := jXc X kk, slots := Array.replicate (Int32.ofInt z).toNatClampNeg .null, vm := .none } : Cell) = H1
  have z1 : H1.size = H.size + 1 := by rw [← hH1, Array.size_push]
  have e1 : H1[H.size]? = some (arrV (jXc X kk) (Int32.ofInt z).toNatClampNeg (fun _ => .null)) := by rw [← hH1, Array.getElem?_push_size, ← arrV_new]
  have o1 : ∀ q : Nat, q < H.size → H1[q]? = H[q]? := fun q hq => by rw [← hH1, Array.getElem?_push, if_neg (Nat.ne_of_lt hq)]
  have hat : va_at (jXD X) vwCl (jXB X + (n0 + kc), jE X M (((n0 + kc : Nat) : Int) + 1)) H1 := by
    rw [jE_q hk hkk, hl, ← hH0]
    show H1[H.size]? = some (vp_cell _ _)
    rw [vp_cell_q, e1]
    congr 2
    funext j
    show Value.null = va_rf (jro X (M _ _))
    rw [hH.2 _ _ (by omega)]
    rfl
  have h2 := k H1 locs la (hH.push o1 hat) ⟨Nat.le_trans hS.1 (by omega), fun x h1 h2 => (o1 x (by have := hS.1; omega)).trans (hS.2.1 x h1 h2), hS.2.2⟩ hL
  rw [List.map_cons, jcv_p X (by omega)] at h2
  have e9 : jXB X + (((n0 + kc : Nat) : Int) + 1).toNat - 1 = H.size := by omega
  rw [e9] at h2
  exact h2
theorem jE_upq {X : jX} {M : jM} {a i b : Int} (h0 : 0 ≤ i) (hb : 1 ≤ b) : (fun j : Nat => jro X (jst M a i b a (j : Int))) = va_up (fun j : Nat => jro X (M a (j : Int))) i.toNat (some (jXB X + b.toNat - 1)) := by
  funext j
  unfold va_up
  by_cases hj : j = i.toNat
  · subst hj
    rw [if_pos rfl, show ((i.toNat : Nat) : Int) = i by omega, jst_at, jro_pos X hb]
  · rw [if_neg hj, jst_i M (by omega)]
theorem k_aast (hC : jOc C X own cc nL n0 d mc ms) {kk t0 ci N : Nat} {Cn : String} {T : u_T} (hcl : vwCl[ci]? = some (Cn, T, N)) (h11 : ci < 11) (htk : (jtys X)[t0]? = some (jXc X kk, .object Cn)) (hkk : kk = 14 ∨ kk = 15) {a b i : Int} (hk : jkd a = kk) (hna : a ≤ ((n0 + kc : Nat) : Int)) (hkb : jkd b = ci) (hnb : b ≤ ((n0 + kc : Nat) : Int)) (hi : 0 ≤ jw i ∧ jw i < jln a) (hd : decode cc pc = .ok (.aastore, 1)) {M1 : jM} (hM : M1 = jst M a (jw i) b) (k : jK C X n0 nL kc ks (pc + 1) ls st M1) : jK C X n0 nL kc ks pc ls (jA b :: jI i :: jA a :: st) M := by
  subst hM
  obtain ⟨p, l, e, R, s, m, args, below, meth, c, Q⟩ := C
  obtain ⟨hx, hb, hml, hown, hts, hO, hsz, -⟩ := hC
  obtain ⟨ha1, ha2⟩ := jk179 hk (by omega) (by omega)
  obtain ⟨hb1, hb2⟩ := jk179 hkb (by omega) (by omega)
  intro H locs la hH hS hL
  rw [List.map_cons, List.map_cons, List.map_cons, jcv_p X ha1, jcv_p X hb1]
  have he := jws_get (X := X) (n := n0 + kc) (M := M) ha1 (by omega)
  rw [jE_q hk hkk] at he
  have hv := jws_get (X := X) (n := n0 + kc) (M := M) hb1 (by omega)
  rw [jE_o hkb h11] at hv
  have hset := jws_set (X := X) (n := n0 + kc) (M := M) (M' := jst M a (jw i) b) ha1 (by omega) (fun b hb => jE_st_ne hb)
  rw [jE_q hk hkk, jE_upq hi.1 hb1] at hset
  refine va_astq hx hb hO.1 hH.1 (jws_D X (n0 + kc) M) hS _ t0 _ ci he htk hv hcl (j_vin hi.1 hi.2) hd (fun H1 locs1 hP1 hD1 hS1 => k H1 locs1 la ⟨?_, fun c9 j hc9 => ?_⟩ hS1 hL)
  · rw [j_nc, hset] at hP1
    exact hP1
  · rw [jst_c M (by omega)]
    exact hH.2 c9 j hc9
theorem k_aald (hC : jOc C X own cc nL n0 d mc ms) {kk t0 : Nat} {Cn : String} (htk : (jtys X)[t0]? = some (jXc X kk, .object Cn)) (hkk : kk = 14 ∨ kk = 15) {a b i : Int} (hk : jkd a = kk) (hna : a ≤ ((n0 + kc : Nat) : Int)) (hi : 0 ≤ jw i ∧ jw i < jln a) (hM : M a (jw i) = b) (hd : decode cc pc = .ok (.aaload, 1)) (k : jK C X n0 nL kc ks (pc + 1) ls (jA b :: st) M) : jK C X n0 nL kc ks pc ls (jI i :: jA a :: st) M := by
  subst hM
  obtain ⟨p, l, e, R, s, m, args, below, meth, c, Q⟩ := C
  obtain ⟨hx, hb, hml, hown, hts, hO, hsz, -⟩ := hC
  obtain ⟨ha1, ha2⟩ := jk179 hk (by omega) (by omega)
  intro H locs la hH hS hL
  have h2 := k H locs la hH hS hL
  rw [List.map_cons, List.map_cons, jcv_p X ha1]
  have he := jws_get (X := X) (n := n0 + kc) (M := M) ha1 (by omega)
  rw [jE_q hk hkk] at he
  refine va_aldq hx hb hO.1 hH.1 _ t0 (C := Cn) he htk (j_vin hi.1 hi.2) hd ?_
  rw [j_nc, show (((jw i).toNat : Nat) : Int) = jw i by omega]
  exact h2
theorem k_acT (hC : jOc C X own cc nL n0 d mc ms) {idx : Nat} (ac : jAC own idx) (hdd : 1 ≤ d) (hw : jCat st ≤ 8) {kk : Nat} (hkk : kk < 3) {a : Int} (hk : jkd a = 12) (hl : jln a = 7) (hna : a ≤ ((n0 + kc : Nat) : Int)) (hd : decode cc pc = .ok (.invokestatic idx, 3)) {M1 : jM} (hM : M1 = jcpT M kk a) (k : jK C X n0 nL kc ks (pc + 3) ls st M1) : jK C X n0 nL kc ks pc ls (jI 7 :: jI 0 :: jA a :: jI 0 :: (5, (kk : Int)) :: st) M := by
  subst hM
  obtain ⟨p, l, e, R, s, m, args, below, meth, c, Q⟩ := C
  obtain ⟨hx, hb, hml, hown, hts, hO, hsz, hfr, hlo, -⟩ := hC
  obtain ⟨w1, w2, w3, w4⟩ := ac
  obtain ⟨ha1, ha2⟩ := jk179 hk (by decide) (by decide)
  intro H locs la hH hS hL
  have he1 := jws_get (X := X) (n := n0 + kc) (M := M) ha1 (by omega)
  rw [jE_i hk (Or.inr rfl), hl] at he1
  have hset := jws_set (X := X) (n := n0 + kc) (M := M) (M' := jcpT M kk a) ha1 (by omega) (fun b hb => jE_cpT_ne hb)
  have hf : (fun j : Nat => Int32.ofInt (jcpT M kk a a (j : Int))) = va_cpy (fun j : Nat => Int32.ofInt ((jsv kk).getD j 0)) (fun j : Nat => Int32.ofInt (M a (j : Int))) 0 0 7 := by
    funext j
    unfold va_cpy jcpT
    by_cases hj : 0 ≤ j ∧ j < 0 + 7
    · rw [if_pos hj, if_pos ⟨rfl, by omega, by omega⟩]
      unfold jstt
      rw [Int.toNat_natCast]
      congr 2
      omega
    · rw [if_neg hj, if_neg (by rintro ⟨-, q1, q2⟩; exact hj ⟨by omega, by omega⟩)]
  rw [jE_i hk (Or.inr rfl), hl, hf] at hset
  obtain ⟨scr, g1, g2, g3, g4, -, g5, g7⟩ := (hO.2.2.1 kk hkk).2
  have hc0 : H[jXt X kk]? = some scr := by rw [hS.2.1 _ (Array.getElem?_eq_some_iff.mp g1).1 g7]; exact g1
  have hc1 : H[jXB X + a.toNat - 1]? = some (vp_cell (jXc X 12) (7, .inl (fun j => Int32.ofInt (M a (j : Int))))) := hH.1 _ _ he1
  obtain ⟨g6, k0, y0, cm0, z0⟩ := g2
  obtain ⟨-, k1, y1, cm1, z1⟩ := (hO.1.2 1 (jXc X 12, .int) rfl).1 7 (fun j => .int (Int32.ofInt (M a (j : Int))))
  intro T hT XX
  have e0 : (F0 m pc la ((jI 7 :: jI 0 :: jA a :: jI 0 :: (5, (kk : Int)) :: st).map (jcv X))).stack = Value.int 7 :: .int 0 :: .ref (jXB X + a.toNat - 1) :: .int 0 :: .ref (jXt X kk) :: st.map (jcv X) := by
    show (jI 7 :: jI 0 :: jA a :: jI 0 :: (5, (kk : Int)) :: st).map (jcv X) = _
    simp only [List.map_cons]
    rw [jcv_p X ha1]
    rfl
  obtain ⟨vm', X', step⟩ := XX.arraycopy hx hown (hts _ w1) (hts _ w2) (hts _ w3) (hts _ w4) (src := jXt X kk) (dst := jXB X + a.toNat - 1) (cs := scr) (cd := vp_cell (jXc X 12) (7, .inl (fun j => Int32.ofInt (M a (j : Int))))) (srcPos := 0) (destPos := 0) (n := 7) (by rw [hT]; exact hc0) (by rw [hT]; exact hc1)
    g6 (fun _ h => by cases h) g3 (fun h => by cases h) y0 y1 z0 z1 (by simp [refKind]) (by decide) (by decide) (by decide)
    (by show ¬ (0 : Int) + 7 > _; omega)
    (by show ¬ (0 : Int) + 7 > ((arrV (jXc X 12) 7 (fun j => .int (Int32.ofInt (M a (j : Int))))).slots.size : Int); rw [arrV_size]; omega)
    (fun vm₁ _ i hi => by
      have hi7 : i < 7 := hi
      have ev : scr.slots.getD ((0 : Int32).toNatClampNeg + i) .null = .int (Int32.ofInt ((jsv kk).getD i 0)) := by
        rw [Array.getD_eq_getD_getElem?, show (0 : Int32).toNatClampNeg + i = i by show 0 + i = i; omega, g5 _ hi7]
        rfl
      rw [ev]
      exact ⟨rfl, trivial⟩)
    (g := F0 m pc la ((jI 7 :: jI 0 :: jA a :: jI 0 :: (5, (kk : Int)) :: st).map (jcv X))) rfl (by rw [hml]; exact hL.1) (rest := st.map (jcv X)) e0 (by rw [hb]; exact hd) (by omega) (by
      show 2 * 0 + _ + _ ≤ _
      rw [jCat_eq]
      have : nativeFrameWords "java/lang/System" "arraycopy" 5 + 11 ≤ 80 := by decide +kernel
      omega)
  have e1 : copied scr (vp_cell (jXc X 12) (7, .inl (fun j => Int32.ofInt (M a (j : Int))))) 0 0 7 = vp_cell (jXc X 12) (7, .inl (va_cpy (fun j : Nat => Int32.ofInt ((jsv kk).getD j 0)) (fun j => Int32.ofInt (M a (j : Int))) 0 0 7)) := va_copiedX (fun z => .int z) scr (jXc X 12) (fun j : Nat => Int32.ofInt ((jsv kk).getD j 0)) (fun j => Int32.ofInt (M a (j : Int))) g5 (by decide)
  rw [e1] at X' step
  have hlt : jXB X + a.toNat - 1 < H.size := (Array.getElem?_eq_some_iff.mp hc1).1
  have oq : ∀ q : Nat, q ≠ jXB X + a.toNat - 1 → ((T.setVm vm').setCell (jXB X + a.toNat - 1) (vp_cell (jXc X 12) (7, .inl (va_cpy (fun j : Nat => Int32.ofInt ((jsv kk).getD j 0)) (fun j => Int32.ofInt (M a (j : Int))) 0 0 7)))).heap[q]? = H[q]? := fun q hq => by
    show (T.heap.setIfInBounds _ _)[q]? = _
    rw [hT]
    simp [Array.getElem?_setIfInBounds, Ne.symm hq]
  have hD := jws_D X (n0 + kc) M
  have hat : va_at (jXD X) vwCl (jXB X + a.toNat - 1, .inl (jXc X 12, 7, .inl (va_cpy (fun j : Nat => Int32.ofInt ((jsv kk).getD j 0)) (fun j => Int32.ofInt (M a (j : Int))) 0 0 7))) ((T.setVm vm').setCell (jXB X + a.toNat - 1) (vp_cell (jXc X 12) (7, .inl (va_cpy (fun j : Nat => Int32.ofInt ((jsv kk).getD j 0)) (fun j => Int32.ofInt (M a (j : Int))) 0 0 7)))).heap := by
    show (T.heap.setIfInBounds _ _)[jXB X + a.toNat - 1]? = _
    rw [hT]
    simp [Array.getElem?_setIfInBounds, hlt]
  have hP2 := hH.1.set hD he1 hat oq
  rw [show Int.toNat 7 = 7 from rfl] at hset
  rw [hset] at hP2
  obtain ⟨t, a1, b1⟩ := k _ _ la ⟨hP2, fun b j hb => by unfold jcpT; rw [if_neg (fun q => by omega)]; exact hH.2 b j hb⟩ ⟨by
      show s.heap.size ≤ (T.heap.setIfInBounds _ _).size
      rw [Array.size_setIfInBounds, hT]; exact hS.1, fun q h1 h2 => by
      rw [oq q (fun z => h2 (by rw [z]; exact hD.2 _ _ he1))]
      exact hS.2.1 q h1 h2, fun q hq => by
      rcases List.mem_append.mp hq with h | h
      · exact hS.2.2 q h
      · obtain ⟨z, -, hz⟩ := List.mem_map.mp h
        rw [← hz]
        exact hD.2 _ _ he1⟩ hL _ rfl X'
  exact ⟨t, step t a1, b1⟩
/-- all is made -/
theorem k_run {n : Nat} (hn : n0 + kc = n) (hF : jFin n M) (k : jG C X n nL kc ks pc ls st M) : jK C X n0 nL kc ks pc ls st M := by
  subst hn
  obtain ⟨p, l, e, R, s, m, args, below, meth, c, Q⟩ := C
  intro H locs la hH hS hL
  exact k H locs la ⟨hH.1, hF⟩ hS hL
theorem jOc.ok (hC : jOc C X own cc nL n0 d mc ms) {n : Nat} (hn : 179 ≤ n) : jOk C X own cc nL n d := by
  obtain ⟨p, l, e, R, s, m, args, below, meth, c, Q⟩ := C
  obtain ⟨hx, hb, hml, hown, hts, hO, hsz, hfr, hlo, hlk, hl9, hao, hmc, hms⟩ := hC
  exact ⟨hx, hb, hml, hown, hts, hO, hn, hfr, hlo, hlk, by omega, hl9⟩
end JKS
