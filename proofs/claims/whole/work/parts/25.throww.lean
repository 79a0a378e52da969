/-! ===== throws whose text stands under a wide index ===== -/
theorem jt2 {A B C : Type} {a a' : A} {b b' : B} {c c' : C} (h : some (a, b, c) = some (a', b', c')) : b = b' := (Prod.mk.inj (Prod.mk.inj (Option.some.inj h)).2).1
theorem jt3 {A B C : Type} {a a' : A} {b b' : B} {c c' : C} (h : some (a, b, c) = some (a', b', c')) : c = c' := (Prod.mk.inj (Prod.mk.inj (Option.some.inj h)).2).2
section JXW
variable {C : jC} {X : jX} {own : String} {cc : ByteArray} {n nL d kc ks pc : Nat} {ls st : List jV} {M : jM}
theorem x_throwW (hC : jOk C X own cc nL n d) {ret : Option FieldType} {mc : Nat} {code cz : Int} {rv : Option jV} {M' : jM} (hR : jRetT C X n ret mc cz rv M') {ik is ic k : Nat} (ex : jEX own ik ic code) (sr : jSR own is k) (hdd : 6 ≤ d) (hw : jCat st ≤ 8) (hkc : kc + 1 ≤ mc) (hks : ks + 6 ≤ 6 * mc)
    (d0 : decode cc pc = .ok (.new ik, 3)) (d3 : decode cc (pc + 3) = .ok (.dup, 1)) (d4 : decode cc (pc + 4) = .ok (.ldc_w is, 3)) (d7 : decode cc (pc + 7) = .ok (.invokespecial ic, 3)) (d10 : decode cc (pc + 10) = .ok (.athrow, 1)) (hc : code = cz) (hM : M = M') : jG C X n nL kc ks pc ls st M := by
  subst hc hM
  obtain ⟨p, l, e, R, s, m, args, below, meth, c, Q⟩ := C
  obtain ⟨hx, hb, hml, hown, hts, hO, hn, hfr, hlo, hlk, hB, rfl⟩ := hC
  obtain ⟨rfl, hr, htab, hrc, hrs⟩ := hR
  obtain ⟨hc0, hfit, hcl, hini, hat, hgood⟩ := ex
  obtain ⟨h58, ho, hi⟩ := sr
  intro H locs la hH hS hL
  have hstr := (hO.2.2.2.1 k h58).1
  rw [ho, hi] at hstr
  refine vx_throwSW (names := jnms) (ik := ik) (is := is) (ic := ic) (sa := jXk X k) (A := jAd X) hx hb hO.2.2.2.2.1 hown hfit jnms_fit (hts _ hcl) (hts _ hini) hstr (fun w h => (hat w h).elim (fun q => hts w q) (fun q => va_Nw.use q.2 (hO.2.1 w q.1))) hgood hO.2.2.2.2.2.2.2.1 hO.2.2.2.2.2.2.2.2 hS (by rw [hml]; exact hL.1) d0 d3 d4 d7 d10 (fun x h => (htab x h).elim) ?_ ?_ (by omega) (by omega) hlk (fun t hW hsz hk => ?_) hS.2.2 hkc hks
  · show 2 + 3 < R.frames
    omega
  · rw [jCat_eq]
    show _ + (13 * (2 + 1) + 43) ≤ R.locals
    omega
  · refine ⟨hc0, rfl, ⟨hH.1.kept (fun q x hq => hk x.1 ((hH.1 q x hq).lt)), hH.2⟩, Nat.le_trans hS.1 hsz, fun q h1 h2 => ?_⟩
    rw [hk q (Nat.lt_of_lt_of_le h1 hS.1)]
    exact hS.2.1 q h1 h2
end JXW
section JXL
variable {C : jC} {X : jX} {own : String} {cc : ByteArray} {n nL d kc ks pc : Nat} {ls st : List jV} {M : jM}
theorem x_lookHit (hC : jOk C X own cc nL n d) {dflt a v off : Int} {pairs : Array (Int × Int)} {len tgt : Nat} (hd : decode cc pc = .ok (.lookupswitch dflt pairs, len)) (hs : (pairs.toList.zip (pairs.toList.drop 1)).all (fun (a, next) => a.1 < next.1) = true) (hf : pairs.find? (·.1 == jw a) = some (v, off)) (ht : (pc : Int) + off = (tgt : Int)) (k : jG C X n nL kc ks tgt ls st M) : jG C X n nL kc ks pc ls (jI a :: st) M := by
  obtain ⟨p, l, e, R, s, m, args, below, meth, c, Q⟩ := C
  obtain ⟨hx, hb, -⟩ := hC
  intro H locs la hH hS hL T hT XX
  obtain ⟨t2, a1, b1⟩ := k H locs la hH hS hL T hT XX
  refine ⟨t2, XX.lookupswitchHit hx (g := F0 m pc la ((jI a :: st).map (jcv X))) rfl (k := Int32.ofInt a) (rest := st.map (jcv X)) rfl (by rw [hb]; exact hd) hs (by rw [j_toInt]; exact hf) (by show 0 ≤ (pc : Int) + off; omega) _ ?_, b1⟩
  have : ((pc : Int) + off).toNat = tgt := by omega
  show Steps p.tables e below (T.setTop { method := m, pc := ((pc : Int) + off).toNat, locals := la, stack := st.map (jcv X), locked := none }) t2
  rw [this]
  exact a1
theorem x_lookMiss (hC : jOk C X own cc nL n d) {dflt a : Int} {pairs : Array (Int × Int)} {len tgt : Nat} (hd : decode cc pc = .ok (.lookupswitch dflt pairs, len)) (hs : (pairs.toList.zip (pairs.toList.drop 1)).all (fun (a, next) => a.1 < next.1) = true) (hf : pairs.find? (·.1 == jw a) = none) (ht : (pc : Int) + dflt = (tgt : Int)) (k : jG C X n nL kc ks tgt ls st M) : jG C X n nL kc ks pc ls (jI a :: st) M := by
  obtain ⟨p, l, e, R, s, m, args, below, meth, c, Q⟩ := C
  obtain ⟨hx, hb, -⟩ := hC
  intro H locs la hH hS hL T hT XX
  obtain ⟨t2, a1, b1⟩ := k H locs la hH hS hL T hT XX
  refine ⟨t2, XX.lookupswitchMiss hx (g := F0 m pc la ((jI a :: st).map (jcv X))) rfl (k := Int32.ofInt a) (rest := st.map (jcv X)) rfl (by rw [hb]; exact hd) hs (by rw [j_toInt]; exact hf) (by show 0 ≤ (pc : Int) + dflt; omega) _ ?_, b1⟩
  have : ((pc : Int) + dflt).toNat = tgt := by omega
  show Steps p.tables e below (T.setTop { method := m, pc := ((pc : Int) + dflt).toNat, locals := la, stack := st.map (jcv X), locked := none }) t2
  rw [this]
  exact a1
theorem x_ldcwS (hC : jOk C X own cc nL n d) {idx k : Nat} (hd : decode cc pc = .ok (.ldc_w idx, 3)) (sr : jSR own idx k) {q : Int} (hq : (k : Int) = q) (kk : jG C X n nL kc ks (pc + 3) ls (jS q :: st) M) : jG C X n nL kc ks pc ls st M := by
  obtain ⟨p, l, e, R, s, m, args, below, meth, c, Q⟩ := C
  obtain ⟨hx, hb, hml, hown, hts, hO, hn, -⟩ := hC
  obtain ⟨h58, rfl, rfl⟩ := sr
  subst hq
  intro H locs la hH hS hL T hT XX
  obtain ⟨t2, a1, b1⟩ := kk H locs la hH hS hL T hT XX
  have hstr := (hO.2.2.2.1 k h58).1
  exact ⟨t2, XX.ldcStringW hx (own := jsOwn k) (text := jsTxt k) (index := jsIdx k) (a := jXk X k) hown hstr.1 hstr.2 (g := F0 m pc la (st.map (jcv X))) rfl (by rw [hb]; exact hd) _ a1, b1⟩
theorem jlk2 {v0 v1 o0 o1 x : Int} (h0 : ¬ x = v0) (h1 : ¬ x = v1) : (#[(v0, o0), (v1, o1)] : Array (Int × Int)).find? (·.1 == x) = none := by
  rw [Array.find?_eq_none]
  intro q hq
  simp only [List.mem_toArray, List.mem_cons, List.not_mem_nil, or_false] at hq
  rcases hq with rfl | rfl
  · simp only [beq_iff_eq]; omega
  · simp only [beq_iff_eq]; omega
end JXL
