/-! ===== rows that go with the words ===== -/
section JE
variable {C : jC} {X : jX} {own : String} {cc : ByteArray} {n nL d kc ks pc : Nat} {ls st : List jV} {M : jM}
theorem x_kill (i : Nat) {ls2 : List jV} (hls : ls.set i jN = ls2) (k : jG C X n nL kc ks pc ls2 st M) : jG C X n nL kc ks pc ls st M := by
  subst hls
  obtain ⟨p, l, e, R, s, m, args, below, meth, c, Q⟩ := C
  intro H locs la hH hS hL
  refine k H locs la hH hS ⟨hL.1, hL.2.1, fun q hq => hL.2.2 q ?_⟩
  obtain ⟨j, w, h1, h2, h3⟩ := jal_mem.mp hq
  refine jal_mem.mpr ⟨j, w, ?_, h2, h3⟩
  by_cases hj : j = i
  · subst hj
    have hl : j < ls.length := by
      have := (List.getElem?_eq_some_iff.mp h1).1
      simpa using this
    rw [List.getElem?_set_self hl] at h1
    cases h1
    exact absurd rfl h2
  · rwa [List.getElem?_set_ne (Ne.symm hj)] at h1
theorem x_alenL (hC : jOk C X own cc nL n d) {a l : Int} (hk : jkd a = 12) (hl : jln a = l) (hd : decode cc pc = .ok (.arraylength, 1)) (k : jG C X n nL kc ks (pc + 1) ls (jI l :: st) M) : jG C X n nL kc ks pc ls (jA a :: st) M := by
  subst hl
  exact x_alen hC hk hd k
/-- a static table's link -/
def jSL (own : String) (idx k : Nat) : Prop := (Cond.fieldLink own idx "IceJudge" (jsnm k) "[I" ∈ jTB) ∨ ∃ host, Cond.fieldLinkNest own idx "IceJudge" (jsnm k) "[I" host ∈ jNB
theorem x_gst (hC : jOk C X own cc nL n d) {idx k : Nat} (hk : k < 3) (sl : jSL own idx k) (hd : decode cc pc = .ok (.getstatic idx, 3)) (kk : jG C X n nL kc ks (pc + 3) ls ((5, (k : Int)) :: st) M) : jG C X n nL kc ks pc ls st M := by
  obtain ⟨p, l, e, R, s, m, args, below, meth, c, Q⟩ := C
  obtain ⟨hx, hb, hml, hown, hts, hO, hn, -⟩ := hC
  intro H locs la hH hS hL
  have h2 := kk H locs la hH hS hL
  have hv : jcv X (5, (k : Int)) = .ref (jXt X k) := rfl
  rw [List.map_cons, hv] at h2
  rcases sl with h | ⟨host, h⟩
  · exact va_gets hx hb (hO.2.2.1 k hk).1 hS hown (hts _ h) (fun _ q => q) hd h2
  · exact va_getsN hx hb (hO.2.2.1 k hk).1 hS hown (va_Nw.use rfl (hO.2.1 _ h)) (fun _ q => q) hd h2
theorem x_tald (hC : jOk C X own cc nL n d) {k : Nat} (hk : k < 3) {i : Int} (hi : 0 ≤ jw i ∧ jw i < 7) (hd : decode cc pc = .ok (.iaload, 1)) (kk : jG C X n nL kc ks (pc + 1) ls (jI (jstt k (jw i)) :: st) M) : jG C X n nL kc ks pc ls (jI i :: (5, (k : Int)) :: st) M := by
  obtain ⟨p, l, e, R, s, m, args, below, meth, c, Q⟩ := C
  obtain ⟨hx, hb, hml, hown, hts, hO, hn, -⟩ := hC
  intro H locs la hH hS hL
  have h2 := kk H locs la hH hS hL
  refine va_ti hx hb (hO.2.2.1 k hk).2 hS (j_vin (l := 7) hi.1 hi.2) (v := .int (Int32.ofInt (jstt k (jw i)))) ?_ hd h2
  rw [j_nc]; rfl
def jSR (own : String) (idx k : Nat) : Prop := k < 58 ∧ jsOwn k = own ∧ jsIdx k = idx
theorem x_ldcS (hC : jOk C X own cc nL n d) {idx k : Nat} (hd : decode cc pc = .ok (.ldc idx, 2)) (sr : jSR own idx k) {q : Int} (hq : (k : Int) = q) (kk : jG C X n nL kc ks (pc + 2) ls (jS q :: st) M) : jG C X n nL kc ks pc ls st M := by
  obtain ⟨p, l, e, R, s, m, args, below, meth, c, Q⟩ := C
  obtain ⟨hx, hb, hml, hown, hts, hO, hn, -⟩ := hC
  obtain ⟨h58, rfl, rfl⟩ := sr
  subst hq
  intro H locs la hH hS hL
  have h2 := kk H locs la hH hS hL
  exact va_ldcS hx hb hown (hO.2.2.2.1 k h58).1 hd h2
end JE
