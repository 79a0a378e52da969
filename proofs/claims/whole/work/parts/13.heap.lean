/-! ===== rows of the heap ===== -/
/-- a field's link in a class's file: the field j of the class number ci -/
def jFL (own : String) (idx ci j : Nat) (fin : Bool) : Prop := ∃ (Cn : String) (T : u_T) (N : Nat) (ty : Nat → FieldType), vwCl[ci]? = some (Cn, T, N) ∧ j < N ∧ (∀ w ∈ u_ws Cn T N, w ∈ jTB) ∧
  (∀ k, k < N → parseFieldDescriptor (T k).2.2.1 = some (ty k)) ∧ (∀ a, a < N → ∀ b, b < N → a ≠ b → (T a).2.1 ≠ (T b).2.1) ∧
  ((Cond.fieldLink own idx Cn (T j).2.1 (T j).2.2.1 ∈ jTB) ∨ ∃ host, Cond.fieldLinkNest own idx Cn (T j).2.1 (T j).2.2.1 host ∈ jNB) ∧ (T j).1 = Cn ∧ (T j).2.2.2 = fin ∧ (∀ a, jkd a = ci → (jln a).toNat = N) ∧ ci < 11 ∧
  (jft ci j = 0 → ty j = .int) ∧ (jft ci j = 2 → ty j = .boolean) ∧ (jft ci j = 1 → (∃ nm, ty j = .object nm) ∨ ∃ t, ty j = .array t) ∧ (fin = false → ∀ off, (j, off) ∉ jfo ci)
theorem j_rm {f f' : Nat → Value} {N j : Nat} (hj : j < N) (h : ∀ i, i ≠ j → f' i = f i) : ((List.range N).map f).set j (f' j) = (List.range N).map f' := by
  apply List.ext_getElem?
  intro i
  by_cases hi : i = j
  · subst hi
    rw [List.getElem?_set_self (by simp; omega), List.getElem?_map, List.getElem?_range hj]
    rfl
  · rw [List.getElem?_set_ne (Ne.symm hi), List.getElem?_map, List.getElem?_map]
    cases hr : (List.range N)[i]? with
    | none => rfl
    | some q =>
      obtain ⟨h3, h4⟩ := List.getElem?_eq_some_iff.mp hr
      rw [List.getElem_range] at h4
      subst h4
      simp only [Option.map_some]
      rw [h _ hi]
theorem jst_at (M : jM) (a i v : Int) : jst M a i v a i = v := if_pos ⟨rfl, rfl⟩
theorem jst_i (M : jM) {a i j v : Int} (h : j ≠ i) : jst M a i v a j = M a j := if_neg (fun q => h q.2)
theorem jst_c (M : jM) {a b i j v : Int} (h : b ≠ a) : jst M a i v b j = M b j := if_neg (fun q => h q.1)
theorem j_nc (i : Int) : (Int32.ofInt i).toNatClampNeg = (jw i).toNat := by
  show (Int32.ofInt i).toInt.toNat = _
  rw [j_toInt]
theorem j_vin {i : Int} {l : Int} (h0 : 0 ≤ jw i) (h1 : jw i < l) : vp_in (Int32.ofInt i) l.toNat := by
  intro q
  rcases q with q | q
  · have := j_lt0.mp q; omega
  · rw [j_nc] at q; omega
section JH
variable {C : jC} {X : jX} {own : String} {cc : ByteArray} {n nL d kc ks pc : Nat} {ls st : List jV} {M : jM}
theorem jG_getv (hC : jOk C X own cc nL n d) {idx ci j : Nat} {fin : Bool} (fl : jFL own idx ci j fin) {a : Int} (hk : jkd a = ci) (hd : decode cc pc = .ok (.getfield idx, 3)) {v : jV} (hv : jFin n M → jcv X v = jfv X (jft ci j) (M a (j : Int))) (k : jG C X n nL kc ks (pc + 3) ls (v :: st) M) : jG C X n nL kc ks pc ls (jA a :: st) M := by
  obtain ⟨p, l, e, R, s, m, args, below, meth, c, Q⟩ := C
  obtain ⟨hx, hb, hml, hown, hts, hO, hn, -⟩ := hC
  obtain ⟨Cn, T, N, ty, hc, hj, hin, hty, hnm, hlink, hself, hfin, hN, h11, -⟩ := fl
  obtain ⟨ha1, ha2⟩ := jk179 hk (by omega) (by omega)
  intro H locs la hH hS hL
  have h2 := k H locs la hH hS hL
  rw [List.map_cons, hv hH.2] at h2
  rw [List.map_cons, jcv_p X ha1]
  have hE : jE X M a = .inr (ci, (List.range N).map (fun j => jfv X (jft ci j) (M a (j : Int)))) := by rw [jE_o hk h11, hN a hk]
  have he := jws_get (X := X) (n := n) (M := M) ha1 (by omega)
  rw [hE] at he
  have hval : ((List.range N).map (fun j => jfv X (jft ci j) (M a (j : Int))))[j]? = some (jfv X (jft ci j) (M a (j : Int))) := by rw [List.getElem?_map, List.getElem?_range hj]; rfl
  rcases hlink with h | ⟨host, h⟩
  · exact va_get (D := jXD X) (ci := ci) (C := Cn) (T := T) (N := N) hx hb hts hin hown hO.1 hH.1 _ he hc j hj (hts _ h) (fun _ q => by rw [hself] at q; exact q) hval hd h2
  · exact va_getN (D := jXD X) (ci := ci) (C := Cn) (T := T) (N := N) hx hb hts hin hown hO.1 hH.1 _ he hc j hj (va_Nw.use rfl (hO.2.1 _ h)) (fun _ q => by rw [hself] at q; exact q) hval hd h2
theorem x_gi (hC : jOk C X own cc nL n d) {idx ci j : Nat} {fin : Bool} (fl : jFL own idx ci j fin) {ji : Int} (hj : (j : Int) = ji) (h0 : jft ci j ≠ 1) {a : Int} (hk : jkd a = ci) (hd : decode cc pc = .ok (.getfield idx, 3)) (k : jG C X n nL kc ks (pc + 3) ls (jI (M a ji) :: st) M) : jG C X n nL kc ks pc ls (jA a :: st) M := by
  subst hj
  exact jG_getv hC fl hk hd (fun _ => by unfold jfv; rw [if_neg h0]; rfl) k
theorem x_gr (hC : jOk C X own cc nL n d) {idx ci j : Nat} {fin : Bool} (fl : jFL own idx ci j fin) {ji : Int} (hj : (j : Int) = ji) (h0 : jft ci j = 1) {a : Int} (hk : jkd a = ci) (hd : decode cc pc = .ok (.getfield idx, 3)) (k : jG C X n nL kc ks (pc + 3) ls (jA (M a ji) :: st) M) : jG C X n nL kc ks pc ls (jA a :: st) M := by
  subst hj
  exact jG_getv hC fl hk hd (fun _ => by unfold jfv; rw [if_pos h0]; rfl) k
theorem x_gf (hC : jOk C X own cc nL n d) {idx ci j : Nat} {fin : Bool} (fl : jFL own idx ci j fin) (h0 : jft ci j = 1) {a b off : Int} (hk : jkd a = ci) (h11 : ci < 11) (hoff : (j, off) ∈ jfo ci) (hb : b = a + off) (hd : decode cc pc = .ok (.getfield idx, 3)) (k : jG C X n nL kc ks (pc + 3) ls (jA b :: st) M) : jG C X n nL kc ks pc ls (jA a :: st) M := by
  subst hb
  have hn : 179 ≤ n := by obtain ⟨p, l, e, R, s, m, args, below, meth, c, Q⟩ := C; exact hC.2.2.2.2.2.2.1
  obtain ⟨ha1, ha2⟩ := jk179 hk (by omega) (by omega)
  refine jG_getv hC fl hk hd (fun hF => ?_) k
  unfold jfv
  rw [if_pos h0, hF.1 a j off (by omega) (by omega) (by rw [hk]; exact hoff)]
  rfl
theorem jG_putv (hC : jOk C X own cc nL n d) {idx ci j : Nat} (fl : jFL own idx ci j false) {a z : Int} (hk : jkd a = ci) (hd : decode cc pc = .ok (.putfield idx, 3)) {v : jV} (hv : jcv X v = jfv X (jft ci j) z) (hfit : ∀ ty : FieldType, (jft ci j = 0 → ty = .int) → (jft ci j = 2 → ty = .boolean) → (jft ci j = 1 → (∃ nm, ty = .object nm) ∨ ∃ t, ty = .array t) → narrow ty (jcv X v) = jcv X v ∧ fits ty (jcv X v) = true) {M1 : jM} (hM : M1 = jst M a (j : Int) z) (k : jG C X n nL kc ks (pc + 3) ls st M1) : jG C X n nL kc ks pc ls (v :: jA a :: st) M := by
  subst hM
  obtain ⟨p, l, e, R, s, m, args, below, meth, c, Q⟩ := C
  obtain ⟨hx, hb, hml, hown, hts, hO, hn, -⟩ := hC
  obtain ⟨Cn, T, N, ty, hc, hj, hin, hty, hnm, hlink, hself, hfin, hN, h11, t0, t2, t1, hnf⟩ := fl
  obtain ⟨ha1, ha2⟩ := jk179 hk (by omega) (by omega)
  intro H locs la hH hS hL
  rw [List.map_cons, List.map_cons, jcv_p X ha1]
  have hE : jE X M a = .inr (ci, (List.range N).map (fun j => jfv X (jft ci j) (M a (j : Int)))) := by rw [jE_o hk h11, hN a hk]
  have hE' : jE X (jst M a (j : Int) z) a = .inr (ci, ((List.range N).map (fun j => jfv X (jft ci j) (M a (j : Int)))).set j (jcv X v)) := by
    rw [jE_o hk h11, hN a hk]
    have := j_rm (f := fun i => jfv X (jft ci i) (M a (i : Int))) (f' := fun i => jfv X (jft ci i) (jst M a (j : Int) z a (i : Int))) hj (fun i hi => by
      show jfv X (jft ci i) (jst M a (j : Int) z a (i : Int)) = jfv X (jft ci i) (M a (i : Int))
      rw [jst_i M (by omega)])
    rw [← this, jst_at, hv]
  have he := jws_get (X := X) (n := n) (M := M) ha1 (by omega)
  rw [hE] at he
  have hset := jws_set (X := X) (n := n) (M := M) (M' := jst M a (j : Int) z) ha1 (by omega) (fun b hb => jE_st_ne hb)
  rw [hE'] at hset
  obtain ⟨f1, f2⟩ := hfit (ty j) t0 t2 t1
  have hfin2 : jFin n (jst M a (j : Int) z) := hH.2.st (fun i off hi hm => by
    rw [hk] at hm
    intro q
    have : i = j := by omega
    subst this
    exact hnf rfl off hm) (by omega) (by omega)
  rcases hlink with h | ⟨host, h⟩
  · exact va_put (D := jXD X) (ci := ci) (C := Cn) (T := T) (N := N) hx hb hts hin ty hty hnm hown hO.1 hH.1 (jws_D X n M) hS _ he hc j hj (hts _ h) (fun _ q => by rw [hself] at q; exact q) hfin (hty j hj) f1 f2 (by simp; omega) hd (fun H1 locs1 hP1 hD1 hS1 => k H1 locs1 la ⟨by rw [hset] at hP1; exact hP1, hfin2⟩ hS1 hL)
  · exact va_putN (D := jXD X) (ci := ci) (C := Cn) (T := T) (N := N) hx hb hts hin ty hty hnm hown hO.1 hH.1 (jws_D X n M) hS _ he hc j hj (va_Nw.use rfl (hO.2.1 _ h)) (fun _ q => by rw [hself] at q; exact q) hfin (hty j hj) f1 f2 (by simp; omega) hd (fun H1 locs1 hP1 hD1 hS1 => k H1 locs1 la ⟨by rw [hset] at hP1; exact hP1, hfin2⟩ hS1 hL)
theorem x_pi (hC : jOk C X own cc nL n d) {idx ci j : Nat} (fl : jFL own idx ci j false) {ji : Int} (hj : (j : Int) = ji) (h0 : jft ci j = 0) {a z : Int} (hk : jkd a = ci) (hd : decode cc pc = .ok (.putfield idx, 3)) {M1 : jM} (hM : M1 = jst M a ji z) (k : jG C X n nL kc ks (pc + 3) ls st M1) : jG C X n nL kc ks pc ls (jI z :: jA a :: st) M := by
  subst hj
  exact jG_putv hC fl hk hd (v := jI z) (by unfold jfv; rw [h0]; rfl) (fun ty t0 _ _ => by rw [t0 h0]; exact ⟨rfl, rfl⟩) hM k
theorem x_pz (hC : jOk C X own cc nL n d) {idx ci j : Nat} (fl : jFL own idx ci j false) {ji : Int} (hj : (j : Int) = ji) (h0 : jft ci j = 2) {a z : Int} (hz : jw z = 0 ∨ jw z = 1) (hk : jkd a = ci) (hd : decode cc pc = .ok (.putfield idx, 3)) {M1 : jM} (hM : M1 = jst M a ji z) (k : jG C X n nL kc ks (pc + 3) ls st M1) : jG C X n nL kc ks pc ls (jI z :: jA a :: st) M := by
  subst hj
  exact jG_putv hC fl hk hd (v := jI z) (by unfold jfv; rw [h0]; rfl) (fun ty _ t2 _ => by
    rw [t2 h0]
    have : Int32.ofInt z = 0 ∨ Int32.ofInt z = 1 := by
      rcases hz with q | q
      · exact Or.inl (j_eq0.mpr q)
      · exact Or.inr ((j_eq (a := z) (b := 1)).mpr (by rw [q]; decide))
    show narrow .boolean (.int (Int32.ofInt z)) = .int (Int32.ofInt z) ∧ fits .boolean (.int (Int32.ofInt z)) = true
    rcases this with q | q <;> rw [q] <;> exact ⟨by decide, by decide⟩) hM k
theorem x_pr (hC : jOk C X own cc nL n d) {idx ci j : Nat} (fl : jFL own idx ci j false) {ji : Int} (hj : (j : Int) = ji) (h0 : jft ci j = 1) {a z : Int} (hk : jkd a = ci) (hd : decode cc pc = .ok (.putfield idx, 3)) {M1 : jM} (hM : M1 = jst M a ji z) (k : jG C X n nL kc ks (pc + 3) ls st M1) : jG C X n nL kc ks pc ls (jA z :: jA a :: st) M := by
  subst hj
  exact jG_putv hC fl hk hd (v := jA z) (by unfold jfv; rw [if_pos h0]; rfl) (fun ty _ _ t1 => by
    show narrow ty (va_rf (jro X z)) = va_rf (jro X z) ∧ fits ty (va_rf (jro X z)) = true
    rcases t1 h0 with ⟨nm, rfl⟩ | ⟨t, rfl⟩ <;> cases jro X z <;> exact ⟨rfl, rfl⟩) hM k
theorem x_iald (hC : jOk C X own cc nL n d) {a i : Int} (hk : jkd a = 12) (hi : 0 ≤ jw i ∧ jw i < jln a) (hd : decode cc pc = .ok (.iaload, 1)) (k : jG C X n nL kc ks (pc + 1) ls (jI (M a (jw i)) :: st) M) : jG C X n nL kc ks pc ls (jI i :: jA a :: st) M := by
  obtain ⟨p, l, e, R, s, m, args, below, meth, c, Q⟩ := C
  obtain ⟨hx, hb, hml, hown, hts, hO, hn, -⟩ := hC
  obtain ⟨ha1, ha2⟩ := jk179 hk (by decide) (by decide)
  intro H locs la hH hS hL
  have h2 := k H locs la hH hS hL
  rw [List.map_cons, List.map_cons, jcv_p X ha1]
  have he := jws_get (X := X) (n := n) (M := M) ha1 (by omega)
  rw [jE_i hk (Or.inr rfl)] at he
  refine va_iald hx hb hO.1 hH.1 _ 1 he rfl (j_vin hi.1 hi.2) hd ?_
  rw [j_nc, show (((jw i).toNat : Nat) : Int) = jw i by omega]
  exact h2
theorem x_bald (hC : jOk C X own cc nL n d) {a i : Int} (hk : jkd a = 11) (hi : 0 ≤ jw i ∧ jw i < jln a) (hd : decode cc pc = .ok (.baload, 1)) (k : jG C X n nL kc ks (pc + 1) ls (jI (M a (jw i)) :: st) M) : jG C X n nL kc ks pc ls (jI i :: jA a :: st) M := by
  obtain ⟨p, l, e, R, s, m, args, below, meth, c, Q⟩ := C
  obtain ⟨hx, hb, hml, hown, hts, hO, hn, -⟩ := hC
  obtain ⟨ha1, ha2⟩ := jk179 hk (by decide) (by decide)
  intro H locs la hH hS hL
  have h2 := k H locs la hH hS hL
  rw [List.map_cons, List.map_cons, jcv_p X ha1]
  have he := jws_get (X := X) (n := n) (M := M) ha1 (by omega)
  rw [jE_i hk (Or.inl rfl)] at he
  refine va_bald hx hb hO.1 hH.1 _ 0 he rfl (j_vin hi.1 hi.2) hd ?_
  rw [j_nc, show (((jw i).toNat : Nat) : Int) = jw i by omega]
  exact h2
theorem x_lald (hC : jOk C X own cc nL n d) {a i : Int} (hk : jkd a = 13) (hna : a ≤ (n : Int)) (hi : 0 ≤ jw i ∧ jw i < jln a) (hd : decode cc pc = .ok (.laload, 1)) (k : jG C X n nL kc ks (pc + 1) ls (jJ (M a (jw i)) :: st) M) : jG C X n nL kc ks pc ls (jI i :: jA a :: st) M := by
  obtain ⟨p, l, e, R, s, m, args, below, meth, c, Q⟩ := C
  obtain ⟨hx, hb, hml, hown, hts, hO, hn, -⟩ := hC
  obtain ⟨ha1, ha2⟩ := jkd_in (a := a) (by rw [hk]; decide)
  intro H locs la hH hS hL
  have h2 := k H locs la hH hS hL
  rw [List.map_cons, List.map_cons, jcv_p X ha1]
  have he := jws_get (X := X) (n := n) (M := M) ha1 hna
  rw [jE_l hk] at he
  refine va_lald hx hb hO.1 hH.1 _ 2 he rfl (j_vin hi.1 hi.2) hd ?_
  rw [j_nc, show (((jw i).toNat : Nat) : Int) = jw i by omega]
  exact h2
theorem x_alen (hC : jOk C X own cc nL n d) {a : Int} (hk : jkd a = 12) (hd : decode cc pc = .ok (.arraylength, 1)) (k : jG C X n nL kc ks (pc + 1) ls (jI (jln a) :: st) M) : jG C X n nL kc ks pc ls (jA a :: st) M := by
  obtain ⟨p, l, e, R, s, m, args, below, meth, c, Q⟩ := C
  obtain ⟨hx, hb, hml, hown, hts, hO, hn, -⟩ := hC
  obtain ⟨ha1, ha2⟩ := jk179 hk (by decide) (by decide)
  intro H locs la hH hS hL
  have h2 := k H locs la hH hS hL
  rw [List.map_cons, jcv_p X ha1]
  have he := jws_get (X := X) (n := n) (M := M) ha1 (by omega)
  rw [jE_i hk (Or.inr rfl)] at he
  have h0 : 0 ≤ jln a := by unfold jln; exact Int.natCast_nonneg _
  exact va_alen hx hb hO.1 hH.1 _ 1 he rfl (v := Int32.ofInt (jln a)) (by
    show Int32.ofNat (jln a).toNat = Int32.ofInt (jln a)
    have : Int32.ofInt ((jln a).toNat : Int) = Int32.ofNat (jln a).toNat := by first | exact Int32.ofInt_natCast _ | rfl | simp
    rw [← this, show (((jln a).toNat : Nat) : Int) = jln a by omega]) hd h2
theorem x_aald14 (hC : jOk C X own cc nL n d) {a i b : Int} (hk : jkd a = 14) (hi : 0 ≤ jw i ∧ jw i < 6) (hb : b = a + 1 + 6 * jw i) (hd : decode cc pc = .ok (.aaload, 1)) (k : jG C X n nL kc ks (pc + 1) ls (jA b :: st) M) : jG C X n nL kc ks pc ls (jI i :: jA a :: st) M := by
  subst hb
  obtain ⟨p, l, e, R, s, m, args, below, meth, c, Q⟩ := C
  obtain ⟨hx, hb, hml, hown, hts, hO, hn, -⟩ := hC
  obtain ⟨ha1, ha2⟩ := jk179 hk (by decide) (by decide)
  intro H locs la hH hS hL
  have h2 := k H locs la hH hS hL
  rw [List.map_cons, List.map_cons, jcv_p X ha1]
  have he := jws_get (X := X) (n := n) (M := M) ha1 (by omega)
  rw [jE_q hk (Or.inl rfl)] at he
  have hl : jln a = 6 := jlen (k := 14) (by decide +kernel) hk
  refine va_aldq hx hb hO.1 hH.1 _ 3 (C := "IceJudge$Skating") he rfl (j_vin hi.1 (by rw [hl]; exact hi.2)) hd ?_
  rw [j_nc, show (((jw i).toNat : Nat) : Int) = jw i by omega, hH.2.2.1 a (jw i) hk (by omega) hi.1 hi.2]
  exact h2
theorem x_aald15 (hC : jOk C X own cc nL n d) {a i b : Int} (hk : jkd a = 15) (hi : 0 ≤ jw i ∧ jw i < 6) (hb : b = a + 6 + 7 * jw i) (hd : decode cc pc = .ok (.aaload, 1)) (k : jG C X n nL kc ks (pc + 1) ls (jA b :: st) M) : jG C X n nL kc ks pc ls (jI i :: jA a :: st) M := by
  subst hb
  obtain ⟨p, l, e, R, s, m, args, below, meth, c, Q⟩ := C
  obtain ⟨hx, hb, hml, hown, hts, hO, hn, -⟩ := hC
  obtain ⟨ha1, ha2⟩ := jk179 hk (by decide) (by decide)
  intro H locs la hH hS hL
  have h2 := k H locs la hH hS hL
  rw [List.map_cons, List.map_cons, jcv_p X ha1]
  have he := jws_get (X := X) (n := n) (M := M) ha1 (by omega)
  rw [jE_q hk (Or.inr rfl)] at he
  have hl : jln a = 6 := jlen (k := 15) (by decide +kernel) hk
  refine va_aldq hx hb hO.1 hH.1 _ 4 (C := "IceJudge$Tally") he rfl (j_vin hi.1 (by rw [hl]; exact hi.2)) hd ?_
  rw [j_nc, show (((jw i).toNat : Nat) : Int) = jw i by omega, hH.2.2.2 a (jw i) hk (by omega) hi.1 hi.2]
  exact h2
theorem j_upd {M : jM} {a i z : Int} (h0 : 0 ≤ i) : (fun j : Nat => Int32.ofInt (jst M a i z a (j : Int))) = upd (fun j : Nat => Int32.ofInt (M a (j : Int))) i.toNat (Int32.ofInt z) := by
  funext j
  unfold upd
  by_cases h : j = i.toNat
  · subst h
    rw [if_pos rfl, show ((i.toNat : Nat) : Int) = i by omega, jst_at]
  · rw [if_neg h, jst_i M (by omega)]
theorem x_iast (hC : jOk C X own cc nL n d) {a i z : Int} (hk : jkd a = 12) (hi : 0 ≤ jw i ∧ jw i < jln a) (hd : decode cc pc = .ok (.iastore, 1)) {M1 : jM} (hM : M1 = jst M a (jw i) z) (k : jG C X n nL kc ks (pc + 1) ls st M1) : jG C X n nL kc ks pc ls (jI z :: jI i :: jA a :: st) M := by
  subst hM
  obtain ⟨p, l, e, R, s, m, args, below, meth, c, Q⟩ := C
  obtain ⟨hx, hb, hml, hown, hts, hO, hn, -⟩ := hC
  obtain ⟨ha1, ha2⟩ := jk179 hk (by decide) (by decide)
  intro H locs la hH hS hL
  rw [List.map_cons, List.map_cons, List.map_cons, jcv_p X ha1]
  have he := jws_get (X := X) (n := n) (M := M) ha1 (by omega)
  rw [jE_i hk (Or.inr rfl)] at he
  have hset := jws_set (X := X) (n := n) (M := M) (M' := jst M a (jw i) z) ha1 (by omega) (fun b hb => jE_st_ne hb)
  rw [jE_i hk (Or.inr rfl), j_upd hi.1] at hset
  refine va_iast hx hb hO.1 hH.1 (jws_D X n M) hS _ 1 he rfl (j_vin hi.1 hi.2) hd (fun H1 locs1 hP1 hD1 hS1 => k H1 locs1 la ⟨?_, hH.2.st (fun _ _ h => by rw [hk] at h; omega) (by rw [hk]; decide) (by rw [hk]; decide)⟩ hS1 hL)
  rw [j_nc, hset] at hP1
  exact hP1
theorem x_bast (hC : jOk C X own cc nL n d) {a i z : Int} (hk : jkd a = 11) (hi : 0 ≤ jw i ∧ jw i < jln a) (hd : decode cc pc = .ok (.bastore, 1)) {M1 : jM} (hM : M1 = jst M a (jw i) (jb8 z)) (k : jG C X n nL kc ks (pc + 1) ls st M1) : jG C X n nL kc ks pc ls (jI z :: jI i :: jA a :: st) M := by
  subst hM
  obtain ⟨p, l, e, R, s, m, args, below, meth, c, Q⟩ := C
  obtain ⟨hx, hb, hml, hown, hts, hO, hn, -⟩ := hC
  obtain ⟨ha1, ha2⟩ := jk179 hk (by decide) (by decide)
  intro H locs la hH hS hL
  rw [List.map_cons, List.map_cons, List.map_cons, jcv_p X ha1]
  have he := jws_get (X := X) (n := n) (M := M) ha1 (by omega)
  rw [jE_i hk (Or.inl rfl)] at he
  have hset := jws_set (X := X) (n := n) (M := M) (M' := jst M a (jw i) (jb8 z)) ha1 (by omega) (fun b hb => jE_st_ne hb)
  rw [jE_i hk (Or.inl rfl), j_upd hi.1] at hset
  refine va_bast hx hb hO.1 hH.1 (jws_D X n M) hS _ 0 he rfl (j_vin hi.1 hi.2) hd (fun H1 locs1 hP1 hD1 hS1 => k H1 locs1 la ⟨?_, hH.2.st (fun _ _ h => by rw [hk] at h; omega) (by rw [hk]; decide) (by rw [hk]; decide)⟩ hS1 hL)
  rw [vp_nar_byte, j_nc, show (Int32.ofInt z).toInt8.toInt32 = Int32.ofInt (jb8 z) from j_i2b z, hset] at hP1
  exact hP1
theorem x_last (hC : jOk C X own cc nL n d) {a i z : Int} (hk : jkd a = 13) (hna : a ≤ (n : Int)) (hi : 0 ≤ jw i ∧ jw i < jln a) (hd : decode cc pc = .ok (.lastore, 1)) {M1 : jM} (hM : M1 = jst M a (jw i) z) (k : jG C X n nL kc ks (pc + 1) ls st M1) : jG C X n nL kc ks pc ls (jJ z :: jI i :: jA a :: st) M := by
  subst hM
  obtain ⟨p, l, e, R, s, m, args, below, meth, c, Q⟩ := C
  obtain ⟨hx, hb, hml, hown, hts, hO, hn, -⟩ := hC
  obtain ⟨ha1, ha2⟩ := jkd_in (a := a) (by rw [hk]; decide)
  intro H locs la hH hS hL
  rw [List.map_cons, List.map_cons, List.map_cons, jcv_p X ha1]
  have he := jws_get (X := X) (n := n) (M := M) ha1 hna
  rw [jE_l hk] at he
  have hset := jws_set (X := X) (n := n) (M := M) (M' := jst M a (jw i) z) ha1 hna (fun b hb => jE_st_ne hb)
  have hu : (fun j : Nat => Int64.ofInt (jst M a (jw i) z a (j : Int))) = vp_updL (fun j : Nat => Int64.ofInt (M a (j : Int))) (jw i).toNat (Int64.ofInt z) := by
    funext j
    unfold vp_updL
    by_cases h : j = (jw i).toNat
    · subst h
      rw [if_pos rfl, show (((jw i).toNat : Nat) : Int) = jw i by omega, jst_at]
    · rw [if_neg h, jst_i M (by omega)]
  rw [jE_l hk, hu] at hset
  refine va_last hx hb hO.1 hH.1 (jws_D X n M) hS _ 2 he rfl (j_vin hi.1 hi.2) hd (fun H1 locs1 hP1 hD1 hS1 => k H1 locs1 la ⟨?_, hH.2.st (fun _ _ h => by rw [hk] at h; omega) (by rw [hk]; decide) (by rw [hk]; decide)⟩ hS1 hL)
  rw [j_nc, hset] at hP1
  exact hP1
end JH
