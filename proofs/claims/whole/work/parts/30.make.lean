/-! ===== making the objects; by program ===== -/
def jHc (X : jX) (n : Nat) (M : jM) (H : Heap) : Prop := va_P (jXD X) vwCl (jws X n M) H ∧ ∀ a j : Int, (n : Int) < a → M a j = 0
def jAos (s : State) : Prop := va_AO "IceJudge$Skating" s ∧ va_AO "IceJudge$Tally" s
def jOc (C : jC) (X : jX) (own : String) (cc : ByteArray) (nL n0 d mc ms : Nat) : Prop := match C with
  | (p, l, _, R, s, m, args, _, meth, c, _) => p.tables.exec = Jvm.exec ∧ c.code = cc ∧ c.maxLocals = nL ∧ s.vm.findClass own = some m.cls ∧ (∀ w ∈ jTB, w.before args s = true) ∧ jO X s s.heap ∧ s.heap.size = jXB X + n0 ∧ d ≤ R.frames ∧ 100 * d ≤ R.locals ∧ meth.locks = false ∧ l = jXl X ∧ jAos s ∧ mc ≤ R.cells ∧ ms ≤ R.slots
def jIn (C : jC) : Prop := match C with
  | (_, _, _, _, _, _, _, _, meth, _, _) => meth.name = "<init>"
def jK (C : jC) (X : jX) (n0 nL kc ks pc : Nat) (ls st : List jV) (M : jM) : Prop := match C with
  | (p, l, e, R, s, m, args, below, meth, c, Q) => ∀ (H : Heap) (locs : List Loc) (la : Array Slot), jHc X (n0 + kc) M H → va_S (jAd X) s.heap H locs → jLo X nL la ls → W p l e R s m args below meth c H locs kc ks Q (F0 m pc la (st.map (jcv X)))
theorem jK_size {p : Program} {l : Launch} {e : Env} {R : Room} {s : State} {m : MethodId} {args : Array Value} {below : List Frame} {meth : Method} {c : Code} {T : State} {H : Heap} {locs : List Loc} {X : jX} {n0 kc ks : Nat} {M : jM} (XX : Stand p l e R s m args below meth c T locs kc ks) (hT : T.heap = H) (hsz : s.heap.size = jXB X + n0) (hH : jHc X (n0 + kc) M H) (hS : va_S (jAd X) s.heap H locs) : H.size = jXB X + (n0 + kc) := by
  have h1 : H.size ≤ s.heap.size + kc := by
    have := XX.same.2.2.1
    rw [← hT]
    exact this
  have h2 : jXB X + (n0 + kc) ≤ H.size := by
    rcases Nat.eq_zero_or_pos (n0 + kc) with q | q
    · have := hS.1
      omega
    · have he := jws_get (X := X) (n := n0 + kc) (M := M) (a := ((n0 + kc : Nat) : Int)) (by omega) (by omega)
      have := (hH.1 _ _ he).lt
      simp only [Int.toNat_natCast] at this
      omega
  omega
theorem jws_succ (X : jX) (n : Nat) (M : jM) : jws X (n + 1) M = jws X n M ++ [(jXB X + n, jE X M ((n : Int) + 1))] := by
  unfold jws
  rw [List.range_succ, List.map_append]
  rfl
section JKR
variable {C : jC} {X : jX} {own : String} {cc : ByteArray} {n0 nL d mc ms kc ks pc : Nat} {ls st : List jV} {M : jM}
theorem k_iconst (hC : jOc C X own cc nL n0 d mc ms) {z : Int} (hd : decode cc pc = .ok (.iconst z, 1)) (k : jK C X n0 nL kc ks (pc + 1) ls (jI z :: st) M) : jK C X n0 nL kc ks pc ls st M := by
  obtain ⟨p, l, e, R, s, m, args, below, meth, c, Q⟩ := C
  obtain ⟨hx, hb, -⟩ := hC
  intro H locs la hH hS hL
  exact lv_iconst hx hb hd rfl (k H locs la hH hS hL)
theorem k_bipush (hC : jOc C X own cc nL n0 d mc ms) {z : Int} (hd : decode cc pc = .ok (.bipush z, 2)) (hz : (Int8.ofInt z).toInt32 = Int32.ofInt z) (k : jK C X n0 nL kc ks (pc + 2) ls (jI z :: st) M) : jK C X n0 nL kc ks pc ls st M := by
  obtain ⟨p, l, e, R, s, m, args, below, meth, c, Q⟩ := C
  obtain ⟨hx, hb, -⟩ := hC
  intro H locs la hH hS hL
  exact lv_bipush hx hb hd hz (k H locs la hH hS hL)
theorem k_sipush (hC : jOc C X own cc nL n0 d mc ms) {z : Int} (hd : decode cc pc = .ok (.sipush z, 3)) (hz : (Int16.ofInt z).toInt32 = Int32.ofInt z) (k : jK C X n0 nL kc ks (pc + 3) ls (jI z :: st) M) : jK C X n0 nL kc ks pc ls st M := by
  obtain ⟨p, l, e, R, s, m, args, below, meth, c, Q⟩ := C
  obtain ⟨hx, hb, -⟩ := hC
  intro H locs la hH hS hL
  exact lv_sipush hx hb hd hz (k H locs la hH hS hL)
theorem k_iload_n (hC : jOc C X own cc nL n0 d mc ms) {f : Fin 4} {i : Nat} {z : Int} (hd : decode cc pc = .ok (.iload_n f, 1)) (hi : (f : Nat) = i) (hl : ls[i]? = some (jI z)) (k : jK C X n0 nL kc ks (pc + 1) ls (jI z :: st) M) : jK C X n0 nL kc ks pc ls st M := by
  obtain ⟨p, l, e, R, s, m, args, below, meth, c, Q⟩ := C
  obtain ⟨hx, hb, -⟩ := hC
  intro H locs la hH hS hL
  exact lv_iload_n hx hb hd hi (hL.at hl (show (1 : Nat) ≠ 0 by decide)) (k H locs la hH hS hL)
theorem k_aload_n (hC : jOc C X own cc nL n0 d mc ms) {f : Fin 4} {i : Nat} {v : jV} {q : Nat} (hd : decode cc pc = .ok (.aload_n f, 1)) (hi : (f : Nat) = i) (hl : ls[i]? = some v) (hv : v.1 ≠ 0) (hq : jcv X v = .ref q) (k : jK C X n0 nL kc ks (pc + 1) ls (v :: st) M) : jK C X n0 nL kc ks pc ls st M := by
  obtain ⟨p, l, e, R, s, m, args, below, meth, c, Q⟩ := C
  obtain ⟨hx, hb, -⟩ := hC
  intro H locs la hH hS hL
  have h1 := hL.at hl hv
  rw [hq] at h1
  have h2 := k H locs la hH hS hL
  rw [List.map_cons, hq] at h2
  exact lv_aload_n hx hb hd hi h1 h2
theorem k_istore_n (hC : jOc C X own cc nL n0 d mc ms) {f : Fin 4} {i : Nat} {z y : Int} {ls2 : List jV} (hd : decode cc pc = .ok (.istore_n f, 1)) (hf : (f : Nat) = i) (hi : i < nL) (hn : jnl ls i = true) (hy : y = z) (hls : ls.set i (jI y) = ls2) (k : jK C X n0 nL kc ks (pc + 1) ls2 st M) : jK C X n0 nL kc ks pc ls (jI z :: st) M := by
  obtain ⟨p, l, e, R, s, m, args, below, meth, c, Q⟩ := C
  obtain ⟨hx, hb, -⟩ := hC
  intro H locs la hH hS hL
  subst hf hy hls
  have hL0 := lv_istore_n (x := Int32.ofInt y) (lv' := (f.val, Value.int (Int32.ofInt y)) :: (jal X 0 ls).filter (fun q => !(q.1 == f.val) && !(q.1 + 1 == f.val && q.2.category == 2))) hx hb hd rfl hL hi rfl (rest := st.map (jcv X)) (p := p) (l := l) (e := e) (R := R) (s := s) (m := m) (args := args) (below := below) (meth := meth) (c := c) (H := H) (locs := locs) (cells := kc) (slots := ks) (Q := Q)
  exact hL0 (fun la' h' => k H locs la' hH hS (jLo.ofStore (v := (1, y)) h' hn (show (1 : Nat) ≠ 3 by decide)))
theorem k_iinc (hC : jOc C X own cc nL n0 d mc ms) {i : Nat} {z y dz : Int} (hd : decode cc pc = .ok (.iinc i dz, 3)) (hl : ls[i]? = some (jI z)) (hi : i < nL) (hn : jnl ls i = true) (hy : y = z + dz) {ls2 : List jV} (hls : ls.set i (jI y) = ls2) (k : jK C X n0 nL kc ks (pc + 3) ls2 st M) : jK C X n0 nL kc ks pc ls st M := by
  obtain ⟨p, l, e, R, s, m, args, below, meth, c, Q⟩ := C
  obtain ⟨hx, hb, -⟩ := hC
  intro H locs la hH hS hL
  subst hy hls
  have hm : ((i, jcv X (1, z)) : Nat × Value) ∈ jal X 0 ls := jal_mem.mpr ⟨i, _, hl, show (1 : Nat) ≠ 0 by decide, by rw [Nat.zero_add]⟩
  obtain ⟨q, hq⟩ := List.getElem?_of_mem hm
  exact lv_iinc (x := Int32.ofInt z) (v := Int32.ofInt (z + dz)) hx hb hd hL hq (Int32.ofInt_add z dz).symm hi rfl (fun la' h' => k H locs la' hH hS (jLo.ofStore (v := (1, z + dz)) h' hn (show (1 : Nat) ≠ 3 by decide)))
theorem k_imul (hC : jOc C X own cc nL n0 d mc ms) {a b : Int} (hd : decode cc pc = .ok (.imul, 1)) (k : jK C X n0 nL kc ks (pc + 1) ls (jI (a * b) :: st) M) : jK C X n0 nL kc ks pc ls (jI b :: jI a :: st) M := by
  obtain ⟨p, l, e, R, s, m, args, below, meth, c, Q⟩ := C
  obtain ⟨hx, hb, -⟩ := hC
  intro H locs la hH hS hL
  have h2 := k H locs la hH hS hL
  rw [List.map_cons, jcv_i, Int32.ofInt_mul] at h2
  exact lv_imul hx hb hd  h2
theorem k_dup (hC : jOc C X own cc nL n0 d mc ms) {v : jV} (hd : decode cc pc = .ok (.dup, 1)) (hv : v.1 ≠ 3) (k : jK C X n0 nL kc ks (pc + 1) ls (v :: v :: st) M) : jK C X n0 nL kc ks pc ls (v :: st) M := by
  obtain ⟨p, l, e, R, s, m, args, below, meth, c, Q⟩ := C
  obtain ⟨hx, hb, -⟩ := hC
  intro H locs la hH hS hL
  have h2 := k H locs la hH hS hL
  exact lv_dup hx hb hd (j_cat1 X hv) h2
theorem k_goto (hC : jOc C X own cc nL n0 d mc ms) {off : Int} {tgt : Nat} (hd : decode cc pc = .ok (.goto off, 3)) (ht : (pc : Int) + off = (tgt : Int)) (k : jK C X n0 nL kc ks tgt ls st M) : jK C X n0 nL kc ks pc ls st M := by
  obtain ⟨p, l, e, R, s, m, args, below, meth, c, Q⟩ := C
  obtain ⟨hx, hb, -⟩ := hC
  intro H locs la hH hS hL
  exact lv_goto hx hb hd ht (k H locs la hH hS hL)
theorem k_icmp_ge (hC : jOc C X own cc nL n0 d mc ms) {a b off : Int} {tgt : Nat} (hd : decode cc pc = .ok (.if_icmp .ge off, 3)) (ht : (pc : Int) + off = (tgt : Int)) (kt : jw b ≤ jw a → jK C X n0 nL kc ks tgt ls st M) (kf : ¬ (jw b ≤ jw a) → jK C X n0 nL kc ks (pc + 3) ls st M) : jK C X n0 nL kc ks pc ls (jI b :: jI a :: st) M := by
  obtain ⟨p, l, e, R, s, m, args, below, meth, c, Q⟩ := C
  obtain ⟨hx, hb, -⟩ := hC
  intro H locs la hH hS hL
  exact lv_icmp_ge hx hb hd ht (fun h => kt (j_le.mp h) H locs la hH hS hL) (fun h => kf (fun q => h (j_le.mpr q)) H locs la hH hS hL)
theorem k_aloadA_n (hC : jOc C X own cc nL n0 d mc ms) {f : Fin 4} {i : Nat} {a : Int} {kk : Nat} (hd : decode cc pc = .ok (.aload_n f, 1)) (hi : (f : Nat) = i) (hl : ls[i]? = some (jA a)) (hk : jkd a = kk) (h99 : kk ≠ 99) (k : jK C X n0 nL kc ks (pc + 1) ls (jA a :: st) M) : jK C X n0 nL kc ks pc ls st M := k_aload_n hC hd hi hl (show (2 : Nat) ≠ 0 by decide) (jcv_p X (j_pos hk h99)) k
theorem k_kill (i : Nat) {ls2 : List jV} (hls : ls.set i jN = ls2) (k : jK C X n0 nL kc ks pc ls2 st M) : jK C X n0 nL kc ks pc ls st M := by
  subst hls
  obtain ⟨p, l, e, R, s, m, args, below, meth, c, Q⟩ := C
  intro H locs la hH hS hL
  refine k H locs la hH hS ⟨hL.1, hL.2.1, fun q hq => hL.2.2 q ?_⟩
  obtain ⟨j, w, h1, h2, h3⟩ := jal_mem.mp hq
  refine jal_mem.mpr ⟨j, w, ?_, h2, h3⟩
  by_cases hj : j = i
  · subst hj
    have hl : j < ls.length := by
      have := (List.getElem?_eq_some_iff.mp h1).1
      simpa using this
    rw [List.getElem?_set_self hl] at h1
    cases h1
    exact absurd rfl h2
  · rwa [List.getElem?_set_ne (Ne.symm hj)] at h1
theorem k_gst (hC : jOc C X own cc nL n0 d mc ms) {idx k : Nat} (hk : k < 3) (sl : jSL own idx k) (hd : decode cc pc = .ok (.getstatic idx, 3)) (kk : jK C X n0 nL kc ks (pc + 3) ls ((5, (k : Int)) :: st) M) : jK C X n0 nL kc ks pc ls st M := by
  obtain ⟨p, l, e, R, s, m, args, below, meth, c, Q⟩ := C
  obtain ⟨hx, hb, hml, hown, hts, hO, -⟩ := hC
  intro H locs la hH hS hL
  have h2 := kk H locs la hH hS hL
  have hv : jcv X (5, (k : Int)) = .ref (jXt X k) := rfl
  rw [List.map_cons, hv] at h2
  rcases sl with h | ⟨host, h⟩
  · exact va_gets hx hb (hO.2.2.1 k hk).1 hS hown (hts _ h) (fun _ q => q) hd h2
  · exact va_getsN hx hb (hO.2.2.1 k hk).1 hS hown (va_Nw.use rfl (hO.2.1 _ h)) (fun _ q => q) hd h2
theorem jK_getv (hC : jOc C X own cc nL n0 d mc ms) {idx ci j : Nat} {fin : Bool} (fl : jFL own idx ci j fin) {a : Int} (hk : jkd a = ci) (hd : decode cc pc = .ok (.getfield idx, 3)) {v : jV} (hna : a ≤ ((n0 + kc : Nat) : Int)) (hv : jcv X v = jfv X (jft ci j) (M a (j : Int))) (k : jK C X n0 nL kc ks (pc + 3) ls (v :: st) M) : jK C X n0 nL kc ks pc ls (jA a :: st) M := by
  obtain ⟨p, l, e, R, s, m, args, below, meth, c, Q⟩ := C
  obtain ⟨hx, hb, hml, hown, hts, hO, -⟩ := hC
  obtain ⟨Cn, T, N, ty, hc, hj, hin, hty, hnm, hlink, hself, hfin, hN, h11, -⟩ := fl
  obtain ⟨ha1, ha2⟩ := jk179 hk (by omega) (by omega)
  intro H locs la hH hS hL
  have h2 := k H locs la hH hS hL
  rw [List.map_cons, hv] at h2
  rw [List.map_cons, jcv_p X ha1]
  have hE : jE X M a = .inr (ci, (List.range N).map (fun j => jfv X (jft ci j) (M a (j : Int)))) := by rw [jE_o hk h11, hN a hk]
  have he := jws_get (X := X) (n := n0 + kc) (M := M) ha1 (by omega)
  rw [hE] at he
  have hval : ((List.range N).map (fun j => jfv X (jft ci j) (M a (j : Int))))[j]? = some (jfv X (jft ci j) (M a (j : Int))) := by rw [List.getElem?_map, List.getElem?_range hj]; rfl
  rcases hlink with h | ⟨host, h⟩
  · exact va_get (D := jXD X) (ci := ci) (C := Cn) (T := T) (N := N) hx hb hts hin hown hO.1 hH.1 _ he hc j hj (hts _ h) (fun _ q => by rw [hself] at q; exact q) hval hd h2
  · exact va_getN (D := jXD X) (ci := ci) (C := Cn) (T := T) (N := N) hx hb hts hin hown hO.1 hH.1 _ he hc j hj (va_Nw.use rfl (hO.2.1 _ h)) (fun _ q => by rw [hself] at q; exact q) hval hd h2
theorem k_gr (hC : jOc C X own cc nL n0 d mc ms) {idx ci j : Nat} {fin : Bool} (fl : jFL own idx ci j fin) (h0 : jft ci j = 1) {a b : Int} (hk : jkd a = ci) (hna : a ≤ ((n0 + kc : Nat) : Int)) (hb : M a (j : Int) = b) (hd : decode cc pc = .ok (.getfield idx, 3)) (k : jK C X n0 nL kc ks (pc + 3) ls (jA b :: st) M) : jK C X n0 nL kc ks pc ls (jA a :: st) M := by
  subst hb
  exact jK_getv hC fl hk hd hna (v := jA (M a (j : Int))) (by unfold jfv; rw [if_pos h0]; rfl) k
def jFD (own : String) (idx ci j : Nat) : Prop := ∃ (Cn : String) (T : u_T) (N : Nat), vwCl[ci]? = some (Cn, T, N) ∧ own = Cn ∧ Cond.fieldLink own idx Cn (T j).2.1 (T j).2.2.1 ∈ jTB
theorem jK_putv (hC : jOc C X own cc nL n0 d mc ms) {idx ci j : Nat} (fin : Bool) (hini : fin = true → jIn C ∧ jFD own idx ci j) (fl : jFL own idx ci j fin) {a z : Int} (hk : jkd a = ci) (hna : a ≤ ((n0 + kc : Nat) : Int)) (hd : decode cc pc = .ok (.putfield idx, 3)) {v : jV} (hv : jcv X v = jfv X (jft ci j) z) (hfit : ∀ ty : FieldType, (jft ci j = 0 → ty = .int) → (jft ci j = 2 → ty = .boolean) → (jft ci j = 1 → (∃ nm, ty = .object nm) ∨ ∃ t, ty = .array t) → narrow ty (jcv X v) = jcv X v ∧ fits ty (jcv X v) = true) {M1 : jM} (hM : M1 = jst M a (j : Int) z) (k : jK C X n0 nL kc ks (pc + 3) ls st M1) : jK C X n0 nL kc ks pc ls (v :: jA a :: st) M := by
  subst hM
  obtain ⟨p, l, e, R, s, m, args, below, meth, c, Q⟩ := C
  obtain ⟨hx, hb, hml, hown, hts, hO, -⟩ := hC
  obtain ⟨Cn, T, N, ty, hc, hj, hin, hty, hnm, hlink, hself, hfin, hN, h11, t0, t2, t1, hnf⟩ := fl
  obtain ⟨ha1, ha2⟩ := jk179 hk (by omega) (by omega)
  intro H locs la hH hS hL
  rw [List.map_cons, List.map_cons, jcv_p X ha1]
  have hE : jE X M a = .inr (ci, (List.range N).map (fun j => jfv X (jft ci j) (M a (j : Int)))) := by rw [jE_o hk h11, hN a hk]
  have hE' : jE X (jst M a (j : Int) z) a = .inr (ci, ((List.range N).map (fun j => jfv X (jft ci j) (M a (j : Int)))).set j (jcv X v)) := by
    rw [jE_o hk h11, hN a hk]
    have := j_rm (f := fun i => jfv X (jft ci i) (M a (i : Int))) (f' := fun i => jfv X (jft ci i) (jst M a (j : Int) z a (i : Int))) hj (fun i hi => by
      show jfv X (jft ci i) (jst M a (j : Int) z a (i : Int)) = jfv X (jft ci i) (M a (i : Int))
      rw [jst_i M (by omega)])
    rw [← this, jst_at, hv]
  have he := jws_get (X := X) (n := n0 + kc) (M := M) ha1 (by omega)
  rw [hE] at he
  have hset := jws_set (X := X) (n := n0 + kc) (M := M) (M' := jst M a (j : Int) z) ha1 (by omega) (fun b hb => jE_st_ne hb)
  rw [hE'] at hset
  obtain ⟨f1, f2⟩ := hfit (ty j) t0 t2 t1
  have hz0 : ∀ b i : Int, ((n0 + kc : Nat) : Int) < b → jst M a (j : Int) z b i = 0 := fun b i hb => by rw [jst_c M (by omega)]; exact hH.2 b i hb
  have kk : ∀ (H1 : Heap) (locs1 : List Loc), va_P (jXD X) vwCl ((jws X (n0 + kc) M).set (a.toNat - 1) (jXB X + a.toNat - 1, .inr (ci, ((List.range N).map (fun j => jfv X (jft ci j) (M a (j : Int)))).set j (jcv X v)))) H1 → va_D (jAd X) ((jws X (n0 + kc) M).set (a.toNat - 1) (jXB X + a.toNat - 1, .inr (ci, ((List.range N).map (fun j => jfv X (jft ci j) (M a (j : Int)))).set j (jcv X v)))) → va_S (jAd X) s.heap H1 locs1 → W p l e R s m args below meth c H1 locs1 kc ks Q (F0 m (pc + 3) la (st.map (jcv X))) := fun H1 locs1 hP1 hD1 hS1 => k H1 locs1 la ⟨by rw [hset] at hP1; exact hP1, hz0⟩ hS1 hL
  cases fin with
  | false =>
    rcases hlink with h | ⟨host, h⟩
    · exact va_put (D := jXD X) (ci := ci) (C := Cn) (T := T) (N := N) hx hb hts hin ty hty hnm hown hO.1 hH.1 (jws_D X (n0 + kc) M) hS _ he hc j hj (hts _ h) (fun _ q => by rw [hself] at q; exact q) hfin (hty j hj) f1 f2 (by simp; omega) hd kk
    · exact va_putN (D := jXD X) (ci := ci) (C := Cn) (T := T) (N := N) hx hb hts hin ty hty hnm hown hO.1 hH.1 (jws_D X (n0 + kc) M) hS _ he hc j hj (va_Nw.use rfl (hO.2.1 _ h)) (fun _ q => by rw [hself] at q; exact q) hfin (hty j hj) f1 f2 (by simp; omega) hd kk
  | true =>
    obtain ⟨i1, C9, T9, N9, i2, i3, i4⟩ := hini rfl
    rw [hc] at i2
    cases i2
    exact va_putF (D := jXD X) (ci := ci) (C := Cn) (T := T) (N := N) hx hb hts hin ty hty hnm hown hO.1 hH.1 (jws_D X (n0 + kc) M) hS _ he hc j hj (hts _ i4) (fun _ q => by rw [hself] at q; exact q) hfin i1 (by rw [hself, i3]) (hty j hj) f1 f2 (by simp; omega) hd kk
theorem k_pi (hC : jOc C X own cc nL n0 d mc ms) {idx ci j : Nat} (fl : jFL own idx ci j false) {ji : Int} (hj : (j : Int) = ji) (h0 : jft ci j = 0) {a z : Int} (hk : jkd a = ci) (hna : a ≤ ((n0 + kc : Nat) : Int)) (hd : decode cc pc = .ok (.putfield idx, 3)) {M1 : jM} (hM : M1 = jst M a ji z) (k : jK C X n0 nL kc ks (pc + 3) ls st M1) : jK C X n0 nL kc ks pc ls (jI z :: jA a :: st) M := by
  subst hj
  exact jK_putv hC false (fun h => by cases h) fl hk hna hd (v := jI z) (by unfold jfv; rw [h0]; rfl) (fun ty t0 _ _ => by rw [t0 h0]; exact ⟨rfl, rfl⟩) hM k
theorem k_pz (hC : jOc C X own cc nL n0 d mc ms) {idx ci j : Nat} (fl : jFL own idx ci j false) {ji : Int} (hj : (j : Int) = ji) (h0 : jft ci j = 2) {a : Int} (hk : jkd a = ci) (hna : a ≤ ((n0 + kc : Nat) : Int)) (hd : decode cc pc = .ok (.putfield idx, 3)) {M1 : jM} (hM : M1 = jst M a ji 0) (k : jK C X n0 nL kc ks (pc + 3) ls st M1) : jK C X n0 nL kc ks pc ls (jI 0 :: jA a :: st) M := by
  subst hj
  exact jK_putv hC false (fun h => by cases h) fl hk hna hd (v := jI 0) (by unfold jfv; rw [h0]; rfl) (fun ty _ t2 _ => by rw [t2 h0]; exact ⟨rfl, rfl⟩) hM k
theorem j_fitR {X : jX} {z : Int} (hz : 1 ≤ z) {ty : FieldType} (h : (∃ nm, ty = .object nm) ∨ ∃ t, ty = .array t) : narrow ty (jcv X (jA z)) = jcv X (jA z) ∧ fits ty (jcv X (jA z)) = true := by
  rw [jcv_p X hz]
  rcases h with ⟨nm, rfl⟩ | ⟨t, rfl⟩ <;> exact ⟨rfl, rfl⟩
theorem k_pr (hC : jOc C X own cc nL n0 d mc ms) {idx ci j : Nat} (fl : jFL own idx ci j false) {ji : Int} (hj : (j : Int) = ji) (h0 : jft ci j = 1) {a z : Int} (hz : 1 ≤ z) (hk : jkd a = ci) (hna : a ≤ ((n0 + kc : Nat) : Int)) (hd : decode cc pc = .ok (.putfield idx, 3)) {M1 : jM} (hM : M1 = jst M a ji z) (k : jK C X n0 nL kc ks (pc + 3) ls st M1) : jK C X n0 nL kc ks pc ls (jA z :: jA a :: st) M := by
  subst hj
  exact jK_putv hC false (fun h => by cases h) fl hk hna hd (v := jA z) (by unfold jfv; rw [h0]; rfl) (fun ty _ _ t1 => j_fitR hz (t1 h0)) hM k
theorem k_pf (hC : jOc C X own cc nL n0 d mc ms) (hI : jIn C) {idx ci j : Nat} (fd : jFD own idx ci j) (fl : jFL own idx ci j true) {ji : Int} (hj : (j : Int) = ji) (h0 : jft ci j = 1) {a z : Int} (hz : 1 ≤ z) (hk : jkd a = ci) (hna : a ≤ ((n0 + kc : Nat) : Int)) (hd : decode cc pc = .ok (.putfield idx, 3)) {M1 : jM} (hM : M1 = jst M a ji z) (k : jK C X n0 nL kc ks (pc + 3) ls st M1) : jK C X n0 nL kc ks pc ls (jA z :: jA a :: st) M := by
  subst hj
  exact jK_putv hC true (fun _ => ⟨hI, fd⟩) fl hk hna hd (v := jA z) (by unfold jfv; rw [h0]; rfl) (fun ty _ _ t1 => j_fitR hz (t1 h0)) hM k
theorem k_pfi (hC : jOc C X own cc nL n0 d mc ms) (hI : jIn C) {idx ci j : Nat} (fd : jFD own idx ci j) (fl : jFL own idx ci j true) {ji : Int} (hj : (j : Int) = ji) (h0 : jft ci j = 0) {a z : Int} (hk : jkd a = ci) (hna : a ≤ ((n0 + kc : Nat) : Int)) (hd : decode cc pc = .ok (.putfield idx, 3)) {M1 : jM} (hM : M1 = jst M a ji z) (k : jK C X n0 nL kc ks (pc + 3) ls st M1) : jK C X n0 nL kc ks pc ls (jI z :: jA a :: st) M := by
  subst hj
  exact jK_putv hC true (fun _ => ⟨hI, fd⟩) fl hk hna hd (v := jI z) (by unfold jfv; rw [h0]; rfl) (fun ty t0 _ _ => by rw [t0 h0]; exact ⟨rfl, rfl⟩) hM k
/-- one cell more -/
theorem jHc.push {X : jX} {n : Nat} {M : jM} {H H1 : Heap} (h : jHc X n M H) (o1 : ∀ q : Nat, q < H.size → H1[q]? = H[q]?) (hat : va_at (jXD X) vwCl (jXB X + n, jE X M ((n : Int) + 1)) H1) : jHc X (n + 1) M H1 := by
  refine ⟨?_, fun a j ha => h.2 a j (by omega)⟩
  rw [jws_succ]
  refine (h.1.kept (fun k x hx => o1 x.1 ((h.1 k x hx).lt))).app (fun k x hx => ?_)
  have hz : k < 1 := (List.getElem?_eq_some_iff.mp hx).1
  rw [show k = 0 by omega] at hx
  cases hx
  exact hat
theorem k_new (hC : jOc C X own cc nL n0 d mc ms) {ik ci N : Nat} {Cn : String} {T : u_T} {ty : Nat → FieldType} (hc : vwCl[ci]? = some (Cn, T, N)) (hin : ∀ w ∈ u_ws Cn T N, w ∈ jTB) (hty : ∀ k, k < N → parseFieldDescriptor (T k).2.2.1 = some (ty k)) (hcl : Cond.classLink own ik Cn ∈ jTB) (hins : Cond.instantiable Cn N ∈ jTB) (hini : Cond.initialized Cn ∈ jTB) (hd0 : ∀ j, j < N → defaultValue (ty j) = (if jft ci j = 1 then .null else .int 0)) {a : Int} (ha : a = ((n0 + kc : Nat) : Int) + 1) (hk : jkd a = ci) (h11 : ci < 11) (hln : (jln a).toNat = N) (hkc : kc + 1 ≤ mc) (hks : ks + N ≤ ms) (hd : decode cc pc = .ok (.new ik, 3)) {kc2 ks2 : Nat} (h2c : kc + 1 = kc2) (h2s : ks + N = ks2) (k : jK C X n0 nL kc2 ks2 (pc + 3) ls (jA a :: st) M) : jK C X n0 nL kc ks pc ls st M := by
  subst ha h2c h2s
  obtain ⟨p, l, e, R, s, m, args, below, meth, c, Q⟩ := C
  obtain ⟨hx, hb, hml, hown, hts, hO, hsz, hfr, hlo, hlk, hl9, hao, hmc, hms⟩ := hC
  intro H locs la hH hS hL Tt hT XX
  have hH0 := jK_size XX hT hsz hH hS
  have hKn := hO.1.1 ci _ hc
  refine W.newcK hx hb hown (hts _ hcl) (hts _ hins) (hts _ hini) (g := F0 m pc la (st.map (jcv X))) rfl hd (by omega) (by omega) hKn.2.1 hH0 (fun H1 kC hkC e1 z1 o1 => ?_) Tt hT XX
  have hat : va_at (jXD X) vwCl (jXB X + (n0 + kc), jE X M (((n0 + kc : Nat) : Int) + 1)) H1 := by
    rw [jE_o hk h11, hln]
    refine ⟨_, hc, (u_born ty hts hin hKn hkC e1 hty).to (fun j hj => ?_)⟩
    rw [hd0 j hj]
    unfold vp_V
    rw [List.getD_eq_getElem?_getD, List.getElem?_map, List.getElem?_range hj]
    show _ = jfv X (jft ci j) (M _ _)
    rw [hH.2 _ _ (by omega)]
    unfold jfv
    split <;> rfl
  have h2 := k H1 locs la (hH.push (by rw [hH0]; exact o1) hat) ⟨Nat.le_trans hS.1 (by omega), fun x h1 h2 => (o1 x (by have := hS.1; omega)).trans (hS.2.1 x h1 h2), hS.2.2⟩ hL
  rw [List.map_cons, jcv_p X (by omega)] at h2
  have e9 : jXB X + (((n0 + kc : Nat) : Int) + 1).toNat - 1 = jXB X + (n0 + kc) := by omega
  rw [e9] at h2
  exact h2
theorem k_newa (hC : jOc C X own cc nL n0 d mc ms) {aty : ArrayType} {ty : FieldType} {kk t0 : Nat} (hty : newarray.typeOf aty = ty) (htk : (jtys X)[t0]? = some (jXc X kk, ty)) (hra : ∀ U cA, va_RA U cA ty → U.vm.findClass ("[" ++ ty.toString) = some cA) (harr : Cond.arrayClass ty ∈ jTB) {a z : Int} {N : Nat} (ha : a = ((n0 + kc : Nat) : Int) + 1) (hE : ∀ (X : jX) (M : jM), (∀ j, M a j = 0) → ∀ H : Heap, H[jXB X + (n0 + kc)]? = some (arrV (jXc X kk) N (fun _ => defaultValue ty)) → va_at (jXD X) vwCl (jXB X + (n0 + kc), jE X M a) H) (hn : ¬ Int32.ofInt z < 0) (hN : (Int32.ofInt z).toNatClampNeg = N) (hby : N * componentBytes ty ≤ 536870912) (hkc : kc + 1 ≤ mc) (hks : ks + N ≤ ms) (hd : decode cc pc = .ok (.newarray aty, 2)) {kc2 ks2 : Nat} (h2c : kc + 1 = kc2) (h2s : ks + N = ks2) (k : jK C X n0 nL kc2 ks2 (pc + 2) ls (jA a :: st) M) : jK C X n0 nL kc ks pc ls (jI z :: st) M := by
  subst hty ha h2c h2s
  obtain ⟨p, l, e, R, s, m, args, below, meth, c, Q⟩ := C
  obtain ⟨hx, hb, hml, hown, hts, hO, hsz, hfr, hlo, hlk, hl9, hao, hmc, hms⟩ := hC
  intro H locs la hH hS hL Tt hT XX
  have hH0 := jK_size XX hT hsz hH hS
  refine va_newaK hx hb (hts _ harr) (g := F0 m pc la ((jI z :: st).map (jcv X))) rfl hd rfl hn hN hby (by omega) (by omega) hH0 (fun H1 cA e1 z1 o1 hAr hNm => ?_) Tt hT XX
  have hcA : cA = jXc X kk := Option.some.inj (hNm.symm.trans (hra _ _ (hO.1.2 t0 _ htk).2))
  subst hcA
  have h2 := k H1 locs la (hH.push (by rw [hH0]; exact o1) (hE X M (fun j => hH.2 _ _ (by omega)) H1 e1)) ⟨Nat.le_trans hS.1 (by omega), fun x h1 h2 => (o1 x (by have := hS.1; omega)).trans (hS.2.1 x h1 h2), hS.2.2⟩ hL
  rw [List.map_cons, jcv_p X (by omega)] at h2
  have e9 : jXB X + (((n0 + kc : Nat) : Int) + 1).toNat - 1 = jXB X + (n0 + kc) := by omega
  rw [e9] at h2
  exact h2
end JKR
