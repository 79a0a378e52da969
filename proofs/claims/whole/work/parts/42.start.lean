/-! ===== the law's start; by program ===== -/
def jz (M : jM) : jM := fun a j => if a = 180 then 0 else M a j
theorem jE_z {X : jX} {M : jM} {a : Int} (h : a ≠ 180) : jE X (jz M) a = jE X M a := by
  have : ∀ j, jz M a j = M a j := fun j => if_neg h
  unfold jE
  simp only [this]
theorem jws_z (X : jX) (M : jM) : jws X 179 (jz M) = jws X 179 M := by
  unfold jws
  apply List.map_congr_left
  intro i hi
  rw [List.mem_range] at hi
  rw [jE_z (by omega)]
theorem jFin_z {M : jM} (h : jFin 179 M) : jFin 180 (jz M) := by
  have k180 : jkd 180 = 13 := kk_180
  have ne : ∀ a : Int, jkd a ≠ 13 → a ≠ 180 := fun a h q => h (by rw [q]; exact k180)
  refine ⟨fun a j off h1 h2 h3 => ?_, fun a i h1 h2 h3 h4 => ?_, fun a i h1 h2 h3 h4 => ?_⟩
  · have := ne a (by omega)
    show (if a = 180 then 0 else M a j) = _
    rw [if_neg this]
    exact h.1 a j off h1 (by omega) h3
  · have := ne a (by omega)
    show (if a = 180 then 0 else M a i) = _
    rw [if_neg this]
    exact h.2.1 a i h1 (by omega) h3 h4
  · have := ne a (by omega)
    show (if a = 180 then 0 else M a i) = _
    rw [if_neg this]
    exact h.2.2 a i h1 (by omega) h3 h4
section JLS
variable {C : jC} {X : jX} {own : String} {cc : ByteArray} {n0 nL d mc ms kc ks pc : Nat} {ls st : List jV} {M : jM}
theorem k_astore_n (hC : jOc C X own cc nL n0 d mc ms) {f : Fin 4} {i : Nat} {v : jV} {q : Nat} (hd : decode cc pc = .ok (.astore_n f, 1)) (hf : (f : Nat) = i) (hi : i < nL) (hn : jnl ls i = true) (hv : v.1 ≠ 3) (hq : jcv X v = .ref q) {ls2 : List jV} (hls : ls.set i v = ls2) (k : jK C X n0 nL kc ks (pc + 1) ls2 st M) : jK C X n0 nL kc ks pc ls (v :: st) M := by
  obtain ⟨p, l, e, R, s, m, args, below, meth, c, Q⟩ := C
  obtain ⟨hx, hb, -⟩ := hC
  intro H locs la hH hS hL
  subst hf hls
  rw [List.map_cons, hq]
  exact lv_astore_n (x := q) hx hb hd rfl hL hi rfl (fun la' h' => k H locs la' hH hS (jLo.ofStore (v := v) (by rw [hq]; exact h') hn hv))
theorem k_astoreA_n (hC : jOc C X own cc nL n0 d mc ms) {f : Fin 4} {i : Nat} {a : Int} {kk : Nat} {ls2 : List jV} (hd : decode cc pc = .ok (.astore_n f, 1)) (hf : (f : Nat) = i) (hi : i < nL) (hn : jnl ls i = true) (hk : jkd a = kk) (h99 : kk ≠ 99) (hls : ls.set i (jA a) = ls2) (k : jK C X n0 nL kc ks (pc + 1) ls2 st M) : jK C X n0 nL kc ks pc ls (jA a :: st) M := k_astore_n hC hd hf hi hn (show (2 : Nat) ≠ 3 by decide) (jcv_p X (j_pos hk h99)) hls k
theorem x_newL (hC : jOc C X own cc nL 0 d mc ms) (harr : Cond.arrayClass .long ∈ jTB) (hkc : 180 ≤ mc) (hks : ks + 1 ≤ ms) (hd : decode cc pc = .ok (.newarray .long, 2)) (k : jG C X 180 nL 180 (ks + 1) (pc + 2) ls (jA 180 :: st) (jz M)) : jG C X 179 nL 179 ks pc ls (jI 1 :: st) M := by
  obtain ⟨p, l, e, R, s, m, args, below, meth, c, Q⟩ := C
  obtain ⟨hx, hb, hml, hown, hts, hO, hsz, hfr, hlo, hlk, hl9, hao, hmc, hms⟩ := hC
  intro H locs la hH hS hL Tt hT XX
  have hH0 : H.size = jXB X + 179 := by
    have h1 : H.size ≤ s.heap.size + 179 := by
      have := XX.same.2.2.1
      rw [← hT]
      exact this
    have he := jws_get (X := X) (n := 179) (M := M) (a := 179) (by decide) (by decide)
    have h2 := (hH.1 _ _ he).lt
    have e179 : (179 : Int).toNat = 179 := rfl
    simp only [e179] at h2
    omega
  refine va_newaK hx hb (atype := .long) (hts _ harr) (g := F0 m pc la ((jI 1 :: st).map (jcv X))) rfl hd (n := Int32.ofInt 1) (N := 1) rfl (by decide) (by decide) (by decide) (by omega) (by omega) hH0 (fun H1 cA e1 z1 o1 hAr hNm => ?_) Tt hT XX
  have hcA : cA = jXc X 13 := Option.some.inj (hNm.symm.trans (hO.1.2 2 (jXc X 13, .long) rfl).2)
  subst hcA
  have hat := jE13 (a := 180) (n := 179) (N := 1) kk_180 ll_180 X (jz M) (fun j => if_pos rfl) H1 e1
  have hP : va_P (jXD X) vwCl (jws X 180 (jz M)) H1 := by
    rw [show (180 : Nat) = 179 + 1 from rfl, jws_succ, jws_z]
    refine (hH.1.kept (fun k x hx => o1 x.1 (by rw [← hH0]; exact (hH.1 k x hx).lt))).app (fun k x hx => ?_)
    have hz : k < 1 := (List.getElem?_eq_some_iff.mp hx).1
    rw [show k = 0 by omega] at hx
    cases hx
    exact hat
  have h2 := k H1 locs la ⟨hP, jFin_z hH.2⟩ ⟨Nat.le_trans hS.1 (by omega), fun x h1 h2 => (o1 x (by have := hS.1; omega)).trans (hS.2.1 x h1 h2), hS.2.2⟩ hL
  rw [List.map_cons, jcv_p X (by decide)] at h2
  have e9 : jXB X + (180 : Int).toNat - 1 = jXB X + 179 := rfl
  rw [e9] at h2
  exact h2
end JLS
