/-! ===== reading: an attempt ===== -/
theorem do_fin {e n s k m p p0 p' v cl g at' : Int} {tx w : Int → Int} {A B M0 R0 M16 X M' : jM} {T' N' : Int → Int} (he : e = 3 ∨ e = 56) (hg : g = e + 16 + 1 + 6 * s) (hat : at' = 12 * s + k) (hs : 0 ≤ s ∧ s < 6) (hk : 0 ≤ k ∧ k < 12) (hs1 : s < R0 171 1) (hkT : R0 171 (116 + s) = k) (hm : 1 ≤ m ∧ m ≤ 3) (hE : evT e p0 1 M0 (R0 171) (R0 172)) (hp : p0 ≤ p') (hD : RD e tx n A B s k M0 R0 m p M16 X) (hv : 0 ≤ v ∧ v ≤ 600) (hcl : 0 ≤ cl ∧ cl ≤ 7) (hw : ∀ j, 0 ≤ j → j < R0 171 2 → -5 ≤ w j ∧ w j ≤ 5)
    (m1 : ∀ a, a ≠ 109 → a ≠ g → a ≠ g + 1 → a ≠ g + 4 → a ≠ g + 5 → M' a = M16 a) (m0 : M' g 0 = M16 g 0 + 1) (m0' : ∀ j, j ≠ 0 → M' g j = M16 g j)
    (mg1 : ∀ j, j ≠ k → M' (g + 1) j = M16 (g + 1) j) (mg1k : M' (g + 1) k = v) (mg4 : ∀ j, j ≠ k → M' (g + 4) j = M16 (g + 4) j) (mg4k : M' (g + 4) k = cl)
    (mg5 : ∀ j, (j < k * 9 ∨ k * 9 + 9 ≤ j) → M' (g + 5) j = M16 (g + 5) j) (mg5k : ∀ j, 0 ≤ j → j < R0 171 2 → M' (g + 5) (k * 9 + j) = w j)
    (t : ∀ j, j ≠ 116 + s → j ≠ 122 + at' → j ≠ 194 + at' → T' j = X 171 j) (t116 : T' (116 + s) = X 171 (116 + s) + 1) (t122 : T' (122 + at') = v) (t194 : T' (194 + at') = m)
    (nn : ∀ j, j ≠ 810 + at' → (j < 9 * at' ∨ 9 * at' + R0 171 2 ≤ j) → N' j = X 172 j) (n810 : N' (810 + at') = cl) (nw : ∀ j, 0 ≤ j → j < R0 171 2 → N' (9 * at' + j) = w j) : evT e p' 1 M' T' N' := by
  unfold RD at hD
  rw [← hg, ← hat] at hD
  obtain ⟨-, -, -, -, ha, ha2, ha2k, ha3, hra, hrT, hbT, hx⟩ := hD
  have t2 := hE.1.2.2.1
  have hat72 : 0 ≤ at' ∧ at' < 72 := by omega
  have x2 : X 172 = R0 172 := hra 172 (by decide) (by decide)
  have gg : e ≤ g ∧ g + 5 ≤ e + 52 := by omega
  have e52 : e + 52 < 109 := by omega
  have mk : M0 g 0 = k := by
    rw [hg, (hE.2.2.2.2.1 s hs.1 hs.2).1]
    exact hkT
  have a0 : M16 g = M0 g := ha g (by omega) (by omega) (by omega) (by omega)
  have a1 : M16 (g + 1) = M0 (g + 1) := ha (g + 1) (by omega) (by omega) (by omega) (by omega)
  have a4 : M16 (g + 4) = M0 (g + 4) := ha (g + 4) (by omega) (by omega) (by omega) (by omega)
  have a5 : M16 (g + 5) = M0 (g + 5) := ha (g + 5) (by omega) (by omega) (by omega) (by omega)
  have b2 : M' (g + 2) = M16 (g + 2) := m1 (g + 2) (by omega) (by omega) (by omega) (by omega) (by omega)
  have b3 : M' (g + 3) = M16 (g + 3) := m1 (g + 3) (by omega) (by omega) (by omega) (by omega) (by omega)
  have x116 : X 171 (116 + s) = k := by
    rw [hrT (116 + s) (by omega)]
    exact hkT
  rw [x116] at t116
  refine evT_do hE hp hg hat hs hs1 hk hkT hm (bT_r hbT (fun j => ?_)) (bN_r hE.2.1 (fun j => ?_)) (fun a b0 b1 b2 => ?_) (by rw [m0, a0, mk]) (by rw [m0' 1 (by decide), a0]) (by rw [m0' 2 (by decide), a0]) (fun j b => by rw [mg1 j b, a1]) mg1k (fun j b => by rw [b2]; exact ha2 j b) (by rw [b2]; exact ha2k (by omega)) (fun j b => by rw [b3]; exact ha3 j b) (fun j b => by rw [mg4 j b, a4]) mg4k (fun j b => by rw [mg5 j b, a5]) (fun j b0 b1 b2 b3 => ?_) t116 t122 t194 (fun j b0 b1 => ?_) n810 (fun x x0 x1 => ?_) (fun j j0 j1 => by rw [mg5k j j0 j1, nw j j0 j1])
  · by_cases c1 : j = 116 + s
    · right
      rw [c1, t116]
      unfold okTi
      omega
    · by_cases c2 : j = 122 + at'
      · right
        rw [c2, t122]
        unfold okTi
        omega
      · by_cases c3 : j = 194 + at'
        · right
          rw [c3, t194]
          unfold okTi
          omega
        · exact Or.inl (t j c1 c2 c3)
  · by_cases c1 : j = 810 + at'
    · right
      rw [c1, n810]
      unfold okNi
      omega
    · by_cases c2 : 9 * at' ≤ j ∧ j < 9 * at' + R0 171 2
      · right
        have e1 := nw (j - 9 * at') (by omega) (by omega)
        have e2 := hw (j - 9 * at') (by omega) (by omega)
        rw [show 9 * at' + (j - 9 * at') = j from by omega] at e1
        rw [e1]
        unfold okNi
        omega
      · left
        rw [nn j c1 (by omega), x2]
  · rw [m1 a (by omega) (by omega) (by omega) (by omega) (by omega)]
    exact ha a b0 b1 (by omega) (by omega)
  · rw [t j b0 b1 b2]
    exact hrT j b3
  · rw [nn j b0 (by omega), x2]
  · rw [b3, t (266 + 3 * at' + x) (by omega) (by omega) (by omega)]
    exact ⟨(hx x x0 x1).1, (hx x x0 x1).2.2⟩
def FrRest (s k v6 : Int) (l4_12 : Int) (M16 : jM) : Option jM :=
      jck (0 ≤ jw (194 + v6) ∧ jw (194 + v6) < 1089) <|
      jlet (jst M16 171 (jw (194 + v6)) l4_12) fun M19 =>
      jk (fun (s3_20 : Int) =>
        jbW (f_X10_number s3_20 600 M19) fun v24 M23 =>
        jck (0 ≤ jw (122 + v6) ∧ jw (122 + v6) < 1089) <|
        jlet (jst M23 171 (jw (122 + v6)) v24) fun M26 =>
        jbV (f_X10_letters (0 + (9 * v6)) 5 M26) fun M28 =>
        jck (0 ≤ jw (810 + v6) ∧ jw (810 + v6) < 971) <|
        jlet (jst M28 172 (jw (810 + v6)) 0) fun M30 =>
        jbW (f_X10_callTold M30) fun v33 M32 =>
        jlp2 (FrC s v6) jfuel v33 M32) fun (k21 : Int → Option (jM)) =>
      if jw k = 0 then (
        k21 0)
      else (
        jck (0 ≤ jw ((122 + v6) - 1) ∧ jw ((122 + v6) - 1) < 1089) <|
        k21 (M19 171 (jw ((122 + v6) - 1))))
def FcRest (g k : Int) (M16 : jM) : Option (Int × jM) :=
        jk (fun (s1_18 : Int) =>
          jbW (f_X4_number s1_18 600 M16) fun v22 M21 =>
          if jw v22 = 0 then (
            some (0, M21))
          else (
            jck (0 ≤ jw k ∧ jw k < 12) <|
            jlet (jst M21 (g + 1) (jw k) (M21 109 6)) fun M24 =>
            jbW (f_X4_votes g k (-5) M24) fun v27 M26 =>
            if jw v27 = 0 then (
              some (0, M26))
            else (
              jbW (f_X4_calls g k M26) fun v30 M29 =>
              if jw v30 = 0 then (
                some (0, M29))
              else (
                jlet (jst M29 g 0 ((M29 g 0) + 1)) fun M31 =>
                some (1, M31))))) fun (k19 : Int → Option (Int × jM)) =>
        if jw k ≤ 0 then (
          k19 0)
        else (
          jck (0 ≤ jw (k - 1) ∧ jw (k - 1) < 12) <|
          k19 (M16 (g + 1) (jw (k - 1))))
/-- the reference's rest, from a number on -/
def FrR2 (s v6 lo : Int) (M19 : jM) : Option jM :=
        jbW (f_X10_number lo 600 M19) fun v24 M23 =>
        jck (0 ≤ jw (122 + v6) ∧ jw (122 + v6) < 1089) <|
        jlet (jst M23 171 (jw (122 + v6)) v24) fun M26 =>
        jbV (f_X10_letters (0 + (9 * v6)) 5 M26) fun M28 =>
        jck (0 ≤ jw (810 + v6) ∧ jw (810 + v6) < 971) <|
        jlet (jst M28 172 (jw (810 + v6)) 0) fun M30 =>
        jbW (f_X10_callTold M30) fun v33 M32 =>
        jlp2 (FrC s v6) jfuel v33 M32
theorem fl_D {e n s : Int} {A B Mc X : jM} {Q : jM → Prop} (h : fl e n A B Mc X) (hs : 0 ≤ s ∧ s < 6) (hQ : ∀ Y, fl e n A B Mc Y → Q Y) : jT (FrD s X) Q := by
  unfold FrD
  rw [pw_of (z := 116 + s) (by omega) (by omega)]
  refine t_ck (by omega) (t_ck (by omega) (t_let (t_let (t_some ?_))))
  exact hQ _ (fl_s (fl_1 h _ _) (Or.inr rfl) _)
/-- the calls, in a failed reading -/
theorem l_call {n : Int} {M : jM} (hp : rPt n M) (hF : okF M) : jT (f_X10_callTold M) (fun q => q.1 = -1 ∧ fX n M q.2) := by
  have step : ∀ {k : Int} {X : jM} {f g : jM → Option (Int × jM)}, fX n M X → (∀ Y, fX n M Y → jT (f Y) (fun q => q.1 = -1 ∧ fX n M q.2)) → jT (jbW (f_X10_isWord k X) fun v Y => if jw v = 0 then f Y else g Y) (fun q => q.1 = -1 ∧ fX n M q.2) := fun hX hf => by
    refine t_W (t_mono (l_isWord hX.2 (okF_fr hF hX.1)) (fun q hq => ?_))
    rw [hq.1]
    exact t_pos (by decide) (hf q.2 (fX_t hX hq.2))
  unfold f_X10_callTold
  exact step (fX_r hp) (fun _ h => step h (fun _ h => step h (fun _ h => t_some ⟨rfl, h⟩)))
theorem l_cl {e n s v6 : Int} {A B Mc M28 : jM} {Q : jM → Prop} (h : fl e n A B Mc M28) (hs : 0 ≤ s ∧ s < 6) (hv : 0 ≤ v6 ∧ v6 < 72) (hQ : ∀ Y, fl e n A B Mc Y → Q Y) : jT (jck (0 ≤ jw (810 + v6) ∧ jw (810 + v6) < 971) <| jlet (jst M28 172 (jw (810 + v6)) 0) fun M30 => jbW (f_X10_callTold M30) fun v33 M32 => jlp2 (FrC s v6) jfuel v33 M32) Q := by
  rw [pw_of (z := 810 + v6) (by omega) (by omega)]
  refine t_ck (by omega) (t_let ?_)
  have h3 := fl_2 h (810 + v6) 0
  refine t_W (t_mono (l_call h3.2.2.2.2 (fl_okF h3)) (fun q hq => ?_))
  have h4 := fl_fX h3 hq.2
  rw [hq.1, jfu, lp2_u]
  unfold FrC
  refine t_pos (by decide) ?_
  exact fl_D h4 hs hQ
theorem l_rest2 {e n s v6 lo : Int} {A B Mc X : jM} {Q : jM → Prop} (h : fl e n A B Mc X) (hs : 0 ≤ s ∧ s < 6) (hv : 0 ≤ v6 ∧ v6 < 72) (hQ : ∀ Y, fl e n A B Mc Y → Q Y) : jT (FrR2 s v6 lo X) Q := by
  unfold FrR2
  refine t_We (l_num h) ?_
  rw [pw_of (z := 122 + v6) (by omega) (by omega)]
  refine t_ck (by omega) (t_let ?_)
  have h2 := fl_1 h (122 + v6) lo
  refine t_Ve (l_letters (fl_okF h2)) ?_
  exact l_cl h2 hs hv hQ
theorem l_rest {e n s k v6 m : Int} {A B Mc X : jM} {Q : jM → Prop} (h : fl e n A B Mc X) (hs : 0 ≤ s ∧ s < 6) (hk : 0 ≤ k ∧ k < 12) (hv : v6 = 12 * s + k) (hQ : ∀ Y, fl e n A B Mc Y → Q Y) : jT (FrRest s k v6 m X) Q := by
  unfold FrRest
  rw [pw_of (z := 194 + v6) (by omega) (by omega), pw_of (z := 122 + v6 - 1) (by omega) (by omega), pw_of (z := k) (by omega) (by omega)]
  refine t_ck (by omega) (t_let ?_)
  have h1 := fl_1 h (194 + v6) m
  refine t_kP (fun kk => ∀ lo, jT (kk lo) Q) (fun lo => l_rest2 (s := s) (v6 := v6) (lo := lo) h1 hs (by omega) hQ) ?_
  intro k21 h21
  refine t_if (fun _ => h21 0) (fun _ => ?_)
  exact t_ck (by omega) (h21 _)
