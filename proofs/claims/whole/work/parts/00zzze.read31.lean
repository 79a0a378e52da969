/-! ===== reading: terms and sums ===== -/
theorem lp4_u {A1 A2 A3 A4 R : Type} {F : (A1 → A2 → A3 → A4 → Option R) → A1 → A2 → A3 → A4 → Option R} {f : Nat} {x : A1} {y : A2} {z : A3} {w : A4} : jlp4 F (f + 1) x y z w = F (jlp4 F f) x y z w := rfl
theorem okc_up {h h' : Nat} {l : List Int} {s s' : List Bool} (hh : h ≤ h') (h1 : okc h l s s') : okc h' l s s' := by
  have := okc_base (d := h) (e := h') (u := []) hh h1
  rwa [List.append_nil, List.append_nil] at this
theorem okc_op {h : Nat} {l l2 : List Int} {a b c : Bool} {v : Int} (h1 : okc (h + 1) l [] [a]) (h2 : okc h l2 [] [b]) (h3 : tstep v [b, a] = some [c]) : okc (h + 1) (l ++ (l2 ++ [v])) [] [c] := by
  refine okc_app h1 (okc_app (s1 := [b] ++ [a]) ?_ ?_)
  · have := okc_base (d := h) (e := h + 1) (u := [a]) (Nat.le_refl _) h2
    exact this
  · exact ⟨[c], h3, Nat.succ_le_succ (Nat.zero_le _), rfl⟩
def BBs (F5 : Int → Int → Int → jM → Option (Int × jM)) (l4_3 : Int) (M18 : jM) : Option (Int × jM) :=
  jk (
    jk (fun (s0_21 : Int) =>
      jbV (f_X4_advance M18) fun M24 =>
      jlet (l4_3 + 1) fun l4_25 =>
      F5 0 s0_21 l4_25 M24) fun (k22 : Int → Option (Int × jM)) =>
    if jw (M18 109 3) = jw 43 then (
      k22 (-1))
    else (
      k22 (-2))) fun (k20 : Option (Int × jM)) =>
  if jw (M18 109 3) = jw 43 then (
    k20)
  else (
    if jw (M18 109 3) = jw 45 then (
      k20)
    else (
      some (1, M18)))
def AAs (self5 : Int → Int → Int → jM → Option (Int × jM)) (l3_2 : Int) (l4_3 : Int) (M13 : jM) : Option (Int × jM) :=
          jk (fun (s0_15 : Int) =>
            jk (fun (M18 : jM) =>
              jk (
                jk (fun (s0_21 : Int) =>
                  jbV (f_X4_advance M18) fun M24 =>
                  jlet (l4_3 + 1) fun l4_25 =>
                  self5 s0_15 s0_21 l4_25 M24) fun (k22 : Int → Option (Int × jM)) =>
                if jw s0_15 = 0 then (
                  if jw (M18 109 3) = jw 43 then (
                    k22 (-1))
                  else (
                    k22 (-2)))
                else (
                  k22 l3_2)) fun (k20 : Option (Int × jM)) =>
              if jw s0_15 = 0 then (
                if jw (M18 109 3) = jw 43 then (
                  k20)
                else (
                  if jw (M18 109 3) = jw 45 then (
                    k20)
                  else (
                    some (1, M18))))
              else (
                k20)) fun (k19 : jM → Option (Int × jM)) =>
            if jw s0_15 = 0 then (
              if jw l3_2 = 0 then (
                k19 M13)
              else (
                jck (jkd (M13 109 1) = 1) <|
                jbV (f_X5_add ((M13 109 1) + 7) l3_2 M13) fun M28 =>
                k19 M28))
            else (
              k19 M13)) fun (k16 : Int → Option (Int × jM)) =>
          if jw (M13 109 3) = jw 42 then (
            k16 1)
          else (
            k16 0)
def FcS (self : Nat → Int → jM → Option (Int × jM)) (l1 : Int) (self5 : Int → Int → Int → jM → Option (Int × jM)) (l2_1 : Int) (l3_2 : Int) (l4_3 : Int) (M4 : jM) : Option (Int × jM) :=
    if jw 600 < jw l4_3 then (
      jbW (f_X4_refuse M4) fun v8 M7 =>
      jck (jw v8 = 0 ∨ jw v8 = 1) <| some (v8, M7))
    else (
      jbW (self 1 l1 M4) fun v12 M11 =>
      if jw v12 = 0 then (
        some (0, M11))
      else (
        jk (fun (M13 : jM) => AAs self5 l3_2 l4_3 M13) fun (k14 : jM → Option (Int × jM)) =>
        if jw l2_1 = 0 then (
          k14 M11)
        else (
          jck (jkd (M11 109 1) = 1) <|
          jbV (f_X5_add ((M11 109 1) + 7) (-3) M11) fun M31 =>
          k14 M31)))
theorem AA_star {F5 : Int → Int → Int → jM → Option (Int × jM)} {w i : Int} {M : jM} {P : Int × jM → Prop} (hk : M 109 3 = 42) (h : jT (f_X4_advance M) (fun M24 => jT (F5 1 w (i + 1) M24) P)) : jT (AAs F5 w i M) P := by
  unfold AAs
  refine t_k ?_
  rw [hk]
  refine t_pos rfl ?_
  refine t_k ?_
  refine t_neg (by decide) ?_
  refine t_k ?_
  refine t_neg (by decide) ?_
  refine t_k ?_
  refine t_neg (by decide) ?_
  exact t_V (t_mono h (fun M24 h24 => t_let h24))
theorem AA_B0 {F5 : Int → Int → Int → jM → Option (Int × jM)} {i : Int} {M : jM} {P : Int × jM → Prop} (hk : jw (M 109 3) ≠ 42) (h : jT (BBs F5 i M) P) : jT (AAs F5 0 i M) P := by
  unfold AAs
  refine t_k ?_
  refine t_neg hk ?_
  refine t_k ?_
  refine t_pos (by decide) ?_
  refine t_pos (by decide) ?_
  exact h
theorem AA_B1 {F5 : Int → Int → Int → jM → Option (Int × jM)} {w i : Int} {M : jM} {P : Int × jM → Prop} (hk : jw (M 109 3) ≠ 42) (hw : jw w ≠ 0) (hj : jkd (M 109 1) = 1) (h : jT (f_X5_add (M 109 1 + 7) w M) (fun M28 => jT (BBs F5 i M28) P)) : jT (AAs F5 w i M) P := by
  unfold AAs
  refine t_k ?_
  refine t_neg hk ?_
  refine t_k ?_
  refine t_pos (by decide) ?_
  refine t_neg hw ?_
  refine t_ck hj ?_
  exact t_V h
theorem BB_sg {F5 : Int → Int → Int → jM → Option (Int × jM)} {i c : Int} {M : jM} {P : Int × jM → Prop} (hc : c = 43 ∨ c = 45) (hk : M 109 3 = c) (h : jT (f_X4_advance M) (fun M24 => jT (F5 0 (if c = 43 then -1 else -2) (i + 1) M24) P)) : jT (BBs F5 i M) P := by
  unfold BBs
  rw [hk, pw_of (z := c) (by omega) (by omega), pw_of (z := 43) (by omega) (by omega), pw_of (z := 45) (by omega) (by omega)]
  refine t_kP (fun kk => jT kk P) ?_ (fun k20 h20 => ?_)
  · refine t_k ?_
    by_cases c1 : c = 43
    · rw [if_pos c1] at h ⊢
      exact t_V (t_mono h (fun M24 h24 => t_let h24))
    · rw [if_neg c1] at h ⊢
      exact t_V (t_mono h (fun M24 h24 => t_let h24))
  · exact t_if (fun _ => h20) (fun c1 => t_pos (by omega) h20)
theorem BB_end {F5 : Int → Int → Int → jM → Option (Int × jM)} {i : Int} {M : jM} {P : Int × jM → Prop} (h1 : jw (M 109 3) ≠ 43) (h2 : jw (M 109 3) ≠ 45) (h : P (1, M)) : jT (BBs F5 i M) P := by
  unfold BBs
  refine t_k ?_
  exact t_neg h1 (t_neg h2 (t_some h))
theorem FcS_0 {Cs : Nat → Int → jM → Option (Int × jM)} {d t w i : Int} {f : Nat} {M : jM} {q : Int × jM} (hi : 0 ≤ i ∧ i ≤ 600) (hq : Cs 1 d M = some q) (h0 : q.1 = 0) : jlp4 (FcS Cs d) (f + 1) t w i M = some (0, q.2) := by
  apply t_get
  rw [lp4_u]
  unfold FcS
  rw [pw_of (z := 600) (by omega) (by omega), pw_of (z := i) (by omega) (by omega)]
  refine t_neg (by omega) ?_
  refine t_We (v := q.1) (M := q.2) hq ?_
  rw [h0]
  exact t_pos (by decide) (t_some rfl)
theorem FcS_1 {Cs : Nat → Int → jM → Option (Int × jM)} {d w i : Int} {f : Nat} {M : jM} {q : Int × jM} {P : Int × jM → Prop} (hi : 0 ≤ i ∧ i ≤ 600) (hq : Cs 1 d M = some q) (h0 : q.1 = 1) (h : jT (AAs (jlp4 (FcS Cs d) f) w i q.2) P) : jT (jlp4 (FcS Cs d) (f + 1) 0 w i M) P := by
  rw [lp4_u]
  show jT (if jw 600 < jw i then _ else _) P
  rw [pw_of (z := 600) (by omega) (by omega), pw_of (z := i) (by omega) (by omega)]
  refine t_neg (by omega) ?_
  refine t_We (v := q.1) (M := q.2) hq ?_
  rw [h0]
  refine t_neg (by decide) ?_
  refine t_k ?_
  exact t_pos (by decide) h
theorem FcS_2 {Cs : Nat → Int → jM → Option (Int × jM)} {d w i : Int} {f : Nat} {M : jM} {q : Int × jM} {P : Int × jM → Prop} (hi : 0 ≤ i ∧ i ≤ 600) (hq : Cs 1 d M = some q) (h0 : q.1 = 1) (hj : jkd (q.2 109 1) = 1) (h : jT (f_X5_add (q.2 109 1 + 7) (-3) q.2) (fun M31 => jT (AAs (jlp4 (FcS Cs d) f) w i M31) P)) : jT (jlp4 (FcS Cs d) (f + 1) 1 w i M) P := by
  rw [lp4_u]
  show jT (if jw 600 < jw i then _ else _) P
  rw [pw_of (z := 600) (by omega) (by omega), pw_of (z := i) (by omega) (by omega)]
  refine t_neg (by omega) ?_
  refine t_We (v := q.1) (M := q.2) hq ?_
  rw [h0]
  refine t_neg (by decide) ?_
  refine t_k ?_
  refine t_neg (by decide) ?_
  refine t_ck hj ?_
  exact t_V h
theorem rS_takes {tx : Int → Int} {n p c : Int} {B M : jM} (hO : okT tx n) (hB : rTx tx n B) (h : rS tx n B p M) (hc : 33 ≤ c ∧ c ≤ 64 ∧ (c < 48 ∨ 57 < c)) : jT (f_X10_takes c M) (fun q => ((p < n ∧ tx p = c) ∧ q.1 = 1 ∧ rS tx n B (nx tx n p) q.2 ∨ ¬ (p < n ∧ tx p = c) ∧ q.1 = 0 ∧ rS tx n B p q.2) ∧ fr6 M q.2) := by
  refine t_mono (e_takes hO (rTx_R hB h.2.2) h.1 h.2.1 (by omega)) (fun q hq => ?_)
  obtain ⟨g0, g1, g2, g3⟩ := hq
  have h7 : q.2 166 7 = -1 := by rw [g2.2 7 (by decide) (by decide)]; exact h.2.1
  have hf := frR_t h.2.2 (frR_6 g2)
  refine ⟨?_, g2⟩
  by_cases cc : p < n ∧ tx p = c
  · rw [if_pos cc] at g3
    refine Or.inl ⟨cc, by rw [g0, b2_t cc], ?_, h7, hf⟩
    unfold nx
    rw [(tk_sg hc).2 cc]
    exact g3
  · rw [if_neg cc] at g3
    exact Or.inr ⟨cc, by rw [g0, b2_f cc], g3, h7, hf⟩
/-- how far a reading is -/
def muR (tx : Int → Int) (n : Int) (M : jM) : Nat := if M 166 7 = -1 then (n - bl tx n (M 166 4)).toNat + 1 else 0
theorem mu_s {tx : Int → Int} {n p : Int} {B M : jM} (h : rS tx n B p M) : muR tx n M = (n - p).toNat + 1 := by
  unfold muR
  rw [if_pos h.2.1, h.1.2.2]
theorem mu_f {tx : Int → Int} {e n : Int} {A B Mc M : jM} (h : fl e n A B Mc M) : muR tx n M = 0 := by
  unfold muR
  have := h.1
  have := h.2.1
  exact if_neg (by omega)
/-- after some atoms: where the component stands -/
def tmI (e : Int) (tx : Int → Int) (n : Int) (A B M0 R0 : jM) (r c0 u0 : Int) (h : Nat) (L : List Int) (d p p' : Int) (Mr : jM) (l : List Int) (Mc' : jM) (f' : Nat) (i' : Int) : Prop := okc h l [] [true] ∧ (∀ x ∈ l, x ≠ 10009) ∧ p + (l.length : Int) ≤ p' ∧ p < p' ∧ cR e tx n A M0 u0 (L ++ l) p' Mc' ∧ rR tx n B R0 r c0 (L ++ l) d p' Mr ∧ (0 ≤ i' ∧ i' ≤ p') ∧ 699 ≤ (f' : Int) + i'
theorem tm_pair {e n r c0 u0 d : Int} {tx : Int → Int} {A B M0 R0 : jM} {h : Nat} {Cs : Nat → Int → jM → Option (Int × jM)} {Ds : Nat → jM → Option jM} (hq : rq e tx n A B R0 r c0 u0) (hA : PS e tx n A B M0 R0 r c0 u0 h true (Cs 1 d) (Ds 0) d)
    (L : List Int) (p i w : Int) (f : Nat) (Mc Mr : jM) (hc : cR e tx n A M0 u0 L p Mc) (hr : rR tx n B R0 r c0 L d p Mr) (hcap : c0 + (L.length : Int) ≤ p) (hi : 0 ≤ i ∧ i ≤ p) (hf : 700 ≤ (f : Int) + i) :
    jT (g_X10_term Ds Mr) (fun Mr' => (∃ l p' Mc' f' i', tmI e tx n A B M0 R0 r c0 u0 (h + 1) L d p p' Mr' l Mc' f' i' ∧ ¬ (p' < n ∧ tx p' = 42) ∧ ∀ P, jT (AAs (jlp4 (FcS Cs d) f') w i' Mc') P → jT (jlp4 (FcS Cs d) f 0 w i Mc) P) ∨ (∃ Mc', jlp4 (FcS Cs d) f 0 w i Mc = some (0, Mc') ∧ fl e n A B Mc' Mr')) := by
  obtain ⟨hR, hr6, hr3, hu⟩ := hq
  obtain ⟨he, hO, hB, -, -⟩ := hR
  have n6 := hO.2.1
  have hpp : 0 ≤ p ∧ p ≤ n := hc.1.1.2.1
  obtain ⟨q, hqc, z, hzz, hz⟩ := hA L p Mc Mr hc hr hcap
  obtain ⟨f, rfl⟩ : ∃ g, f = g + 1 := ⟨f - 1, by omega⟩
  unfold g_X10_term
  refine t_Ve hzz ?_
  refine t_lp1 (fun M3 => (∃ l p' Mc' f' i', tmI e tx n A B M0 R0 r c0 u0 (h + 1) L d p p' M3 l Mc' f' i' ∧ ∀ P, jT (AAs (jlp4 (FcS Cs d) f') w i' Mc') P → jT (jlp4 (FcS Cs d) (f + 1) 0 w i Mc) P) ∨ (∃ Mc', jlp4 (FcS Cs d) (f + 1) 0 w i Mc = some (0, Mc') ∧ fl e n A B Mc' M3)) (muR tx n) ?_ jfuel z ?_ ?_
  · intro self M3 hI hself
    rcases hI with ⟨l, p', Mc', f', i', ⟨t1, t2, t3, t4, t5, t6, t7, t8⟩, hJ⟩ | ⟨Mc', hJ, hfl⟩
    · have hpp' : 0 ≤ p' ∧ p' ≤ n := t5.1.1.2.1
      refine t_W (t_mono (rS_takes (c := 42) hO hB t6.1 (by decide)) (fun y hy => ?_))
      obtain ⟨hy, y6⟩ := hy
      rcases hy with ⟨y1, y2, y3⟩ | ⟨y1, y2, y3⟩
      · rw [y2]
        refine t_neg (by decide) ?_
        have hb : p' < nx tx n p' := (nx_b (tx := tx) (n := n) (p := p') hpp').2.2.2 y1.1
        have hr1 := rR_6 t6 y3 y6
        obtain ⟨M24, h24, h24'⟩ := cR_adv he t5
        have hl1 : ((L ++ l).length : Int) = (L.length : Int) + (l.length : Int) := by rw [List.length_append]; omega
        obtain ⟨q2, hq2, z2, hz2, ho⟩ := hA (L ++ l) (nx tx n p') M24 y.2 h24' hr1 (by omega)
        obtain ⟨f'', rfl⟩ : ∃ g, f' = g + 1 := ⟨f' - 1, by omega⟩
        have hk42 : Mc' 109 3 = 42 := by rw [t5.1.1.2.2.2.2.2.1]; exact (tk_sg (by decide)).1.2 y1
        refine t_Ve hz2 ?_
        rcases ho with ⟨o1, l2, p2, o2, o3, o4, o5, o6, o7⟩ | ⟨o1, o2⟩
        · have hp2 : 0 ≤ p2 ∧ p2 ≤ n := o6.1.1.2.1
          have hl2 : (((L ++ l) ++ l2).length : Int) = (L.length : Int) + (l.length : Int) + (l2.length : Int) := by rw [List.length_append, List.length_append]; omega
          obtain ⟨M31, h31, h31'⟩ := cR_add (v := 10003) he o6 (by omega)
          obtain ⟨x, hx, hx'⟩ := rR_code (v := 10003) o7 hr6 hr3 (by omega)
          refine t_Ve hx ?_
          rw [List.append_assoc, List.append_assoc] at h31' hx'
          have hl3 : ((l ++ (l2 ++ [10003])).length : Int) = (l.length : Int) + (l2.length : Int) + 1 := by rw [List.length_append, List.length_append, List.length_singleton]; omega
          refine hself x (Or.inl ⟨l ++ (l2 ++ [10003]), p2, M31, f'', i' + 1, ⟨okc_op t1 o2 rfl, ?_, by omega, by omega, h31', hx', by omega, by omega⟩, fun P hP => ?_⟩) ?_
          · intro v hv
            rw [List.mem_append, List.mem_append, List.mem_singleton] at hv
            rcases hv with hv | hv | hv
            · exact t2 v hv
            · exact o3 v hv
            · omega
          · refine hJ P (AA_star hk42 ⟨M24, h24, ?_⟩)
            refine FcS_2 (by omega) hq2 o1 (by rw [o6.1.2.1]; exact kd_e he) ?_
            rw [o6.1.2.1]
            exact ⟨M31, h31, hP⟩
          · rw [mu_s hx'.1, mu_s t6.1]
            omega
        · refine t_Ve (l_code (fl_okF o2)) ?_
          refine hself z2 (Or.inr ⟨q2.2, ?_, o2⟩) ?_
          · exact t_get (hJ _ (AA_star hk42 ⟨M24, h24, ⟨_, FcS_0 (by omega) hq2 o1, rfl⟩⟩))
          · rw [mu_f o2, mu_s t6.1]
            omega
      · rw [y2]
        refine t_pos (by decide) (t_some ?_)
        exact Or.inl ⟨l, p', Mc', f', i', ⟨t1, t2, t3, t4, t5, rR_6 t6 y3 y6, t7, t8⟩, y1, hJ⟩
    · refine t_W (t_mono (l_takes hO (rTx_R hB hfl.2.2.2.1) hfl.2.2.2.2 (fl_okF hfl)) (fun y hy => ?_))
      rw [hy.1]
      refine t_pos (by decide) (t_some ?_)
      exact Or.inr ⟨Mc', hJ, fl_fX hfl hy.2⟩
  · rw [jfuel_eq]
    unfold muR
    split
    · have := hO.1
      rename_i hz7
      rcases hz with ⟨k1, l, p', k2, k3, k4, k5, k6, k7⟩ | ⟨k1, k2⟩
      · rw [k7.1.1.2.2]
        omega
      · have := k2.1
        have := k2.2.1
        omega
    · omega
  · rcases hz with ⟨k1, l, p', k2, k3, k4, k5, k6, k7⟩ | ⟨k1, k2⟩
    · have hp' : 0 ≤ p' ∧ p' ≤ n := k6.1.1.2.1
      exact Or.inl ⟨l, p', q.2, f, i, ⟨okc_up (Nat.le_succ _) k2, k3, k4, k5, k6, k7, by omega, by omega⟩, fun P hP => FcS_1 (by omega) hqc k1 hP⟩
    · exact Or.inr ⟨q.2, FcS_0 (by omega) hqc k1, k2⟩
theorem sm_pair {e n r c0 u0 d : Int} {tx : Int → Int} {A B M0 R0 : jM} {h : Nat} {Cs : Nat → Int → jM → Option (Int × jM)} {Ds Dt : Nat → jM → Option jM} (hq : rq e tx n A B R0 r c0 u0) (hA : PS e tx n A B M0 R0 r c0 u0 h true (Cs 1 d) (Ds 0) d) (hD : Dt 1 = g_X10_term Ds) : PS e tx n A B M0 R0 r c0 u0 (h + 2) true (g_X4_sum Cs d) (g_X10_sum Dt) d := by
  have hq' := hq
  obtain ⟨hR, hr6, hr3, hu⟩ := hq
  obtain ⟨he, hO, hB, -, -⟩ := hR
  have n6 := hO.2.1
  intro L p Mc Mr hc hr hcap
  have hpp : 0 ≤ p ∧ p ≤ n := hc.1.1.2.1
  refine t_swap ?_
  have hfc : g_X4_sum Cs d Mc = jlp4 (FcS Cs d) jfuel 0 0 0 Mc := rfl
  rw [hfc]
  unfold g_X10_sum
  refine t_Re (e_failed (by rw [hr.1.2.1]; omega)) ?_
  rw [if_pos hr.1.2.1]
  refine t_pos (by decide) ?_
  rw [hD]
  obtain ⟨z, hzz, hz⟩ := tm_pair hq' hA L p 0 0 jfuel Mc Mr hc hr hcap (by omega) (by rw [jfuel_eq]; decide)
  refine t_Ve hzz ?_
  refine t_lp1 (fun M3 => (∃ l p' Mc' f' i', tmI e tx n A B M0 R0 r c0 u0 (h + 2) L d p p' M3 l Mc' f' i' ∧ ¬ (p' < n ∧ tx p' = 42) ∧ ∀ P, jT (BBs (jlp4 (FcS Cs d) f') i' Mc') P → jT (jlp4 (FcS Cs d) jfuel 0 0 0 Mc) P) ∨ (∃ Mc', jlp4 (FcS Cs d) jfuel 0 0 0 Mc = some (0, Mc') ∧ fl e n A B Mc' M3)) (muR tx n) ?_ jfuel z ?_ ?_
  · intro self M3 hI hself
    rcases hI with ⟨l, p', Mc', f', i', ⟨t1, t2, t3, t4, t5, t6, t7, t8⟩, t9, hJ⟩ | ⟨Mc', hJ, hfl⟩
    · have hpp' : 0 ≤ p' ∧ p' ≤ n := t5.1.1.2.1
      have hk3 : Mc' 109 3 = tkK tx n p' := t5.1.1.2.2.2.2.2.1
      have hkb := tkK_b hO hpp'
      have hwk : jw (Mc' 109 3) = tkK tx n p' := by rw [hk3]; exact pw_of (z := tkK tx n p') (by omega) (by omega)
      have hl1 : ((L ++ l).length : Int) = (L.length : Int) + (l.length : Int) := by rw [List.length_append]; omega
      have step : ∀ (c v : Int) (X : jM), (c = 43 ∨ c = 45) → (v = if c = 43 then 10001 else 10002) → (p' < n ∧ tx p' = c) → rS tx n B p' X → X 166 4 = p' → fr6 M3 X → jT (jck (0 ≤ jw (X 166 4) ∧ jw (X 166 4) < 600) <| jlet ((X 167 (jw (X 166 4)))) fun l1_13 => jlet (jst X 166 4 ((X 166 4) + 1)) fun M14 => jbV (g_X10_term Ds M14) fun M16 => jk (fun (s1_17 : Int) => jbV (f_X10_code s1_17 M16) fun M20 => self M20) fun (k18 : Int → Option (jM)) => if jw l1_13 = jw 43 then (k18 10001) else (k18 10002)) (fun b => jT (jlp4 (FcS Cs d) jfuel 0 0 0 Mc) (fun a => sumO e tx n A B M0 R0 r c0 u0 (h + 2) true L d p a.1 a.2 b)) := fun c v X hc2 hv hpc hX x4 hf => by
        have hb : p' < nx tx n p' := (nx_b (tx := tx) (n := n) (p := p') hpp').2.2.2 hpc.1
        have hcs : 33 ≤ c ∧ c ≤ 64 ∧ (c < 48 ∨ 57 < c) := by omega
        have hr1 : rR tx n B R0 r c0 (L ++ l) d (nx tx n p') (jst X 166 4 (p' + 1)) := rR_6 t6 (rS_pt hcs hX x4 hpc) (fr6_t hf (fr6_4 _ _))
        have h167 : X 167 p' = c := by
          have hx := (rTx_R hB hX.2.2).2 p' hpp'.1 hpc.1
          rw [hx, hpc.2, b8_o (by omega), if_pos (by omega)]
        rw [x4, pw_of (z := p') (by omega) (by omega), h167]
        refine t_ck (by omega) (t_let (t_let ?_))
        obtain ⟨M24, h24, h24'⟩ := cR_adv he t5
        obtain ⟨z2, hz2, ho⟩ := tm_pair (w := if c = 43 then -1 else -2) (i := i' + 1) (f := f') hq' hA (L ++ l) (nx tx n p') M24 _ h24' hr1 (by omega) (by omega) (by omega)
        have hk : Mc' 109 3 = c := by rw [hk3]; exact (tk_sg hcs).1.2 hpc
        refine t_Ve hz2 ?_
        refine t_kP (fun kk => jT (kk v) (fun b => jT (jlp4 (FcS Cs d) jfuel 0 0 0 Mc) (fun a => sumO e tx n A B M0 R0 r c0 u0 (h + 2) true L d p a.1 a.2 b))) ?_ (fun k18 h18 => ?_)
        · rcases ho with ⟨l2, p2, Mc2, f2, i2, ⟨s1, s2, s3, s4, s5, s6, s7, s8⟩, s9, hJ2⟩ | ⟨Mc2, hJ2, hfl⟩
          · have hp2 : 0 ≤ p2 ∧ p2 ≤ n := s5.1.1.2.1
            have hl2 : (((L ++ l) ++ l2).length : Int) = (L.length : Int) + (l.length : Int) + (l2.length : Int) := by rw [List.length_append, List.length_append]; omega
            obtain ⟨M31, h31, h31'⟩ := cR_add (v := v) he s5 (by omega)
            obtain ⟨x, hx, hx'⟩ := rR_code (v := v) s6 hr6 hr3 (by omega)
            refine t_Ve hx ?_
            rw [List.append_assoc, List.append_assoc] at h31' hx'
            have hl3 : ((l ++ (l2 ++ [v])).length : Int) = (l.length : Int) + (l2.length : Int) + 1 := by rw [List.length_append, List.length_append, List.length_singleton]; omega
            have hv12 : v = 10001 ∨ v = 10002 := by rw [hv]; split <;> omega
            refine hself x (Or.inl ⟨l ++ (l2 ++ [v]), p2, M31, f2, i2, ⟨okc_op t1 s1 ?_, ?_, by omega, by omega, h31', hx', s7, s8⟩, s9, fun P hP => ?_⟩) ?_
            · rcases hv12 with q | q <;> rw [q] <;> rfl
            · intro y hy
              rw [List.mem_append, List.mem_append, List.mem_singleton] at hy
              rcases hy with hy | hy | hy
              · exact t2 y hy
              · exact s2 y hy
              · omega
            · refine hJ P (BB_sg hc2 hk ⟨M24, h24, hJ2 P ?_⟩)
              have hkb2 := tkK_b hO hp2
              have hk2 : Mc2 109 3 = tkK tx n p2 := s5.1.1.2.2.2.2.2.1
              refine AA_B1 ?_ ?_ (by rw [s5.1.2.1]; exact kd_e he) ?_
              · rw [hk2, pw_of (z := tkK tx n p2) (by omega) (by omega)]
                exact fun q => s9 ((tk_sg (by decide)).1.1 q)
              · rcases hc2 with q | q <;> rw [q] <;> decide
              · rw [s5.1.2.1]
                have hct : (if c = 43 then (-1 : Int) else -2) = ctr v := by
                  rw [hv]
                  rcases hc2 with q | q <;> rw [q] <;> decide
                rw [hct]
                exact ⟨M31, h31, hP⟩
            · rw [mu_s hx'.1, mu_s t6.1]
              omega
          · refine t_Ve (l_code (fl_okF hfl)) ?_
            refine hself z2 (Or.inr ⟨Mc2, ?_, hfl⟩) ?_
            · exact t_get (hJ _ (BB_sg hc2 hk ⟨M24, h24, ⟨_, hJ2, rfl⟩⟩))
            · rw [mu_f hfl, mu_s t6.1]
              omega
        · rw [pw_of (z := c) (by omega) (by omega), pw_of (z := 43) (by omega) (by omega)]
          by_cases c1 : c = 43
          · rw [if_pos c1] at hv
            rw [hv] at h18
            exact t_pos c1 h18
          · rw [if_neg c1] at hv
            rw [hv] at h18
            exact t_neg c1 h18
      refine t_W (t_mono (rS_iss (c := 43) hO hB t6.1 (by decide)) (fun y hy => ?_))
      obtain ⟨y0, y1, y2, y3, y4⟩ := hy
      refine t_kP (fun kk => ∀ (c : Int) (X : jM), (c = 43 ∨ c = 45) → (p' < n ∧ tx p' = c) → rS tx n B p' X → X 166 4 = p' → fr6 M3 X → jT (kk X) (fun b => jT (jlp4 (FcS Cs d) jfuel 0 0 0 Mc) (fun a => sumO e tx n A B M0 R0 r c0 u0 (h + 2) true L d p a.1 a.2 b))) (fun c X a1 a2 a3 a4 a5 => step c _ X a1 rfl a2 a3 a4 a5) (fun k11 h11 => ?_)
      by_cases c43 : p' < n ∧ tx p' = 43
      · rw [y0, b2_t c43]
        exact t_neg (by decide) (h11 43 y.2 (Or.inl rfl) c43 y3 y1 y4)
      · rw [y0, b2_f c43]
        refine t_pos (by decide) ?_
        refine t_W (t_mono (rS_iss (c := 45) hO hB y3 (by decide)) (fun x hx => ?_))
        obtain ⟨x0, x1, x2, x3, x4⟩ := hx
        have xf := fr6_t y4 x4
        by_cases c45 : p' < n ∧ tx p' = 45
        · rw [x0, b2_t c45]
          exact t_neg (by decide) (h11 45 x.2 (Or.inr rfl) c45 x3 x1 xf)
        · rw [x0, b2_f c45]
          refine t_pos (by decide) (t_some ?_)
          refine hJ _ (BB_end ?_ ?_ (Or.inl ⟨rfl, l, p', t1, t2, t3, t4, t5, rR_6 t6 x3 xf⟩))
          · rw [hwk]
            exact fun q => c43 ((tk_sg (by decide)).1.1 q)
          · rw [hwk]
            exact fun q => c45 ((tk_sg (by decide)).1.1 q)
    · refine t_W (t_mono (l_isSign hO (rTx_R hB hfl.2.2.2.1) hfl.2.2.2.2 (fl_okF hfl)) (fun y hy => ?_))
      have hf1 := fl_fX hfl hy.2
      refine t_k ?_
      rw [hy.1]
      refine t_pos (by decide) ?_
      refine t_W (t_mono (l_isSign hO (rTx_R hB hf1.2.2.2.1) hf1.2.2.2.2 (fl_okF hf1)) (fun x hx => ?_))
      rw [hx.1]
      refine t_pos (by decide) (t_some ?_)
      exact ⟨(0, Mc'), hJ, Or.inr ⟨rfl, fl_fX hf1 hx.2⟩⟩
  · rw [jfuel_eq]
    rcases hz with ⟨l, p', Mc', f', i', ht, -⟩ | ⟨Mc', -, hfl⟩
    · rw [mu_s ht.2.2.2.2.2.1.1]
      have := ht.2.2.2.2.1.1.1.2.1
      omega
    · rw [mu_f hfl]
      omega
  · rcases hz with ⟨l, p', Mc', f', i', ht, h42, hJ⟩ | ⟨Mc', hJ, hfl⟩
    · obtain ⟨t1, t2, t3, t4, t5, t6, t7, t8⟩ := ht
      have hpp' : 0 ≤ p' ∧ p' ≤ n := t5.1.1.2.1
      have hkb := tkK_b hO hpp'
      refine Or.inl ⟨l, p', Mc', f', i', ⟨okc_up (Nat.le_succ _) t1, t2, t3, t4, t5, t6, t7, t8⟩, h42, fun P hP => hJ P (AA_B0 ?_ hP)⟩
      rw [t5.1.1.2.2.2.2.2.1, pw_of (z := tkK tx n p') (by omega) (by omega)]
      exact fun q => h42 ((tk_sg (by decide)).1.1 q)
    · exact Or.inr ⟨Mc', hJ, hfl⟩
theorem g4_0 (f : Nat) (d : Int) : f_X4_g (f + 1) 0 d = g_X4_sum (f_X4_g f) d := by
  funext M
  show (if 0 = 0 then g_X4_sum (f_X4_g f) d M else g_X4_atom (f_X4_g f) d M) = _
  rw [if_pos rfl]
theorem g4_1 (f : Nat) (d : Int) : f_X4_g (f + 1) 1 d = g_X4_atom (f_X4_g f) d := by
  funext M
  show (if 1 = 0 then g_X4_sum (f_X4_g f) d M else g_X4_atom (f_X4_g f) d M) = _
  rw [if_neg (by decide)]
theorem g10_0 (f : Nat) : f_X10_g (f + 1) 0 = g_X10_atom (f_X10_g f) := by
  funext M
  show (if 0 = 0 then g_X10_atom (f_X10_g f) M else if 0 = 1 then g_X10_term (f_X10_g f) M else g_X10_sum (f_X10_g f) M) = _
  rw [if_pos rfl]
theorem g10_1 (f : Nat) : f_X10_g (f + 1) 1 = g_X10_term (f_X10_g f) := by
  funext M
  show (if 1 = 0 then g_X10_atom (f_X10_g f) M else if 1 = 1 then g_X10_term (f_X10_g f) M else g_X10_sum (f_X10_g f) M) = _
  rw [if_neg (by decide), if_pos rfl]
theorem g10_2 (f : Nat) : f_X10_g (f + 1) 2 = g_X10_sum (f_X10_g f) := by
  funext M
  show (if 2 = 0 then g_X10_atom (f_X10_g f) M else if 2 = 1 then g_X10_term (f_X10_g f) M else g_X10_sum (f_X10_g f) M) = _
  rw [if_neg (by decide), if_neg (by decide)]
theorem l_g2 {f : Nat} {M : jM} (h : okF M) : f_X10_g (f + 1) 2 M = some M := by
  rw [g10_2]
  exact l_smm h
/-- sums, at k brackets that may yet be opened -/
theorem sum_k {e n r c0 u0 : Int} {tx : Int → Int} {A B M0 R0 : jM} (hq : rq e tx n A B R0 r c0 u0) : ∀ (k : Nat) (fc fr : Nat) (d : Int), k ≤ 4 → d = 4 - (k : Int) → PS e tx n A B M0 R0 r c0 u0 (2 * k + 3) true (f_X4_g (fc + 2 * k + 2) 0 d) (f_X10_g (fr + 3 * k + 4) 2) d := by
  intro k
  induction k with
  | zero =>
    intro fc fr d _ hd
    have hA : PS e tx n A B M0 R0 r c0 u0 1 true (f_X4_g (fc + 1) 1 d) (f_X10_g (fr + 2) 0) d := by
      rw [g4_1, g10_0]
      exact at_pair (Cs := f_X4_g fc) (Ds := f_X10_g (fr + 1)) hq (by omega) (Nat.le_refl _) (fun q => by omega) (fun M hM => l_g2 hM)
    have := sm_pair (Cs := f_X4_g (fc + 1)) (Ds := f_X10_g (fr + 2)) (Dt := f_X10_g (fr + 3)) hq hA (g10_1 _)
    rw [← g4_0, ← g10_2] at this
    exact this
  | succ k ih =>
    intro fc fr d hk hd
    have hS := ih fc fr (d + 1) (by omega) (by omega)
    have hA : PS e tx n A B M0 R0 r c0 u0 (2 * k + 3) true (f_X4_g (fc + 2 * k + 2 + 1) 1 d) (f_X10_g (fr + 3 * k + 4 + 1) 0) d := by
      rw [g4_1, g10_0]
      exact at_pair (Cs := f_X4_g (fc + 2 * k + 2)) (Ds := f_X10_g (fr + 3 * k + 4)) hq (by omega) (by omega) (fun _ => hS) (fun M hM => l_g2 (f := fr + 3 * k + 3) hM)
    have := sm_pair (Cs := f_X4_g (fc + 2 * k + 2 + 1)) (Ds := f_X10_g (fr + 3 * k + 4 + 1)) (Dt := f_X10_g (fr + 3 * k + 4 + 1 + 1)) hq hA (g10_1 _)
    rw [← g4_0, ← g10_2] at this
    rw [show fc + 2 * (k + 1) + 2 = fc + 2 * k + 2 + 1 + 1 from by omega, show fr + 3 * (k + 1) + 4 = fr + 3 * k + 4 + 1 + 1 + 1 from by omega, show 2 * (k + 1) + 3 = 2 * k + 3 + 2 from by omega]
    exact this
theorem sum_0 {e n r c0 u0 : Int} {tx : Int → Int} {A B M0 R0 : jM} (hq : rq e tx n A B R0 r c0 u0) : PS e tx n A B M0 R0 r c0 u0 11 true (f_X4_sum 0) f_X10_sum 0 := by
  have := sum_k (M0 := M0) hq 4 14 8 0 (by decide) (by decide)
  exact this
