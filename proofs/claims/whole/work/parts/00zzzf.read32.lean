/-! ===== reading: tests ===== -/
def KKt (F6 : Int → Int → Int → jM → Option (Int × jM)) (v26 : Int) (l4_4 : Int) (M30 : jM) : Option (Int × jM) :=
  if jw v26 = jw (-1) then (
    some (1, M30))
  else (
    jbV (f_X4_advance M30) fun M35 =>
    jlet (l4_4 + 1) fun l4_36 =>
    F6 0 1 l4_36 M35)
def JJt (e7 : Int) (self6 : Int → Int → Int → jM → Option (Int × jM)) (l3_3 : Int) (l4_4 : Int) (M23 : jM) : Option (Int × jM) :=
              jbR (f_X4_among 4 M23) fun v26 =>
              jk (fun (s0_27 : Int) =>
                jk (fun (M30 : jM) =>
                  if jw v26 = jw (-1) then (
                    some (1, M30))
                  else (
                    jk (fun (s0_32 : Int) =>
                      jbV (f_X4_advance M30) fun M35 =>
                      jlet (l4_4 + 1) fun l4_36 =>
                      self6 s0_27 s0_32 l4_36 M35) fun (k33 : Int → Option (Int × jM)) =>
                    jk (
                      k33 1) fun (k37 : Option (Int × jM)) =>
                    if jw l3_3 = 0 then (
                      if jw s0_27 = 0 then (
                        k37)
                      else (
                        k33 0))
                    else (
                      k37))) fun (k31 : jM → Option (Int × jM)) =>
                if jw l3_3 = 0 then (
                  k31 M23)
                else (
                  if jw s0_27 = 0 then (
                    jbV (f_X5_add e7 (-8) M23) fun M39 =>
                    k31 M39)
                  else (
                    k31 M23))) fun (k28 : Int → Option (Int × jM)) =>
              if jw v26 = 0 then (
                k28 1)
              else (
                k28 0)
def FcT (e7 : Int) (self6 : Int → Int → Int → jM → Option (Int × jM)) (l2_2 : Int) (l3_3 : Int) (l4_4 : Int) (M5 : jM) : Option (Int × jM) :=
    if jw 600 < jw l4_4 then (
      jbW (f_X4_refuse M5) fun v9 M8 =>
      jck (jw v9 = 0 ∨ jw v9 = 1) <| some (v9, M8))
    else (
      jbW (f_X4_sum 0 M5) fun v13 M12 =>
      if jw v13 = 0 then (
        some (0, M12))
      else (
        jbR (f_X4_relation M12) fun v15 =>
        if jw v15 = jw (-1) then (
          jbW (f_X4_refuse M12) fun v44 M43 =>
          jck (jw v44 = 0 ∨ jw v44 = 1) <| some (v44, M43))
        else (
          jbV (f_X4_advance M12) fun M17 =>
          jbW (f_X4_sum 0 M17) fun v20 M19 =>
          if jw v20 = 0 then (
            some (0, M19))
          else (
            jbV (f_X5_add e7 v15 M19) fun M22 =>
            jk (fun (M23 : jM) => JJt e7 self6 l3_3 l4_4 M23) fun (k24 : jM → Option (Int × jM)) =>
            if jw l2_2 = 0 then (
              k24 M22)
            else (
              jbV (f_X5_add e7 (-7) M22) fun M41 =>
              k24 M41)))))
theorem JJ_and {e7 w i : Int} {F6 : Int → Int → Int → jM → Option (Int × jM)} {M : jM} {P : Int × jM → Prop} (ha : f_X4_among 4 M = some 0) (hw : w = 0 ∨ w = 1) (h : jT (f_X4_advance M) (fun M24 => jT (F6 1 w (i + 1) M24) P)) : jT (JJt e7 F6 w i M) P := by
  unfold JJt
  refine t_Re ha ?_
  refine t_k ?_
  refine t_pos (by decide) ?_
  rcases hw with hw | hw <;> subst hw
  · refine t_k ?_
    refine t_pos (by decide) ?_
    refine t_neg (by decide) ?_
    refine t_k ?_
    refine t_k ?_
    refine t_pos (by decide) ?_
    refine t_neg (by decide) ?_
    exact t_V (t_mono h (fun M24 h24 => t_let h24))
  · refine t_k ?_
    refine t_neg (by decide) ?_
    refine t_neg (by decide) ?_
    refine t_neg (by decide) ?_
    refine t_k ?_
    refine t_k ?_
    refine t_neg (by decide) ?_
    exact t_V (t_mono h (fun M24 h24 => t_let h24))
theorem JJ_tail {F6 : Int → Int → Int → jM → Option (Int × jM)} {v w i : Int} {M : jM} {P : Int × jM → Prop} (h : jT (KKt F6 v i M) P) : jT (if jw v = jw (-1) then (some (1, M)) else (jk (fun (s0_32 : Int) => jbV (f_X4_advance M) fun M35 => jlet (i + 1) fun l4_36 => F6 0 s0_32 l4_36 M35) fun (k33 : Int → Option (Int × jM)) => jk (k33 1) fun (k37 : Option (Int × jM)) => if jw w = 0 then (if jw 0 = 0 then (k37) else (k33 0)) else (k37))) P := by
  unfold KKt at h
  by_cases c : jw v = jw (-1)
  · rw [if_pos c] at h ⊢
    exact h
  · rw [if_neg c] at h ⊢
    refine t_k ?_
    refine t_k ?_
    exact t_if (fun _ => t_pos (by decide) h) (fun _ => h)
theorem JJ_B0 {e7 v i : Int} {F6 : Int → Int → Int → jM → Option (Int × jM)} {M : jM} {P : Int × jM → Prop} (ha : f_X4_among 4 M = some v) (hv : jw v ≠ 0) (h : jT (KKt F6 v i M) P) : jT (JJt e7 F6 0 i M) P := by
  unfold JJt
  refine t_Re ha ?_
  refine t_k ?_
  refine t_neg hv ?_
  refine t_k ?_
  refine t_pos (by decide) ?_
  exact JJ_tail h
theorem JJ_B1 {e7 v i : Int} {F6 : Int → Int → Int → jM → Option (Int × jM)} {M : jM} {P : Int × jM → Prop} (ha : f_X4_among 4 M = some v) (hv : jw v ≠ 0) (h : jT (f_X5_add e7 (-8) M) (fun M39 => jT (KKt F6 v i M39) P)) : jT (JJt e7 F6 1 i M) P := by
  unfold JJt
  refine t_Re ha ?_
  refine t_k ?_
  refine t_neg hv ?_
  refine t_k ?_
  refine t_neg (by decide) ?_
  refine t_pos (by decide) ?_
  exact t_V (t_mono h (fun M39 h39 => JJ_tail h39))
def faO (e : Int) (tx : Int → Int) (n : Int) (A B M0 R0 : jM) (r c0 u0 : Int) (L : List Int) (p : Int) (Mc Mr' : jM) : Prop := (∃ l p' M22, okc 12 l [] [false] ∧ (∀ x ∈ l, x ≠ 10009) ∧ p + (l.length : Int) ≤ p' ∧ p < p' ∧ cR e tx n A M0 u0 (L ++ l) p' M22 ∧ rR tx n B R0 r c0 (L ++ l) 0 p' Mr' ∧ ∀ (F6 : Int → Int → Int → jM → Option (Int × jM)) (t w i : Int) (P : Int × jM → Prop), 0 ≤ i → i ≤ 600 → jT (jk (fun (M23 : jM) => JJt (e + 7) F6 w i M23) fun (k24 : jM → Option (Int × jM)) => if jw t = 0 then (k24 M22) else (jbV (f_X5_add (e + 7) (-7) M22) fun M41 => k24 M41)) P → jT (FcT (e + 7) F6 t w i Mc) P) ∨ (∃ Mc', (∀ (F6 : Int → Int → Int → jM → Option (Int × jM)) (t w i : Int), 0 ≤ i → i ≤ 600 → FcT (e + 7) F6 t w i Mc = some (0, Mc')) ∧ fl e n A B Mc' Mr')
/-- one fact of a test -/
theorem fa_pair {e n r c0 u0 : Int} {tx : Int → Int} {A B M0 R0 : jM} (hq : rq e tx n A B R0 r c0 u0) (L : List Int) (p : Int) (Mc Mr : jM) (hc : cR e tx n A M0 u0 L p Mc) (hr : rR tx n B R0 r c0 L 0 p Mr) (hcap : c0 + (L.length : Int) ≤ p) :
    jT (f_X10_fact Mr) (faO e tx n A B M0 R0 r c0 u0 L p Mc) := by
  have hS := sum_0 (M0 := M0) hq
  obtain ⟨hR, hr6, hr3, hu⟩ := hq
  obtain ⟨he, hO, hB, -, -⟩ := hR
  have n6 := hO.2.1
  obtain ⟨q, hqc, z, hzz, hz⟩ := hS L p Mc Mr hc hr hcap
  unfold f_X10_fact
  refine t_Ve hzz ?_
  rcases hz with ⟨k1, l1, p1, k2, k3, k4, k5, k6, k7⟩ | ⟨k1, k2⟩
  · have hp1 : 0 ≤ p1 ∧ p1 ≤ n := k6.1.1.2.1
    have hl1 : ((L ++ l1).length : Int) = (L.length : Int) + (l1.length : Int) := by rw [List.length_append]; omega
    refine t_V (t_mono (e_blanks hO (rTx_R hB k7.1.2.2) rfl ⟨k7.1.1.1, k7.1.1.2.1⟩) (fun M4 h4 => ?_))
    obtain ⟨b4, b5, b6⟩ := h4
    rw [k7.1.1.2.2] at b4 b5
    have hS4 : rS tx n B p1 M4 := ⟨rAt_p k7.1.1 b4, by rw [b6.2 7 (by decide) (by decide)]; exact k7.1.2.1, frR_t k7.1.2.2 (frR_6 b6)⟩
    have hr4 := rR_6 k7 hS4 b6
    have hx4 := rTx_R hB hS4.2.2
    have hkb := tkK_b hO hp1
    have hk3 : q.2 109 3 = tkK tx n p1 := k6.1.1.2.2.2.2.2.1
    -- what stands there, for the reference
    refine t_kP (fun kk => ∀ x, (n ≤ p1 ∧ x = 0 ∨ p1 < n ∧ x = jb8 (tx p1)) → jT (kk x) (faO e tx n A B M0 R0 r c0 u0 L p Mc)) ?_ ?_
    · intro x hx
      have hx3 : ∀ c, (c = 60 ∨ c = 61 ∨ c = 62) → ((x = c ↔ p1 < n ∧ tx p1 = c) ∧ (tkK tx n p1 = c ↔ p1 < n ∧ tx p1 = c)) := fun c hcc => by
        refine ⟨?_, (tk_sg (by omega)).1⟩
        rcases hx with ⟨x1, x2⟩ | ⟨x1, x2⟩
        · exact ⟨fun q => by omega, fun q => by omega⟩
        · have hv := hO.2.2 p1 hp1.1 x1
          rw [x2, b8_o hv]
          constructor
          · intro q
            split at q <;> omega
          · intro q
            rw [if_pos (by omega)]
            exact q.2
      have hxb : -128 ≤ x ∧ x ≤ 127 := by
        rcases hx with ⟨x1, x2⟩ | ⟨x1, x2⟩
        · omega
        · have hv := hO.2.2 p1 hp1.1 x1
          rw [x2, b8_o hv]
          split <;> omega
      refine t_Re (e_failed (by rw [hS4.2.1]; omega)) ?_
      rw [if_pos hS4.2.1]
      refine t_kP (fun kk => ¬ (x = 60 ∨ x = 61 ∨ x = 62) → jT kk (faO e tx n A B M0 R0 r c0 u0 L p Mc)) ?_ ?_
      · intro hno
        refine t_Ve (e_fails0 hS4.2.1) (t_some (Or.inr ⟨jst q.2 109 7 p1, fun F6 t w i i0 i1 => ?_, fl_f (A := A) k6.1.2.2.2 he n6 hS4 b5⟩))
        apply t_get
        unfold FcT
        rw [pw_of (z := 600) (by omega) (by omega), pw_of (z := i) (by omega) (by omega)]
        refine t_neg (by omega) ?_
        refine t_We (v := q.1) (M := q.2) hqc ?_
        rw [k1]
        refine t_neg (by decide) ?_
        have hrel : f_X4_relation q.2 = some (-1) := by
          unfold f_X4_relation
          rw [hk3, pw_of (z := tkK tx n p1) (by omega) (by omega)]
          refine if_pos ?_
          have y0 := hx3 60 (by omega)
          have y1 := hx3 61 (by omega)
          have y2 := hx3 62 (by omega)
          have z0 : tkK tx n p1 ≠ 60 := fun g => hno (Or.inl (y0.1.2 (y0.2.1 g)))
          have z1 : tkK tx n p1 ≠ 61 := fun g => hno (Or.inr (Or.inl (y1.1.2 (y1.2.1 g))))
          have z2 : tkK tx n p1 ≠ 62 := fun g => hno (Or.inr (Or.inr (y2.1.2 (y2.2.1 g))))
          clear hx3 y0 y1 y2 hno hx
          omega
        refine t_Re hrel ?_
        refine t_pos rfl ?_
        refine c_refuse ?_
        rw [k6.1.1.2.2.2.2.1]
      · intro k9 h9
        refine t_pos (by decide) ?_
        refine t_kP (fun kk => (x = 60 ∨ x = 61 ∨ x = 62) → jT kk (faO e tx n A B M0 R0 r c0 u0 L p Mc)) ?_ ?_
        · intro hyes
          have hpn : p1 < n ∧ tx p1 = x := by
            rcases hyes with g | g | g
            · have := (hx3 60 (by omega)).1.1 g
              rw [g]; exact this
            · have := (hx3 61 (by omega)).1.1 g
              rw [g]; exact this
            · have := (hx3 62 (by omega)).1.1 g
              rw [g]; exact this
          have hcs : 33 ≤ x ∧ x ≤ 64 ∧ (x < 48 ∨ 57 < x) := by omega
          have hkx : tkK tx n p1 = x := (tk_sg hcs).1.2 hpn
          clear hx3
          have hb : p1 < nx tx n p1 := (nx_b (tx := tx) (n := n) (p := p1) hp1).2.2.2 hpn.1
          have hr5 : rR tx n B R0 r c0 (L ++ l1) 0 (nx tx n p1) (jst M4 166 4 (p1 + 1)) := rR_6 hr4 (rS_pt hcs hS4 b4 hpn) (fr6_4 _ _)
          obtain ⟨M17, h17, h17'⟩ := cR_adv he k6
          obtain ⟨q2, hq2, z2, hz2, ho⟩ := hS (L ++ l1) (nx tx n p1) M17 _ h17' hr5 (by omega)
          have hrel : f_X4_relation q.2 = some (56 - x) := by
            unfold f_X4_relation
            rw [hk3, hkx, pw_of (z := x) (by omega) (by omega), if_neg (by omega)]
            rcases hyes with g | g | g <;> subst g <;> rfl
          have hctr : 56 - x = ctr (9944 + x) := by
            rcases hyes with g | g | g <;> subst g <;> rfl
          refine t_let ?_
          rw [b4]
          refine t_Ve hz2 ?_
          refine t_kP (fun kk => jT (kk (9944 + x)) (faO e tx n A B M0 R0 r c0 u0 L p Mc)) ?_ (fun k17 hk17 => ?_)
          · rcases ho with ⟨o1, l2, p2, o2, o3, o4, o5, o6, o7⟩ | ⟨o1, o2⟩
            · have hp2 : 0 ≤ p2 ∧ p2 ≤ n := o6.1.1.2.1
              have hl2 : (((L ++ l1) ++ l2).length : Int) = (L.length : Int) + (l1.length : Int) + (l2.length : Int) := by rw [List.length_append, List.length_append]; omega
              obtain ⟨M31, h31, h31'⟩ := cR_add (v := 9944 + x) he o6 (by omega)
              obtain ⟨y, hy, hy'⟩ := rR_code (v := 9944 + x) o7 hr6 hr3 (by omega)
              refine t_Ve hy (t_some (Or.inl ⟨l1 ++ (l2 ++ [9944 + x]), p2, M31, okc_op (okc_up (by decide) k2) o2 ?_, ?_, ?_, by omega, ?_, ?_, fun F6 t w i P i0 i1 hP => ?_⟩))
              · rcases hyes with g | g | g <;> subst g <;> rfl
              · intro v hv
                rw [List.mem_append, List.mem_append, List.mem_singleton] at hv
                rcases hv with hv | hv | hv
                · exact k3 v hv
                · exact o3 v hv
                · omega
              · rw [List.length_append, List.length_append, List.length_singleton]
                omega
              · rw [List.append_assoc, List.append_assoc] at h31'
                exact h31'
              · rw [List.append_assoc, List.append_assoc] at hy'
                exact hy'
              · unfold FcT
                rw [pw_of (z := 600) (by omega) (by omega), pw_of (z := i) (by omega) (by omega)]
                refine t_neg (by omega) ?_
                refine t_We (v := q.1) (M := q.2) hqc ?_
                rw [k1]
                refine t_neg (by decide) ?_
                refine t_Re hrel ?_
                rw [pw_of (z := 56 - x) (by omega) (by omega), pw_of (z := -1) (by omega) (by omega)]
                refine t_neg (by omega) ?_
                refine t_Ve h17 ?_
                refine t_We (v := q2.1) (M := q2.2) hq2 ?_
                rw [o1]
                refine t_neg (by decide) ?_
                rw [hctr]
                exact t_Ve h31 hP
            · refine t_Ve (l_code (fl_okF o2)) (t_some (Or.inr ⟨q2.2, fun F6 t w i i0 i1 => ?_, o2⟩))
              apply t_get
              unfold FcT
              rw [pw_of (z := 600) (by omega) (by omega), pw_of (z := i) (by omega) (by omega)]
              refine t_neg (by omega) ?_
              refine t_We (v := q.1) (M := q.2) hqc ?_
              rw [k1]
              refine t_neg (by decide) ?_
              refine t_Re hrel ?_
              rw [pw_of (z := 56 - x) (by omega) (by omega), pw_of (z := -1) (by omega) (by omega)]
              refine t_neg (by omega) ?_
              refine t_Ve h17 ?_
              refine t_We (v := q2.1) (M := q2.2) hq2 ?_
              rw [o1]
              exact t_pos (by decide) (t_some rfl)
          · rw [pw_of (z := x) (by omega) (by omega), pw_of (z := 60) (by omega) (by omega), pw_of (z := 61) (by omega) (by omega)]
            rcases hyes with g | g | g <;> subst g
            · exact t_pos rfl hk17
            · exact t_neg (by decide) (t_pos rfl hk17)
            · exact t_neg (by decide) (t_neg (by decide) hk17)
        · intro k12 h12
          rw [pw_of (z := x) (by omega) (by omega), pw_of (z := 60) (by omega) (by omega), pw_of (z := 61) (by omega) (by omega), pw_of (z := 62) (by omega) (by omega)]
          exact t_if (fun c => h12 (Or.inl c)) (fun c0 => t_if (fun c => h12 (Or.inr (Or.inl c))) (fun c1 => t_if (fun c => h12 (Or.inr (Or.inr c))) (fun c2 => h9 (fun g => by rcases g with g | g | g <;> contradiction))))
    · intro k6' h6'
      rw [hx4.1, b4, pw_of (z := n) (by omega) (by omega), pw_of (z := p1) (by omega) (by omega)]
      refine t_if (fun c => h6' 0 (Or.inl ⟨c, rfl⟩)) (fun c => ?_)
      refine t_ck (by omega) ?_
      exact h6' _ (Or.inr ⟨by omega, hx4.2 p1 hp1.1 (by omega)⟩)
  · refine t_V (t_mono (l_blanks hO (rTx_R hB k2.2.2.2.1) k2.2.2.2.2) (fun M4 h4 => ?_))
    have hf := fl_fX k2 h4
    have hx4 := rTx_R hB hf.2.2.2.1
    have hpt := hf.2.2.2.2
    unfold rPt at hpt
    refine t_kP (fun kk => ∀ x, jT (kk x) (faO e tx n A B M0 R0 r c0 u0 L p Mc)) ?_ ?_
    · intro x
      refine t_Re (l_failed (fl_okF hf)) ?_
      refine t_k ?_
      refine t_neg (by decide) ?_
      refine t_Ve (l_fails (fl_okF hf)) (t_some (Or.inr ⟨q.2, fun F6 t w i i0 i1 => ?_, hf⟩))
      apply t_get
      unfold FcT
      rw [pw_of (z := 600) (by omega) (by omega), pw_of (z := i) (by omega) (by omega)]
      refine t_neg (by omega) ?_
      refine t_We (v := q.1) (M := q.2) hqc ?_
      rw [k1]
      exact t_pos (by decide) (t_some rfl)
    · intro k6' h6'
      rw [hx4.1, pw_of (z := n) (by omega) (by omega), pw_of (z := M4 166 4) (by omega) (by omega)]
      refine t_if (fun c => h6' 0) (fun c => ?_)
      exact t_ck (by omega) (h6' _)
