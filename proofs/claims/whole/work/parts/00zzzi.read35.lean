/-! ===== reading: a rule's line, both sides ===== -/
def RLt (M7 : jM) : Option jM :=
  jbW (f_X10_takesWord 48 M7) fun v10 M9 =>
  jk (fun (M11 : jM) =>
    jck (0 ≤ jw 3 ∧ jw 3 < 1089) <|
    jck (0 ≤ jw 3 ∧ jw 3 < 1089) <|
    jlet (jst M11 171 (jw 3) ((M11 171 (jw 3)) + 1)) fun M15 =>
    some M15) fun (k12 : jM → Option (jM)) =>
  if jw v10 = 0 then (
    k12 M9)
  else (
    jbV (f_X10_test M9) fun M17 =>
    jbV (f_X10_code 10009 M17) fun M19 =>
    k12 M19)
theorem RLt_k {M11 : jM} {Q : jM → Prop} (h : Q (jst M11 171 3 (M11 171 3 + 1))) : jT ((fun (M11 : jM) =>
    jck (0 ≤ jw 3 ∧ jw 3 < 1089) <|
    jck (0 ≤ jw 3 ∧ jw 3 < 1089) <|
    jlet (jst M11 171 (jw 3) ((M11 171 (jw 3)) + 1)) fun M15 =>
    some M15) M11) Q := by
  show jT (jck (0 ≤ jw 3 ∧ jw 3 < 1089) <| jck (0 ≤ jw 3 ∧ jw 3 < 1089) <| jlet (jst M11 171 (jw 3) ((M11 171 (jw 3)) + 1)) fun M15 => some M15) Q
  refine t_ck (by decide) (t_ck (by decide) ?_)
  exact t_let (t_some h)
theorem w3_v {tx : Int → Int} {n p : Int} : ixW (wd tx n p) W3 0 = if wd tx n p = sw 48 then 0 else -1 := rfl
theorem am3 {e n p : Int} {tx : Int → Int} {A M : jM} (h : cS e tx n A p M) : f_X4_among 3 M = some (if wd tx n p = sw 48 then 0 else -1) := by
  rw [c_am h.1 (by decide) swJ.2.2.2.1 okW0.2.2.2.1, w3_v]
theorem ln_rule {e n p : Int} {tx : Int → Int} {A B Mc Mr X : jM} (hR : rc e tx n A B) (h : rLn e tx n A B p Mc Mr) (hpn : p < n) (hX : bgO (Mr 171 3 < 6) tx n B p Mr X) :
    jT (f_X4_deductLine Mc) (fun qc => ∀ (K : jM → Option jM) (Q : jM → Prop), (∀ Mr', Out e tx n A B p qc.1 qc.2 Mr' → jT (K Mr') Q) → jT (jbR (f_X10_hasFailed X) fun v93 => if jw v93 = 0 then (jbV (f_X10_ruleLine X) fun M95 => K M95) else (K X)) Q) := by
  have hR' := hR
  obtain ⟨he, hO, hB, r10, r6⟩ := hR
  have h' := h
  obtain ⟨hc, hr, h13, h8, hE⟩ := h
  obtain ⟨hX1, hX2, hX3, hX4⟩ := hX
  have hp := rAt_b hr.1
  have n6 := hO.2.1
  have t3 := hE.1.2.2.2.1
  have hb := nx_b (tx := tx) (n := n) (p := p) (by omega)
  have hH := hE.2.2.2.1
  have e71 : X 171 = Mr 171 := hX2 171 (by decide)
  have hfull : f_X5_isFull (e + 7) Mc = some (if Mr 171 3 < 6 then 0 else 1) := by
    unfold f_X5_isFull
    rw [hH.2.2.2.2.1, pw_of (z := Mr 171 3) (by omega) (by omega), pw_of (z := 6) (by omega) (by omega)]
    split <;> rfl
  unfold f_X4_deductLine
  rw [hc.2.1]
  refine t_ck (kd_e he) ?_
  refine t_Re hfull ?_
  by_cases c : Mr 171 3 < 6
  · have hX1 := hX1.resolve_right (fun z => z.1 c)
    rw [if_pos c]
    refine t_pos (by decide) ?_
    refine t_let ?_
    refine t_V (t_mono (cS_adv hc he) (fun M6 h4 => ?_))
    have h2 := RL_adv hR' h' h4 hX1.2 hX2 hX3 hX4
    have e67 : M6 (e + 7) = Mc (e + 7) := h4.2.1 _ (by omega)
    have hc00 := hE.2.2.2.2.2.2.2.1
    obtain ⟨r, hr3⟩ : ∃ r, Mr 171 3 = r := ⟨_, rfl⟩
    obtain ⟨c0, hc0⟩ : ∃ c0, c0 = X 171 (482 + r) := ⟨_, rfl⟩
    obtain ⟨u0, hu0⟩ : ∃ u0, u0 = M6 (e + 7) 1 := ⟨_, rfl⟩
    rw [hr3] at t3 c hc00
    rw [← e67, ← hu0, ← e71, ← hc0] at hc00
    rw [← e67, ← hu0]
    have x3 : X 171 3 = r := by rw [e71]; exact hr3
    have hq : rq e tx n A B (jst X 171 (482 + r + 1) c0) r c0 u0 := ⟨hR', by omega, by rw [pst_i (by omega)]; exact x3, by omega⟩
    have hcR : cR e tx n A M6 u0 [] (nx tx n p) M6 := ⟨h4.1, by rw [← hu0]; simp, fun i hi => absurd hi (by simp), fun _ _ => rfl, fun _ _ _ _ => rfl, fun _ _ => rfl, rfl⟩
    have hrR : rR tx n B (jst X 171 (482 + r + 1) c0) r c0 [] 0 (nx tx n p) (jst X 171 (482 + r + 1) c0) := ⟨rS_1 hX1.2, by rw [pst_c (by decide), hX3]; exact h13, rfl, by rw [pst_s]; simp, fun i hi => absurd hi (by simp), fun _ _ _ => rfl, fun _ _ _ => rfl⟩
    obtain ⟨q, hq1, z, hz1, ho⟩ := sum_0 (M0 := M6) hq [] (nx tx n p) M6 _ hcR hrR (by simp; omega)
    have rs0 : ∀ (K : jM → Option jM) (Q : jM → Prop), jT (RLt z) (fun Y => jT (K Y) Q) → jT (jbR (f_X10_hasFailed X) fun v93 => if jw v93 = 0 then (jbV (f_X10_ruleLine X) fun M95 => K M95) else (K X)) Q := fun K Q hj => by
      refine t_Re (e_failed (by rw [hX1.2.2.1]; omega)) ?_
      rw [if_pos hX1.2.2.1]
      refine t_pos (by decide) ?_
      refine t_V ?_
      unfold f_X10_ruleLine
      rw [pw_of (z := 3) (by omega) (by omega), x3, pw_of (z := 482 + r) (by omega) (by omega), pw_of (z := 482 + r + 1) (by omega) (by omega), ← hc0]
      refine t_ck (by decide) (t_ck (by decide) (t_ck (by omega) (t_ck (by omega) (t_let ?_))))
      refine t_Ve hz1 ?_
      exact hj
    have flk : ∀ (Mx : jM) (Y : jM) (K : jM → Option jM) (Q : jM → Prop), fl e n A B Mx Y → (∀ Mr', Out e tx n A B p 0 Mx Mr' → jT (K Mr') Q) → jT ((fun (M11 : jM) => jck (0 ≤ jw 3 ∧ jw 3 < 1089) <| jck (0 ≤ jw 3 ∧ jw 3 < 1089) <| jlet (jst M11 171 (jw 3) ((M11 171 (jw 3)) + 1)) fun M15 => some M15) Y) (fun Y => jT (K Y) Q) := fun Mx Y K Q hfl hK => RLt_k (hK _ (Or.inr ⟨rfl, fl_1 hfl _ _⟩))
    refine t_We (v := q.1) (M := q.2) hq1 ?_
    rcases ho with ⟨o1, l1, p1, o2, o3, o4, o5, o6, o7⟩ | ⟨o1, o2⟩
    · rw [o1]
      refine t_neg (by decide) ?_
      rw [List.nil_append] at o6 o7
      have hp1 : 0 ≤ p1 ∧ p1 ≤ n := o6.1.1.2.1
      have hb1 := nx_b (tx := tx) (n := n) (p := p1) hp1
      rw [o6.2.1]
      refine t_let ?_
      refine t_Re (am3 o6.1) ?_
      obtain ⟨y, hy0, hy⟩ := rS_tw (k := 48) hO hB o7.1 (by decide)
      obtain ⟨hy, y6⟩ := hy
      refine t_k ?_
      rcases hy with ⟨y1, y2, y3⟩ | ⟨y1, y2, y3, -⟩
      · rw [if_pos y1]
        refine t_neg (by decide) ?_
        have hlt := wd_lt (tx := tx) (k := 48) hp1.2 (by decide) y1
        have hrn := (rn_b (c := isLt) (tx := tx) hp1.2).2.1
        have hb' : p1 < nx tx n p1 := hb1.2.2.2 (by omega)
        have hr1 := rR_6 o7 y3 y6
        obtain ⟨M18, h18, h18'⟩ := cR_adv he o6
        refine t_Ve h18 ?_
        obtain ⟨q2, hq2, z2, hz2, ho2⟩ := te_pair (M0 := M6) hq l1 (nx tx n p1) M18 y.2 h18' hr1 (by omega)
        refine t_We (v := q2.1) (M := q2.2) hq2 ?_
        have rs1 : ∀ (K : jM → Option jM) (Q : jM → Prop), jT (jbV (f_X10_code 10009 z2) fun M19 => (fun (M11 : jM) => jck (0 ≤ jw 3 ∧ jw 3 < 1089) <| jck (0 ≤ jw 3 ∧ jw 3 < 1089) <| jlet (jst M11 171 (jw 3) ((M11 171 (jw 3)) + 1)) fun M15 => some M15) M19) (fun Y => jT (K Y) Q) → jT (jbR (f_X10_hasFailed X) fun v93 => if jw v93 = 0 then (jbV (f_X10_ruleLine X) fun M95 => K M95) else (K X)) Q := fun K Q hj => by
          refine rs0 K Q ?_
          unfold RLt
          refine t_We (v := y.1) (M := y.2) hy0 (t_k ?_)
          rw [y2]
          refine t_neg (by decide) ?_
          exact t_Ve hz2 hj
        rcases ho2 with ⟨s1, l2, p2, s2, s3, s4, s5, s6, s7⟩ | ⟨s1, s2⟩
        · rw [s1]
          refine t_neg (by decide) ?_
          have hp2 : 0 ≤ p2 ∧ p2 ≤ n := s6.1.1.2.1
          have hll : ((l1 ++ l2).length : Int) = (l1.length : Int) + (l2.length : Int) := by rw [List.length_append]; omega
          have hl2 : 0 < l2.length := by
            cases l2 with
            | nil => cases s2
            | cons _ _ => rw [List.length_cons]; omega
          obtain ⟨w, hw, hw'⟩ := rR_code (v := 10009) s7 hq.2.1 hq.2.2.1 (by omega)
          have n9 : ∀ x ∈ l1 ++ l2, x ≠ 10009 := fun x hx => by
            rw [List.mem_append] at hx
            rcases hx with hx | hx
            · exact o3 x hx
            · exact s3 x hx
          obtain ⟨Mf, hf, hF⟩ := rule_fin (p := nx tx n p) (p' := p2) (l1 := l1) (l2 := l2) hR' h2 (by omega) x3 hq.2.1 hu0 hc0 s6 hw' (okc_up (by decide) o2) n9 (Or.inr ⟨hl2, s2, rfl⟩) (by rw [show ((l1 ++ l2) ++ [(10009 : Int)]).length = (l1 ++ l2).length + 1 from List.length_append]; omega)
          refine t_Ve hf (t_some ?_)
          intro K Q hK
          refine rs1 K Q (t_Ve hw (RLt_k (hK _ (Or.inl ⟨rfl, p2, by omega, hF⟩))))
        · rw [s1]
          refine t_pos (by decide) (t_some ?_)
          intro K Q hK
          refine rs1 K Q (t_Ve (l_code (fl_okF s2)) ?_)
          exact flk _ _ K Q s2 hK
      · rw [if_neg y1]
        refine t_pos (by decide) ?_
        have hr1 := rR_6 o7 y3 y6
        obtain ⟨Mf, hf, hF⟩ := rule_fin (p := nx tx n p) (p' := p1) (l1 := l1) (l2 := []) hR' h2 (by omega) x3 hq.2.1 hu0 hc0 (by rw [List.append_nil]; exact o6) hr1 (okc_up (by decide) o2) (by rw [List.append_nil]; exact o3) (Or.inl ⟨rfl, by rw [List.append_nil]⟩) (by omega)
        refine t_Ve hf (t_some ?_)
        intro K Q hK
        refine rs0 K Q ?_
        unfold RLt
        refine t_We (v := y.1) (M := y.2) hy0 (t_k ?_)
        rw [y2]
        refine t_pos (by decide) ?_
        exact RLt_k (hK _ (Or.inl ⟨rfl, p1, by omega, hF⟩))
    · rw [o1]
      refine t_pos (by decide) (t_some ?_)
      intro K Q hK
      refine rs0 K Q ?_
      unfold RLt
      refine t_W (t_mono (l_takesWord o2.2.2.2.2 (fl_okF o2)) (fun y hy => ?_))
      refine t_k ?_
      rw [hy.1]
      refine t_pos (by decide) ?_
      exact flk _ _ K Q (fl_fX o2 hy.2) hK
  · rw [if_neg c]
    refine t_neg (by decide) ?_
    rcases hX1 with hX1 | hX1
    · exact absurd hX1.1 c
    · refine c_refuse ?_
      intro K Q hK
      dsimp only at hK
      rw [hc.1.2.2.2.2.1] at hK
      have hfl := fl_0 (e := e) (A := A) (Mc := Mc) (p := p) (by omega) hc.2.2.2 he hX1.2.1 hX1.2.2.1 hX1.2.2.2
      refine t_Re (l_failed (fl_okF hfl)) ?_
      refine t_neg (by decide) ?_
      exact hK _ (Or.inr ⟨rfl, hfl⟩)
