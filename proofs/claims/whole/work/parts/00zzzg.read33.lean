/-! ===== reading: parts of a test, tests ===== -/
def tsI (e : Int) (tx : Int → Int) (n : Int) (A B M0 R0 : jM) (r c0 u0 : Int) (h : Nat) (L : List Int) (p p' : Int) (Mr : jM) (l : List Int) (Mc' : jM) (f' : Nat) (i' : Int) : Prop := okc h l [] [false] ∧ (∀ x ∈ l, x ≠ 10009) ∧ p + (l.length : Int) ≤ p' ∧ p < p' ∧ cR e tx n A M0 u0 (L ++ l) p' Mc' ∧ rR tx n B R0 r c0 (L ++ l) 0 p' Mr ∧ (0 ≤ i' ∧ i' ≤ p') ∧ 699 ≤ (f' : Int) + i'
theorem w4_v {tx : Int → Int} {n p : Int} : ixW (wd tx n p) W4 0 = if wd tx n p = sw 49 then 0 else if wd tx n p = sw 50 then 1 else -1 := rfl
theorem am4 {e n p : Int} {tx : Int → Int} {A M : jM} (h : cS e tx n A p M) : f_X4_among 4 M = some (if wd tx n p = sw 49 then 0 else if wd tx n p = sw 50 then 1 else -1) := by
  rw [c_am h.1 (by decide) swJ.2.2.2.2.1 okW0.2.2.2.2.1, w4_v]
theorem pa_pair {e n r c0 u0 : Int} {tx : Int → Int} {A B M0 R0 : jM} (hq : rq e tx n A B R0 r c0 u0)
    (L : List Int) (p i w : Int) (f : Nat) (Mc Mr : jM) (hc : cR e tx n A M0 u0 L p Mc) (hr : rR tx n B R0 r c0 L 0 p Mr) (hcap : c0 + (L.length : Int) ≤ p) (hi : 0 ≤ i ∧ i ≤ p) (hf : 700 ≤ (f : Int) + i) (hw : w = 0 ∨ w = 1) :
    jT (f_X10_part Mr) (fun Mr' => (∃ l p' Mc' f' i', tsI e tx n A B M0 R0 r c0 u0 13 L p p' Mr' l Mc' f' i' ∧ wd tx n p' ≠ sw 49 ∧ ∀ P, jT (JJt (e + 7) (jlp4 (FcT (e + 7)) f') w i' Mc') P → jT (jlp4 (FcT (e + 7)) f 0 w i Mc) P) ∨ (∃ Mc', jlp4 (FcT (e + 7)) f 0 w i Mc = some (0, Mc') ∧ fl e n A B Mc' Mr')) := by
  have hq' := hq
  obtain ⟨hR, hr6, hr3, hu⟩ := hq
  obtain ⟨he, hO, hB, -, -⟩ := hR
  have n6 := hO.2.1
  have hpp : 0 ≤ p ∧ p ≤ n := hc.1.1.2.1
  obtain ⟨z, hzz, hz⟩ := fa_pair (M0 := M0) hq' L p Mc Mr hc hr hcap
  obtain ⟨f, rfl⟩ : ∃ g, f = g + 1 := ⟨f - 1, by omega⟩
  unfold f_X10_part
  refine t_Ve hzz ?_
  refine t_lp1 (fun M3 => (∃ l p' Mc' f' i', tsI e tx n A B M0 R0 r c0 u0 13 L p p' M3 l Mc' f' i' ∧ ∀ P, jT (JJt (e + 7) (jlp4 (FcT (e + 7)) f') w i' Mc') P → jT (jlp4 (FcT (e + 7)) (f + 1) 0 w i Mc) P) ∨ (∃ Mc', jlp4 (FcT (e + 7)) (f + 1) 0 w i Mc = some (0, Mc') ∧ fl e n A B Mc' M3)) (muR tx n) ?_ jfuel z ?_ ?_
  · intro self M3 hI hself
    rcases hI with ⟨l, p', Mc', f', i', ⟨t1, t2, t3, t4, t5, t6, t7, t8⟩, hJ⟩ | ⟨Mc', hJ, hfl⟩
    · have hpp' : 0 ≤ p' ∧ p' ≤ n := t5.1.1.2.1
      refine t_W (t_mono (rS_tw (k := 49) hO hB t6.1 (by decide)) (fun y hy => ?_))
      obtain ⟨hy, y6⟩ := hy
      rcases hy with ⟨y1, y2, y3⟩ | ⟨y1, y2, y3, -⟩
      · rw [y2]
        refine t_neg (by decide) ?_
        have hlt := wd_lt (tx := tx) (k := 49) hpp'.2 (by decide) y1
        have hrn := (rn_b (c := isLt) (tx := tx) hpp'.2).2.1
        have hb : p' < nx tx n p' := (nx_b (tx := tx) (n := n) (p := p') hpp').2.2.2 (by omega)
        have hr1 := rR_6 t6 y3 y6
        obtain ⟨M24, h24, h24'⟩ := cR_adv he t5
        have hl1 : ((L ++ l).length : Int) = (L.length : Int) + (l.length : Int) := by rw [List.length_append]; omega
        obtain ⟨z2, hz2, ho⟩ := fa_pair (M0 := M0) hq' (L ++ l) (nx tx n p') M24 y.2 h24' hr1 (by omega)
        obtain ⟨f'', rfl⟩ : ∃ g, f' = g + 1 := ⟨f' - 1, by omega⟩
        have ham : f_X4_among 4 Mc' = some 0 := by rw [am4 t5.1, if_pos y1]
        refine t_Ve hz2 ?_
        rcases ho with ⟨l2, p2, M22, o2, o3, o4, o5, o6, o7, o8⟩ | ⟨Mx, o1, o2⟩
        · have hp2 : 0 ≤ p2 ∧ p2 ≤ n := o6.1.1.2.1
          have hl2 : (((L ++ l) ++ l2).length : Int) = (L.length : Int) + (l.length : Int) + (l2.length : Int) := by rw [List.length_append, List.length_append]; omega
          obtain ⟨M31, h31, h31'⟩ := cR_add (v := 10007) he o6 (by omega)
          obtain ⟨x, hx, hx'⟩ := rR_code (v := 10007) o7 hr6 hr3 (by omega)
          refine t_Ve hx ?_
          rw [List.append_assoc, List.append_assoc] at h31' hx'
          have hl3 : ((l ++ (l2 ++ [10007])).length : Int) = (l.length : Int) + (l2.length : Int) + 1 := by rw [List.length_append, List.length_append, List.length_singleton]; omega
          refine hself x (Or.inl ⟨l ++ (l2 ++ [10007]), p2, M31, f'', i' + 1, ⟨okc_op t1 o2 rfl, ?_, by omega, by omega, h31', hx', by omega, by omega⟩, fun P hP => ?_⟩) ?_
          · intro v hv
            rw [List.mem_append, List.mem_append, List.mem_singleton] at hv
            rcases hv with hv | hv | hv
            · exact t2 v hv
            · exact o3 v hv
            · omega
          · refine hJ P (JJ_and ham hw ⟨M24, h24, ?_⟩)
            show jT (jlp4 (FcT (e + 7)) (f'' + 1) 1 w (i' + 1) M24) P
            rw [lp4_u]
            refine o8 _ 1 w (i' + 1) P (by omega) (by omega) (t_k (t_neg (by decide) ?_))
            exact t_Ve h31 hP
          · rw [mu_s hx'.1, mu_s t6.1]
            omega
        · refine t_Ve (l_code (fl_okF o2)) ?_
          refine hself z2 (Or.inr ⟨Mx, ?_, o2⟩) ?_
          · exact t_get (hJ _ (JJ_and ham hw ⟨M24, h24, ⟨_, o1 _ 1 w (i' + 1) (by omega) (by omega), rfl⟩⟩))
          · rw [mu_f o2, mu_s t6.1]
            omega
      · rw [y2]
        refine t_pos (by decide) (t_some ?_)
        exact Or.inl ⟨l, p', Mc', f', i', ⟨t1, t2, t3, t4, t5, rR_6 t6 y3 y6, t7, t8⟩, y1, hJ⟩
    · refine t_W (t_mono (l_takesWord hfl.2.2.2.2 (fl_okF hfl)) (fun y hy => ?_))
      rw [hy.1]
      refine t_pos (by decide) (t_some ?_)
      exact Or.inr ⟨Mc', hJ, fl_fX hfl hy.2⟩
  · rw [jfuel_eq]
    rcases hz with ⟨l2, p2, M22, o2, o3, o4, o5, o6, o7, o8⟩ | ⟨Mx, o1, o2⟩
    · rw [mu_s o7.1]
      have := o6.1.1.2.1
      omega
    · rw [mu_f o2]
      omega
  · rcases hz with ⟨l, p', M22, o2, o3, o4, o5, o6, o7, o8⟩ | ⟨Mx, o1, o2⟩
    · have hp' : 0 ≤ p' ∧ p' ≤ n := o6.1.1.2.1
      exact Or.inl ⟨l, p', M22, f, i, ⟨okc_up (by decide) o2, o3, o4, o5, o6, o7, by omega, by omega⟩, fun P hP => o8 _ 0 w i P (by omega) (by omega) (t_k (t_pos (by decide) hP))⟩
    · exact Or.inr ⟨Mx, o1 _ 0 w i (by omega) (by omega), o2⟩
theorem te_pair {e n r c0 u0 : Int} {tx : Int → Int} {A B M0 R0 : jM} (hq : rq e tx n A B R0 r c0 u0) : PS e tx n A B M0 R0 r c0 u0 14 false f_X4_test f_X10_test 0 := by
  have hq' := hq
  obtain ⟨hR, hr6, hr3, hu⟩ := hq
  obtain ⟨he, hO, hB, -, -⟩ := hR
  have n6 := hO.2.1
  intro L p Mc Mr hc hr hcap
  have hpp : 0 ≤ p ∧ p ≤ n := hc.1.1.2.1
  have hfc : f_X4_test Mc = jlp4 (FcT (e + 7)) jfuel 0 0 0 Mc := by
    have : f_X4_test Mc = jck (jkd (Mc 109 1) = 1) (jlp4 (FcT (Mc 109 1 + 7)) jfuel 0 0 0 Mc) := rfl
    rw [this, hc.1.2.1]
    exact if_pos (kd_e he)
  rw [hfc]
  refine t_swap ?_
  obtain ⟨z, hzz, hz⟩ := pa_pair (M0 := M0) hq' L p 0 0 jfuel Mc Mr hc hr hcap (by omega) (by rw [jfuel_eq]; decide) (Or.inl rfl)
  unfold f_X10_test
  refine t_Ve hzz ?_
  refine t_lp1 (fun M3 => (∃ l p' Mc' f' i', tsI e tx n A B M0 R0 r c0 u0 14 L p p' M3 l Mc' f' i' ∧ wd tx n p' ≠ sw 49 ∧ ∀ P, jT (KKt (jlp4 (FcT (e + 7)) f') (if wd tx n p' = sw 50 then 1 else -1) i' Mc') P → jT (jlp4 (FcT (e + 7)) jfuel 0 0 0 Mc) P) ∨ (∃ Mc', jlp4 (FcT (e + 7)) jfuel 0 0 0 Mc = some (0, Mc') ∧ fl e n A B Mc' M3)) (muR tx n) ?_ jfuel z ?_ ?_
  · intro self M3 hI hself
    rcases hI with ⟨l, p', Mc', f', i', ⟨t1, t2, t3, t4, t5, t6, t7, t8⟩, t9, hJ⟩ | ⟨Mc', hJ, hfl⟩
    · have hpp' : 0 ≤ p' ∧ p' ≤ n := t5.1.1.2.1
      refine t_W (t_mono (rS_tw (k := 50) hO hB t6.1 (by decide)) (fun y hy => ?_))
      obtain ⟨hy, y6⟩ := hy
      rcases hy with ⟨y1, y2, y3⟩ | ⟨y1, y2, y3, -⟩
      · rw [y2]
        refine t_neg (by decide) ?_
        rw [if_pos y1] at hJ
        have hlt := wd_lt (tx := tx) (k := 50) hpp'.2 (by decide) y1
        have hrn := (rn_b (c := isLt) (tx := tx) hpp'.2).2.1
        have hb : p' < nx tx n p' := (nx_b (tx := tx) (n := n) (p := p') hpp').2.2.2 (by omega)
        have hr1 := rR_6 t6 y3 y6
        obtain ⟨M24, h24, h24'⟩ := cR_adv he t5
        have hl1 : ((L ++ l).length : Int) = (L.length : Int) + (l.length : Int) := by rw [List.length_append]; omega
        obtain ⟨z2, hz2, ho⟩ := pa_pair (M0 := M0) hq' (L ++ l) (nx tx n p') (i' + 1) 1 f' M24 y.2 h24' hr1 (by omega) (by omega) (by omega) (Or.inr rfl)
        have hK : ∀ P, jT (jlp4 (FcT (e + 7)) f' 0 1 (i' + 1) M24) P → jT (jlp4 (FcT (e + 7)) jfuel 0 0 0 Mc) P := fun P hP => by
          refine hJ P ?_
          unfold KKt
          refine t_neg (by decide) ?_
          exact t_Ve h24 (t_let hP)
        refine t_Ve hz2 ?_
        rcases ho with ⟨l2, p2, M22, f2, i2, ⟨s1, s2, s3, s4, s5, s6, s7, s8⟩, s9, hJ2⟩ | ⟨Mx, hJ2, o2⟩
        · have hp2 : 0 ≤ p2 ∧ p2 ≤ n := s5.1.1.2.1
          have hl2 : (((L ++ l) ++ l2).length : Int) = (L.length : Int) + (l.length : Int) + (l2.length : Int) := by rw [List.length_append, List.length_append]; omega
          obtain ⟨M31, h31, h31'⟩ := cR_add (v := 10008) he s5 (by omega)
          obtain ⟨x, hx, hx'⟩ := rR_code (v := 10008) s6 hr6 hr3 (by omega)
          refine t_Ve hx ?_
          rw [List.append_assoc, List.append_assoc] at h31' hx'
          have hl3 : ((l ++ (l2 ++ [10008])).length : Int) = (l.length : Int) + (l2.length : Int) + 1 := by rw [List.length_append, List.length_append, List.length_singleton]; omega
          refine hself x (Or.inl ⟨l ++ (l2 ++ [10008]), p2, M31, f2, i2, ⟨okc_op t1 s1 rfl, ?_, by omega, by omega, h31', hx', s7, s8⟩, s9, fun P hP => ?_⟩) ?_
          · intro v hv
            rw [List.mem_append, List.mem_append, List.mem_singleton] at hv
            rcases hv with hv | hv | hv
            · exact t2 v hv
            · exact s2 v hv
            · omega
          · refine hK P (hJ2 P (JJ_B1 (am4 s5.1) ?_ ⟨M31, h31, ?_⟩))
            · rw [if_neg s9]
              split <;> decide
            · rw [if_neg s9]
              exact hP
          · rw [mu_s hx'.1, mu_s t6.1]
            omega
        · refine t_Ve (l_code (fl_okF o2)) ?_
          refine hself z2 (Or.inr ⟨Mx, ?_, o2⟩) ?_
          · exact t_get (hK _ ⟨_, hJ2, rfl⟩)
          · rw [mu_f o2, mu_s t6.1]
            omega
      · rw [y2]
        refine t_pos (by decide) (t_some ?_)
        rw [if_neg y1] at hJ
        refine hJ _ ?_
        unfold KKt
        refine t_pos rfl (t_some ?_)
        exact Or.inl ⟨rfl, l, p', t1, t2, t3, t4, t5, rR_6 t6 y3 y6⟩
    · refine t_W (t_mono (l_takesWord hfl.2.2.2.2 (fl_okF hfl)) (fun y hy => ?_))
      rw [hy.1]
      refine t_pos (by decide) (t_some ?_)
      exact ⟨(0, Mc'), hJ, Or.inr ⟨rfl, fl_fX hfl hy.2⟩⟩
  · rw [jfuel_eq]
    rcases hz with ⟨l, p', Mc', f', i', ht, -⟩ | ⟨Mc', -, hfl⟩
    · rw [mu_s ht.2.2.2.2.2.1.1]
      have := ht.2.2.2.2.1.1.1.2.1
      omega
    · rw [mu_f hfl]
      omega
  · rcases hz with ⟨l, p', Mc', f', i', ht, h49, hJ⟩ | ⟨Mc', hJ, hfl⟩
    · obtain ⟨t1, t2, t3, t4, t5, t6, t7, t8⟩ := ht
      refine Or.inl ⟨l, p', Mc', f', i', ⟨okc_up (by decide) t1, t2, t3, t4, t5, t6, t7, t8⟩, h49, fun P hP => hJ P (JJ_B0 (am4 t5.1) ?_ ?_)⟩
      · rw [if_neg h49]
        split <;> decide
      · rw [if_neg h49]
        exact hP
    · exact Or.inr ⟨Mc', hJ, hfl⟩
