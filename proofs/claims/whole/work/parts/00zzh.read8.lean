/-! ===== reading: the reference when it has failed ===== -/
def okF (M : jM) : Prop := 0 ≤ M 166 7 ∧ M 166 7 ≤ 600
def fX (n : Int) (M M' : jM) : Prop := fr6 M M' ∧ rPt n M'
theorem okF_fr {M M' : jM} (h : okF M) (hf : fr6 M M') : okF M' := by
  unfold okF
  rw [hf.2 7 (by decide) (by decide)]
  exact h
theorem fX_t {n : Int} {M M1 M2 : jM} (h1 : fX n M M1) (h2 : fX n M1 M2) : fX n M M2 := ⟨fr6_t h1.1 h2.1, h2.2⟩
theorem fX_r {n : Int} {M : jM} (h : rPt n M) : fX n M M := ⟨fr6_r M, h⟩
theorem l_failed {M : jM} (h : okF M) : f_X10_hasFailed M = some 1 := by
  rw [e_failed (by unfold okF at h; omega), if_neg (by unfold okF at h; omega)]
theorem l_fails {M : jM} (h : okF M) : f_X10_fails M = some M := e_fails1 h
theorem l_blanks {tx : Int → Int} {n : Int} {M : jM} (hO : okT tx n) (hx : rTx tx n M) (hp : rPt n M) : jT (f_X10_blanks M) (fX n M) := by
  refine t_mono (e_blanks hO hx rfl hp) (fun M' h => ⟨h.2.2, ?_⟩)
  have hb := rn_b (c := isBl) (tx := tx) hp.2
  have h0 := hp.1
  unfold rPt
  rw [h.1]
  unfold bl
  omega
theorem l_isSign {tx : Int → Int} {n c : Int} {M : jM} (hO : okT tx n) (hx : rTx tx n M) (hp : rPt n M) (hF : okF M) : jT (f_X10_isSign c M) (fun q => q.1 = 0 ∧ fX n M q.2) := by
  unfold f_X10_isSign
  refine t_V (t_mono (l_blanks hO hx hp) (fun M2 h2 => ?_))
  refine t_Re (l_failed (okF_fr hF h2.1)) ?_
  exact t_neg (by decide) (t_some ⟨rfl, h2⟩)
theorem l_takes {tx : Int → Int} {n c : Int} {M : jM} (hO : okT tx n) (hx : rTx tx n M) (hp : rPt n M) (hF : okF M) : jT (f_X10_takes c M) (fun q => q.1 = 0 ∧ fX n M q.2) := by
  unfold f_X10_takes
  refine t_W (t_mono (l_isSign hO hx hp hF) (fun q hq => ?_))
  rw [hq.1]
  refine t_pos (by decide) ?_
  exact t_ck (by decide) (t_some ⟨rfl, hq.2⟩)
theorem l_asks {tx : Int → Int} {n c : Int} {M : jM} (hO : okT tx n) (hx : rTx tx n M) (hp : rPt n M) (hF : okF M) : jT (f_X10_asksSign c M) (fX n M) := by
  unfold f_X10_asksSign
  refine t_W (t_mono (l_takes hO hx hp hF) (fun q hq => ?_))
  rw [hq.1]
  refine t_pos (by decide) ?_
  refine t_Ve (l_fails (okF_fr hF hq.2.1)) ?_
  exact t_some hq.2
theorem l_isWord {n k : Int} {M : jM} (hp : rPt n M) (hF : okF M) : jT (f_X10_isWord k M) (fun q => q.1 = 0 ∧ fX n M q.2) := by
  unfold f_X10_isWord
  refine t_Re (l_failed hF) ?_
  refine t_kP (fun kk => jT (kk 0 M) (fun q => q.1 = 0 ∧ fX n M q.2)) ?_ ?_
  · refine t_lp2 (fun b i => b = 0) (fun _ _ => 0) ?_ jfuel 0 0 (by rw [jfuel_eq]; omega) rfl
    rintro self b i rfl hself
    refine t_pos (by decide) ?_
    exact t_ck (by decide) (t_some ⟨rfl, fX_r hp⟩)
  · intro k5 h5
    refine t_k ?_
    exact t_neg (by decide) h5
theorem l_takesWord {n k : Int} {M : jM} (hp : rPt n M) (hF : okF M) : jT (f_X10_takesWord k M) (fun q => q.1 = 0 ∧ fX n M q.2) := by
  unfold f_X10_takesWord
  refine t_W (t_mono (l_isWord hp hF) (fun q hq => ?_))
  rw [hq.1]
  refine t_pos (by decide) ?_
  exact t_ck (by decide) (t_some ⟨rfl, hq.2⟩)
theorem l_begins {n k f : Int} {M : jM} (hp : rPt n M) (hF : okF M) : jT (f_X10_begins k f M) (fun q => q.1 = 0 ∧ fX n M q.2) := by
  unfold f_X10_begins
  refine t_W (t_mono (l_isWord hp hF) (fun q hq => ?_))
  rw [hq.1]
  exact t_pos (by decide) (t_some ⟨rfl, hq.2⟩)
theorem l_number {lo hi : Int} {M : jM} (hF : okF M) : f_X10_number lo hi M = some (lo, M) := by
  unfold f_X10_number
  rw [l_failed hF, eR, if_neg (by decide)]
theorem l_letters {a b : Int} {M : jM} (hF : okF M) : f_X10_letters a b M = some M := by
  unfold f_X10_letters
  rw [l_failed hF, eR, if_neg (by decide)]
theorem l_fresh {a b : Int} {M : jM} (hF : okF M) : f_X10_freshName a b M = some M := by
  unfold f_X10_freshName
  rw [l_failed hF, eR, if_neg (by decide)]
theorem l_code {a : Int} {M : jM} (hF : okF M) : f_X10_code a M = some M := by
  unfold f_X10_code
  rw [l_failed hF, eR, if_neg (by decide)]
theorem l_eTold {a : Int} {M : jM} (hF : okF M) : f_X10_elementTold a M = some (0, M) := by
  unfold f_X10_elementTold
  rw [l_failed hF, eR, if_neg (by decide)]
theorem l_wTold {n : Int} {M : jM} (hp : rPt n M) (hF : okF M) : jT (f_X10_wordTold M) (fun q => q.1 = -1 ∧ fX n M q.2) := by
  have step : ∀ {k : Int} {X : jM} {f g : jM → Option (Int × jM)}, fX n M X → (∀ Y, fX n M Y → jT (f Y) (fun q => q.1 = -1 ∧ fX n M q.2)) → jT (jbW (f_X10_isWord k X) fun v Y => if jw v = 0 then f Y else g Y) (fun q => q.1 = -1 ∧ fX n M q.2) := fun hX hf => by
    refine t_W (t_mono (l_isWord hX.2 (okF_fr hF hX.1)) (fun q hq => ?_))
    rw [hq.1]
    exact t_pos (by decide) (hf q.2 (fX_t hX hq.2))
  unfold f_X10_wordTold
  exact step (fX_r hp) (fun _ h => step h (fun _ h => step h (fun _ h => step h (fun _ h => step h (fun _ h => step h (fun _ h => step h (fun _ h => step h (fun _ h => step h (fun _ h => step h (fun _ h => t_some ⟨rfl, h⟩))))))))))
theorem l_atom {tx : Int → Int} {n : Int} {M : jM} {self : Nat → jM → Option jM} (hO : okT tx n) (hx : rTx tx n M) (hp : rPt n M) (hF : okF M) : jT (g_X10_atom self M) (fX n M) := by
  unfold g_X10_atom
  refine t_W (t_mono (l_isSign hO hx hp hF) (fun q hq => ?_))
  rw [hq.1]
  refine t_pos (by decide) ?_
  refine t_W (t_mono (l_wTold hq.2.2 (okF_fr hF hq.2.1)) (fun r hr => ?_))
  have hf := fX_t hq.2 hr.2
  rw [hr.1]
  refine t_pos (by decide) ?_
  refine t_We (l_number (okF_fr hF hf.1)) ?_
  refine t_Ve (l_code (okF_fr hF hf.1)) ?_
  exact t_some hf
theorem l_smm {M : jM} {self : Nat → jM → Option jM} (hF : okF M) : g_X10_sum self M = some M := by
  unfold g_X10_sum
  rw [l_failed hF, eR, if_neg (by decide)]
theorem l_term {tx : Int → Int} {n : Int} {M : jM} {self : Nat → jM → Option jM} (hO : okT tx n) (hx : rTx tx n M) (hp : rPt n M) (hF : okF M) (hs : ∀ X, fX n M X → jT (self 0 X) (fX n X)) : jT (g_X10_term self M) (fX n M) := by
  unfold g_X10_term
  refine t_V (t_mono (hs M (fX_r hp)) (fun M2 h2 => ?_))
  refine t_lp1 (fun X => X = M2) (fun _ => 0) ?_ jfuel M2 (by rw [jfuel_eq]; omega) rfl
  rintro self2 X rfl hself
  refine t_W (t_mono (l_takes hO (rTx_fr hx h2.1) h2.2 (okF_fr hF h2.1)) (fun q hq => ?_))
  rw [hq.1]
  exact t_pos (by decide) (t_some (fX_t h2 hq.2))
theorem l_g {tx : Int → Int} {n : Int} {M : jM} (hO : okT tx n) (hx : rTx tx n M) (hp : rPt n M) (hF : okF M) : ∀ f : Nat, jT (f_X10_g (f + 2) 0 M) (fX n M) ∧ jT (f_X10_g (f + 2) 1 M) (fX n M) ∧ jT (f_X10_g (f + 2) 2 M) (fX n M) := by
  intro f
  refine ⟨?_, ?_, ?_⟩
  · exact l_atom (self := f_X10_g (f + 1)) hO hx hp hF
  · refine l_term (self := f_X10_g (f + 1)) hO hx hp hF (fun X hX => ?_)
    exact l_atom (self := f_X10_g f) hO (rTx_fr hx hX.1) hX.2 (okF_fr hF hX.1)
  · exact ⟨M, l_smm (self := f_X10_g (f + 1)) hF, fX_r hp⟩
theorem l_sum24 {M : jM} (hF : okF M) : f_X10_sum M = some M := l_smm (self := f_X10_g 23) hF
theorem l_fact {tx : Int → Int} {n : Int} {M : jM} (hO : okT tx n) (hx : rTx tx n M) (hp : rPt n M) (hF : okF M) : jT (f_X10_fact M) (fX n M) := by
  unfold f_X10_fact
  refine t_Ve (l_sum24 hF) ?_
  refine t_V (t_mono (l_blanks hO hx hp) (fun M4 h4 => ?_))
  have hF4 := okF_fr hF h4.1
  have hx4 := rTx_fr hx h4.1
  have hp4 := h4.2
  have n6 := hO.2.1
  unfold rPt at hp4
  refine t_kP (fun kk => ∀ s, jT (kk s) (fX n M)) ?_ ?_
  · intro s
    refine t_Re (l_failed hF4) ?_
    refine t_k ?_
    refine t_neg (by decide) ?_
    refine t_Ve (l_fails hF4) ?_
    exact t_some h4
  · intro k6 h6
    rw [hx4.1, pw_of (z := n) (by omega) (by omega), pw_of (z := M4 166 4) (by omega) (by omega)]
    refine t_if (fun _ => h6 _) (fun c => ?_)
    exact t_ck (by omega) (h6 _)
theorem l_part {tx : Int → Int} {n : Int} {M : jM} (hO : okT tx n) (hx : rTx tx n M) (hp : rPt n M) (hF : okF M) : jT (f_X10_part M) (fX n M) := by
  unfold f_X10_part
  refine t_V (t_mono (l_fact hO hx hp hF) (fun M2 h2 => ?_))
  refine t_lp1 (fun X => X = M2) (fun _ => 0) ?_ jfuel M2 (by rw [jfuel_eq]; omega) rfl
  rintro self2 X rfl hself
  refine t_W (t_mono (l_takesWord h2.2 (okF_fr hF h2.1)) (fun q hq => ?_))
  rw [hq.1]
  exact t_pos (by decide) (t_some (fX_t h2 hq.2))
theorem l_test {tx : Int → Int} {n : Int} {M : jM} (hO : okT tx n) (hx : rTx tx n M) (hp : rPt n M) (hF : okF M) : jT (f_X10_test M) (fX n M) := by
  unfold f_X10_test
  refine t_V (t_mono (l_part hO hx hp hF) (fun M2 h2 => ?_))
  refine t_lp1 (fun X => X = M2) (fun _ => 0) ?_ jfuel M2 (by rw [jfuel_eq]; omega) rfl
  rintro self2 X rfl hself
  refine t_W (t_mono (l_takesWord h2.2 (okF_fr hF h2.1)) (fun q hq => ?_))
  rw [hq.1]
  exact t_pos (by decide) (t_some (fX_t h2 hq.2))
