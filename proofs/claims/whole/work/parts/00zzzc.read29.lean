/-! ===== reading: sums, both sides ===== -/
/-- codes L are told, from u0 on; M0: as it was ahead of the rule -/
def cR (e : Int) (tx : Int → Int) (n : Int) (A M0 : jM) (u0 : Int) (L : List Int) (p : Int) (M : jM) : Prop := cS e tx n A p M ∧ M (e + 7) 1 = u0 + (L.length : Int) ∧ (∀ i : Nat, i < L.length → M (e + 8) (u0 + (i : Int)) = ctr (L.getD i 0)) ∧ (∀ j, j < u0 → M (e + 8) j = M0 (e + 8) j) ∧ (∀ a, a ≠ 109 → a ≠ e + 7 → a ≠ e + 8 → M a = M0 a) ∧ (∀ j, j ≠ 1 → M (e + 7) j = M0 (e + 7) j) ∧ M 109 8 = M0 109 8
def rR (tx : Int → Int) (n : Int) (B R0 : jM) (r c0 : Int) (L : List Int) (d p : Int) (M : jM) : Prop := rS tx n B p M ∧ M 166 13 = d ∧ M 166 14 = R0 166 14 ∧ M 171 (482 + r + 1) = c0 + (L.length : Int) ∧ (∀ i : Nat, i < L.length → M 171 (489 + c0 + (i : Int)) = L.getD i 0) ∧ (∀ j, j ≠ 482 + r + 1 → j < 489 + c0 → M 171 j = R0 171 j) ∧ (∀ a, a ≠ 166 → a ≠ 171 → M a = R0 a)
def rq (e : Int) (tx : Int → Int) (n : Int) (A B R0 : jM) (r c0 u0 : Int) : Prop := rc e tx n A B ∧ (0 ≤ r ∧ r < 6) ∧ R0 171 3 = r ∧ (0 ≤ u0 ∧ u0 ≤ c0)
theorem getD_snoc {L : List Int} {v : Int} {i : Nat} (h : i < (L ++ [v]).length) : (L ++ [v]).getD i 0 = if i = L.length then v else L.getD i 0 := by
  rw [List.length_append, List.length_singleton] at h
  by_cases c : i = L.length
  · rw [if_pos c, c, List.getD_eq_getElem?_getD, List.getElem?_append_right (Nat.le_refl _), Nat.sub_self]
    rfl
  · rw [if_neg c, List.getD_eq_getElem?_getD, List.getD_eq_getElem?_getD, List.getElem?_append_left (by omega)]
theorem cR_add {e n u0 p v : Int} {tx : Int → Int} {A M0 M : jM} {L : List Int} (he : e = 3 ∨ e = 56) (h : cR e tx n A M0 u0 L p M) (hu : 0 ≤ u0 ∧ u0 + (L.length : Int) < 600) : jT (f_X5_add (e + 7) (ctr v) M) (cR e tx n A M0 u0 (L ++ [v]) p) := by
  obtain ⟨h1, h2, h3, h4, h5, h6, h7⟩ := h
  have hx := c_xadd (t := e + 7) (v := ctr v) (c := u0 + (L.length : Int)) (M := M) (by rw [ln_x he]) h2 (by omega)
  have n1 : e + 7 ≠ e + 8 ∧ e + 8 ≠ e + 7 ∧ (109 : Int) ≠ e + 7 ∧ (109 : Int) ≠ e + 8 := by omega
  rw [show e + 7 + 1 = e + 8 from by omega] at hx
  refine ⟨_, hx, ?_, ?_, fun i hi => ?_, fun j b => ?_, fun a b0 b1 b2 => ?_, fun j b => ?_, ?_⟩
  · exact cS_st (cS_st h1 he (frC_s (by omega) (Or.inl (by omega))) (fun j _ _ => pst_c n1.2.2.2)) he (frC_s (by omega) (Or.inl (by omega))) (fun j _ _ => pst_c n1.2.2.1)
  · rw [pst_s, List.length_append, List.length_singleton]
    omega
  · rw [pst_c n1.2.1, getD_snoc hi]
    rw [List.length_append, List.length_singleton] at hi
    by_cases c : i = L.length
    · rw [if_pos c, c, pst_s]
    · rw [if_neg c, pst_i (by omega)]
      exact h3 i (by omega)
  · rw [pst_c n1.2.1, pst_i (by omega)]
    exact h4 j b
  · rw [pst_f b1, pst_f b2]
    exact h5 a b0 b1 b2
  · rw [pst_i b, pst_c n1.1]
    exact h6 j b
  · rw [pst_c n1.2.2.1, pst_c n1.2.2.2]
    exact h7
theorem rR_code {tx : Int → Int} {n r c0 d p v : Int} {B R0 M : jM} {L : List Int} (h : rR tx n B R0 r c0 L d p M) (hr : 0 ≤ r ∧ r < 6) (h3 : R0 171 3 = r) (hc : 0 ≤ c0 ∧ c0 + (L.length : Int) < 600) : jT (f_X10_code v M) (rR tx n B R0 r c0 (L ++ [v]) d p) := by
  obtain ⟨a1, a2, a3, a4, a5, a6, a7⟩ := h
  have hx := e_code (v := v) (r := r) (c := c0 + (L.length : Int)) a1.2.1 (by rw [a6 3 (by omega) (by omega)]; exact h3) hr a4 (by omega)
  refine ⟨_, hx, ?_, ?_, ?_, ?_, fun i hi => ?_, fun j b0 b1 => ?_, fun a b0 b1 => ?_⟩
  · exact rS_1 (rS_1 a1)
  · rw [pst_c (by decide), pst_c (by decide)]
    exact a2
  · rw [pst_c (by decide), pst_c (by decide)]
    exact a3
  · rw [pst_s, List.length_append, List.length_singleton]
    omega
  · rw [getD_snoc hi]
    rw [List.length_append, List.length_singleton] at hi
    rw [pst_i (by omega)]
    by_cases c : i = L.length
    · rw [if_pos c, c, show 489 + c0 + (L.length : Int) = 489 + (c0 + (L.length : Int)) from by omega, pst_s]
    · rw [if_neg c, pst_i (by omega)]
      exact a5 i (by omega)
  · rw [pst_i b0, pst_i (by omega)]
    exact a6 j b0 b1
  · rw [pst_f b1, pst_f b1]
    exact a7 a b0 b1
theorem cR_adv {e n u0 p : Int} {tx : Int → Int} {A M0 M : jM} {L : List Int} (he : e = 3 ∨ e = 56) (h : cR e tx n A M0 u0 L p M) : jT (f_X4_advance M) (cR e tx n A M0 u0 L (nx tx n p)) := by
  obtain ⟨h1, h2, h3, h4, h5, h6, h7⟩ := h
  refine t_mono (cS_adv h1 he) (fun M' hM => ?_)
  have e7 : M' (e + 7) = M (e + 7) := hM.2.1 _ (by omega)
  have e8 : M' (e + 8) = M (e + 8) := hM.2.1 _ (by omega)
  refine ⟨hM.1, by rw [e7]; exact h2, by rw [e8]; exact h3, by rw [e8]; exact h4, fun a b0 b1 b2 => by rw [hM.2.1 a b0]; exact h5 a b0 b1 b2, by rw [e7]; exact h6, by rw [hM.2.2 8 (by decide) (by decide) (by decide)]; exact h7⟩
/-- the same codes after steps of the reference that tell none -/
theorem rR_6 {tx : Int → Int} {n r c0 d p p' : Int} {B R0 M M' : jM} {L : List Int} (h : rR tx n B R0 r c0 L d p M) (hs : rS tx n B p' M') (hf : fr6 M M') : rR tx n B R0 r c0 L d p' M' := by
  obtain ⟨a1, a2, a3, a4, a5, a6, a7⟩ := h
  have e1 : M' 171 = M 171 := hf.1 171 (by decide)
  exact ⟨hs, by rw [hf.2 13 (by decide) (by decide)]; exact a2, by rw [hf.2 14 (by decide) (by decide)]; exact a3, by rw [e1]; exact a4, by rw [e1]; exact a5, by rw [e1]; exact a6, fun a b0 b1 => by rw [hf.1 a b0]; exact a7 a b0 b1⟩
/-- what a part of a rule comes to -/
def sumO (e : Int) (tx : Int → Int) (n : Int) (A B M0 R0 : jM) (r c0 u0 : Int) (h : Nat) (t : Bool) (L : List Int) (d p v : Int) (Mc Mr : jM) : Prop := v = 1 ∧ (∃ l p', okc h l [] [t] ∧ (∀ x ∈ l, x ≠ 10009) ∧ p + (l.length : Int) ≤ p' ∧ p < p' ∧ cR e tx n A M0 u0 (L ++ l) p' Mc ∧ rR tx n B R0 r c0 (L ++ l) d p' Mr) ∨ v = 0 ∧ fl e n A B Mc Mr
/-- a part of the component against one of the reference -/
def PS (e : Int) (tx : Int → Int) (n : Int) (A B M0 R0 : jM) (r c0 u0 : Int) (h : Nat) (t : Bool) (C : jM → Option (Int × jM)) (D : jM → Option jM) (d : Int) : Prop := ∀ (L : List Int) (p : Int) (Mc Mr : jM), cR e tx n A M0 u0 L p Mc → rR tx n B R0 r c0 L d p Mr → c0 + (L.length : Int) ≤ p → jT (C Mc) (fun qc => jT (D Mr) (fun Mr' => sumO e tx n A B M0 R0 r c0 u0 h t L d p qc.1 qc.2 Mr'))
theorem okc_1 {h : Nat} {v : Int} (hv : (0 ≤ v ∧ v ≤ 9999) ∨ (10020 ≤ v ∧ v ≤ 10029)) (hh : 1 ≤ h) : okc h [v] [] [true] := by
  refine ⟨[true], ?_, hh, rfl⟩
  unfold tstep
  rw [if_pos hv]
theorem fl_c {e n p : Int} {tx : Int → Int} {A B Mc Mr : jM} (hn : n ≤ 600) (hp : 0 ≤ p ∧ p ≤ n) (h7 : Mc 109 7 = p) (hc : frC e A Mc) (r7 : Mr 166 7 = p) (hr : frR B Mr) (hpt : rPt n Mr) : fl e n A B Mc Mr := ⟨by rw [h7]; omega, by rw [h7]; exact r7, hc, hr, hpt⟩
/-- signs on both sides -/
theorem rS_asks {tx : Int → Int} {n p c : Int} {B M : jM} (hO : okT tx n) (hB : rTx tx n B) (h : rS tx n B p M) (hc : 33 ≤ c ∧ c ≤ 64 ∧ (c < 48 ∨ 57 < c)) : jT (f_X10_asksSign c M) (fun X => ((p < n ∧ tx p = c) ∧ rS tx n B (nx tx n p) X ∨ ¬ (p < n ∧ tx p = c) ∧ X 166 7 = p ∧ frR B X ∧ rPt n X) ∧ (∀ a, a ≠ 166 → X a = M a) ∧ X 166 13 = M 166 13 ∧ X 166 14 = M 166 14) := by
  refine t_mono (e_asks hO (rTx_R hB h.2.2) h.1 h.2.1 (by omega)) (fun X hX => ?_)
  obtain ⟨h1, h2, h3, h4⟩ := hX
  have hf : frR B X := frR_t h.2.2 ⟨fun a q _ _ => h3 a q, fun j q0 q1 q2 _ _ => h4 j q0 q1 q2⟩
  refine ⟨?_, h3, h4 13 (by decide) (by decide) (by decide), h4 14 (by decide) (by decide) (by decide)⟩
  rcases h1 with hy | hy
  · refine Or.inl ⟨hy.1, ⟨?_, hy.2.1, hf⟩⟩
    unfold nx
    rw [(tk_sg hc).2 hy.1]
    exact hy.2.2
  · exact Or.inr ⟨hy.1, hy.2, hf, h2⟩
theorem cS_sign {e n p c : Int} {tx : Int → Int} {A M : jM} (h : cS e tx n A p M) (he : e = 3 ∨ e = 56) (hc : 33 ≤ c ∧ c ≤ 64 ∧ (c < 48 ∨ 57 < c)) : jT (f_X4_sign c M) (fun q => (p < n ∧ tx p = c) ∧ q.1 = 1 ∧ cS e tx n A (nx tx n p) q.2 ∧ fr9 M q.2 ∨ ¬ (p < n ∧ tx p = c) ∧ q.1 = 0 ∧ q.2 109 7 = p ∧ frC e A q.2) := by
  refine t_mono (c_sign h.1 hc) (fun q hq => ?_)
  rcases hq with hy | hy
  · refine Or.inl ⟨hy.1, hy.2.1, ?_, hy.2.2.2⟩
    have hb := h.1.2.1
    have hn := nx_b (tx := tx) (n := n) (p := p) hb
    have e1 : nx tx n p = bl tx n (p + 1) := by unfold nx; rw [(tk_sg hc).2 hy.1]
    refine cS_mv h he (frC_9 he hy.2.2.2.1) (hy.2.2.2.2 1 (by decide) (by decide) (by decide)) (hy.2.2.2.2 2 (by decide) (by decide) (by decide)) (hy.2.2.2.2 7 (by decide) (by decide) (by decide)) ⟨hn.1, hn.2.1⟩ ?_
    rw [e1]
    exact hy.2.2.1
  · rw [hy.2]
    exact Or.inr ⟨hy.1, rfl, (pst_s M 109 7 p), frC_t h.2.2.2 (frC_9 he (fun a q => pst_f q))⟩
