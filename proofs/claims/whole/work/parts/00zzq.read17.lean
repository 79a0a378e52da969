/-! ===== reading: both sides, line by line ===== -/
theorem t_swap {R S : Type} {o : Option R} {u : Option S} {Q : R → S → Prop} (h : jT u (fun b => jT o (fun a => Q a b))) : jT o (fun a => jT u (fun b => Q a b)) := by
  obtain ⟨b, hb, a, ha, hq⟩ := h
  exact ⟨a, ha, b, hb, hq⟩
/-- what reading changes -/
def frC (e : Int) (A M : jM) : Prop := (∀ a, a ≠ 109 → (a < e ∨ e + 52 < a) → M a = A a) ∧ M (e + 2) 0 = A (e + 2) 0 ∧ M (e + 13) 0 = A (e + 13) 0
def frR (B M : jM) : Prop := (∀ a, a ≠ 166 → a ≠ 171 → a ≠ 172 → M a = B a) ∧ ∀ j, j ≠ 4 → j ≠ 5 → j ≠ 7 → j ≠ 13 → j ≠ 14 → M 166 j = B 166 j
theorem frC_t {e : Int} {A M M' : jM} (h1 : frC e A M) (h2 : frC e M M') : frC e A M' := ⟨fun a q0 q1 => by rw [h2.1 a q0 q1, h1.1 a q0 q1], by rw [h2.2.1, h1.2.1], by rw [h2.2.2, h1.2.2]⟩
theorem frR_t {A M M' : jM} (h1 : frR A M) (h2 : frR M M') : frR A M' := ⟨fun a q0 q1 q2 => by rw [h2.1 a q0 q1 q2, h1.1 a q0 q1 q2], fun j q0 q1 q2 q3 q4 => by rw [h2.2 j q0 q1 q2 q3 q4, h1.2 j q0 q1 q2 q3 q4]⟩
theorem frR_r (M : jM) : frR M M := ⟨fun _ _ _ _ => rfl, fun _ _ _ _ _ _ => rfl⟩
theorem frC_r (e : Int) (M : jM) : frC e M M := ⟨fun _ _ _ => rfl, rfl, rfl⟩
theorem frC_9 {e : Int} {M M' : jM} (he : e = 3 ∨ e = 56) (h : ∀ a, a ≠ 109 → M' a = M a) : frC e M M' := ⟨fun a q _ => h a q, by rw [h (e + 2) (by omega)], by rw [h (e + 13) (by omega)]⟩
theorem frC_s {e : Int} {M : jM} {a i v : Int} (ha : e ≤ a ∧ a ≤ e + 52) (h : (a ≠ e + 2 ∧ a ≠ e + 13) ∨ i ≠ 0) : frC e M (jst M a i v) := by
  refine ⟨fun c q0 q1 => pst_f (by omega), ?_, ?_⟩
  · rcases h with h | h
    · exact pst_c (by omega)
    · exact pst_i (by omega)
  · rcases h with h | h
    · exact pst_c (by omega)
    · exact pst_i (by omega)
theorem frR_1 (M : jM) (i v : Int) : frR M (jst M 171 i v) := ⟨fun a _ q _ => pst_f q, fun j _ _ _ _ _ => pst_c (by decide)⟩
theorem frR_2 (M : jM) (i v : Int) : frR M (jst M 172 i v) := ⟨fun a _ _ q => pst_f q, fun j _ _ _ _ _ => pst_c (by decide)⟩
theorem frR_6 {M M' : jM} (h : fr6 M M') : frR M M' := ⟨fun a q _ _ => h.1 a q, fun j q0 q1 _ _ _ => h.2 j q0 q1⟩
def nx (tx : Int → Int) (n p : Int) : Int := bl tx n (tkE tx n p)
theorem bl_b {tx : Int → Int} {n p : Int} (h : 0 ≤ p ∧ p ≤ n) : 0 ≤ bl tx n p ∧ bl tx n p ≤ n ∧ p ≤ bl tx n p := by
  have := rn_b (c := isBl) (tx := tx) h.2
  unfold bl
  omega
theorem nx_b {tx : Int → Int} {n p : Int} (h : 0 ≤ p ∧ p ≤ n) : 0 ≤ nx tx n p ∧ nx tx n p ≤ n ∧ p ≤ nx tx n p ∧ (p < n → p < nx tx n p) := by
  have h1 := tkE_b (tx := tx) h.2
  have h2 := bl_b (tx := tx) (n := n) (p := tkE tx n p) (by omega)
  unfold nx
  omega
/-- the surroundings of a reading -/
def rc (e : Int) (tx : Int → Int) (n : Int) (A B : jM) : Prop := (e = 3 ∨ e = 56) ∧ okT tx n ∧ rTx tx n B ∧ A (e + 2) 0 = 10 ∧ A (e + 13) 0 = 6
/-- the component stands at p, the reference comes to p -/
def cS (e : Int) (tx : Int → Int) (n : Int) (A : jM) (p : Int) (M : jM) : Prop := cSt tx n p M ∧ M 109 1 = e ∧ M 109 7 = -1 ∧ frC e A M
def rS (tx : Int → Int) (n : Int) (B : jM) (p : Int) (M : jM) : Prop := rAt tx n p M ∧ M 166 7 = -1 ∧ frR B M
/-- both have refused the text, at one place -/
def fl (e : Int) (n : Int) (A B Mc Mr : jM) : Prop := (0 ≤ Mc 109 7 ∧ Mc 109 7 ≤ 600) ∧ Mr 166 7 = Mc 109 7 ∧ frC e A Mc ∧ frR B Mr ∧ rPt n Mr
theorem rTx_R {tx : Int → Int} {n : Int} {B M : jM} (h : rTx tx n B) (hf : frR B M) : rTx tx n M := by
  unfold rTx
  rw [hf.2 6 (by decide) (by decide) (by decide) (by decide) (by decide), hf.1 167 (by decide) (by decide) (by decide)]
  exact h
theorem fl_okF {e n : Int} {A B Mc Mr : jM} (h : fl e n A B Mc Mr) : okF Mr := by
  unfold okF
  rw [h.2.1]
  exact h.1
theorem fl_fX {e n : Int} {A B Mc Mr X : jM} (h : fl e n A B Mc Mr) (hf : fX n Mr X) : fl e n A B Mc X := ⟨h.1, by rw [hf.1.2 7 (by decide) (by decide)]; exact h.2.1, h.2.2.1, frR_t h.2.2.2.1 (frR_6 hf.1), hf.2⟩
theorem fl_1 {e n : Int} {A B Mc Mr : jM} (h : fl e n A B Mc Mr) (i v : Int) : fl e n A B Mc (jst Mr 171 i v) := ⟨h.1, by rw [pst_c (by decide)]; exact h.2.1, h.2.2.1, frR_t h.2.2.2.1 (frR_1 _ _ _), by unfold rPt; rw [pst_c (by decide)]; exact h.2.2.2.2⟩
theorem fl_2 {e n : Int} {A B Mc Mr : jM} (h : fl e n A B Mc Mr) (i v : Int) : fl e n A B Mc (jst Mr 172 i v) := ⟨h.1, by rw [pst_c (by decide)]; exact h.2.1, h.2.2.1, frR_t h.2.2.2.1 (frR_2 _ _ _), by unfold rPt; rw [pst_c (by decide)]; exact h.2.2.2.2⟩
theorem fl_s {e n : Int} {A B Mc Mr : jM} (h : fl e n A B Mc Mr) {j : Int} (hj : j = 13 ∨ j = 14) (v : Int) : fl e n A B Mc (jst Mr 166 j v) := by
  refine ⟨h.1, by rw [pst_i (by omega)]; exact h.2.1, h.2.2.1, frR_t h.2.2.2.1 ⟨fun a q _ _ => pst_f q, fun i _ _ _ q3 q4 => pst_i (by omega)⟩, ?_⟩
  unfold rPt
  rw [pst_i (by omega)]
  exact h.2.2.2.2
theorem cS_mv {e : Int} {tx : Int → Int} {n p p' : Int} {A M M' : jM} (h : cS e tx n A p M) (he : e = 3 ∨ e = 56) (hf : frC e M M') (h1 : M' 109 1 = M 109 1) (h2 : M' 109 2 = M 109 2) (h7 : M' 109 7 = M 109 7) (hp : 0 ≤ p' ∧ p' ≤ n) (ha : cAt tx n p' M') : cS e tx n A p' M' := by
  obtain ⟨⟨g1, g2, g3, g4, g5⟩, g6, g7, g8⟩ := h
  exact ⟨⟨g1, hp, by rw [h2]; exact g3, fun i q0 q1 => by rw [hf.1 2 (by decide) (by omega)]; exact g4 i q0 q1, ha⟩, by rw [h1]; exact g6, by rw [h7]; exact g7, frC_t g8 hf⟩
/-- the same place, other rows -/
theorem cS_st {e : Int} {tx : Int → Int} {n p : Int} {A M M' : jM} (h : cS e tx n A p M) (he : e = 3 ∨ e = 56) (hf : frC e M M') (h9 : ∀ j, j ≠ 6 → j ≠ 8 → M' 109 j = M 109 j) : cS e tx n A p M' := by
  refine cS_mv h he hf (h9 1 (by decide) (by decide)) (h9 2 (by decide) (by decide)) (h9 7 (by decide) (by decide)) h.1.2.1 ?_
  unfold cAt
  rw [h9 4 (by decide) (by decide), h9 3 (by decide) (by decide), h9 5 (by decide) (by decide)]
  exact h.1.2.2.2.2
theorem cS_adv {e : Int} {tx : Int → Int} {n p : Int} {A M : jM} (h : cS e tx n A p M) (he : e = 3 ∨ e = 56) : jT (f_X4_advance M) (fun M' => cS e tx n A (nx tx n p) M' ∧ fr9 M M') := by
  obtain ⟨g1, g2, g3, g4, g5⟩ := h.1
  have hb := tkE_b (tx := tx) g2.2
  refine t_mono (c_adv (M := M) (p := tkE tx n p) g1 g3 g4 (by rw [g5.1, g5.2.2]; omega) ⟨by omega, hb.2.1⟩) (fun M' hM' => ⟨?_, hM'.2⟩)
  exact cS_mv h he (frC_9 he hM'.2.1) (hM'.2.2 1 (by decide) (by decide) (by decide)) (hM'.2.2 2 (by decide) (by decide) (by decide)) (hM'.2.2 7 (by decide) (by decide) (by decide)) (bl_b ⟨by omega, hb.2.1⟩ |> fun q => ⟨q.1, q.2.1⟩) hM'.1
/-- a word's end is the token's end -/
theorem nx_w {tx : Int → Int} {n p : Int} (hO : okT tx n) (hp : 0 ≤ p ∧ p ≤ n) (h : p < rn isLt tx n p) : nx tx n p = bl tx n (rn isLt tx n p) := by
  unfold nx
  rw [(tk_lt hO hp).2 h]
theorem nx_d {tx : Int → Int} {n p : Int} (hO : okT tx n) (hp : 0 ≤ p ∧ p ≤ n) (h : p < rn isDg tx n p) : nx tx n p = bl tx n (rn isDg tx n p) := by
  unfold nx
  rw [(tk_dg hO hp).2 h]
theorem cS_num {e : Int} {tx : Int → Int} {n p lo hi : Int} {A M : jM} (h : cS e tx n A p M) (he : e = 3 ∨ e = 56) (hlo : 0 ≤ lo ∧ lo ≤ 10000) (hhi : 0 ≤ hi ∧ hi ≤ 10000) : jT (f_X4_number lo hi M) (fun q => (nmOk tx n p lo hi ∧ q.1 = 1 ∧ q.2 109 6 = nmV tx n p ∧ cS e tx n A (nx tx n p) q.2 ∨ ¬ nmOk tx n p lo hi ∧ q.1 = 0 ∧ q.2 109 7 = p ∧ frC e A q.2) ∧ (∀ a, a ≠ 109 → q.2 a = M a) ∧ q.2 109 8 = M 109 8) := by
  obtain ⟨g1, g2, g3, g4, g5⟩ := h.1
  have hb := tkE_b (tx := tx) g2.2
  refine t_mono (c_number (lo := lo) (hi := hi) h.1 hlo hhi) (fun q hq => ⟨?_, hq.2.1, hq.2.2 8 (by decide) (by decide) (by decide) (by decide) (fun _ => by decide)⟩)
  rcases hq.1 with hy | hy
  · have hr := rn_b (c := isDg) (tx := tx) g2.2
    have q1 : q.1 ≠ 0 := by rw [hy.2.1]; decide
    left
    refine ⟨hy.1, hy.2.1, hy.2.2.1, ?_⟩
    rw [nx_d g1 g2 hy.1.1]
    exact cS_mv h he (frC_9 he hq.2.1) (hq.2.2 1 (by decide) (by decide) (by decide) (by decide) (fun _ => by decide)) (hq.2.2 2 (by decide) (by decide) (by decide) (by decide) (fun _ => by decide)) (hq.2.2 7 (by decide) (by decide) (by decide) (by decide) (fun c => absurd c q1)) (bl_b ⟨by omega, hr.2.1⟩ |> fun q => ⟨q.1, q.2.1⟩) hy.2.2.2
  · exact Or.inr ⟨hy.1, hy.2.1, hy.2.2, frC_t h.2.2.2 (frC_9 he hq.2.1)⟩
theorem rS_num {tx : Int → Int} {n p lo hi : Int} {B M : jM} (hO : okT tx n) (hB : rTx tx n B) (h : rS tx n B p M) (hlo : 0 ≤ lo ∧ lo ≤ 10000) (hhi : 0 ≤ hi ∧ hi ≤ 10000) : jT (f_X10_number lo hi M) (fun q => (nmOk tx n p lo hi ∧ q.1 = nmV tx n p ∧ rS tx n B (nx tx n p) q.2 ∨ ¬ nmOk tx n p lo hi ∧ q.2 166 7 = p ∧ frR B q.2 ∧ rPt n q.2) ∧ (0 ≤ q.1 ∧ q.1 ≤ 10000) ∧ (∀ a, a ≠ 166 → q.2 a = M a) ∧ q.2 166 13 = M 166 13 ∧ q.2 166 14 = M 166 14) := by
  have hp := rAt_b h.1
  refine t_mono (e_number hO (rTx_R hB h.2.2) h.1 h.2.1 hlo hhi) (fun q hq => ?_)
  obtain ⟨h1, h2, h3, h4, h5⟩ := hq
  have hf : frR B q.2 := frR_t h.2.2 ⟨fun a q0 _ _ => h4 a q0, fun j q0 q1 q2 _ _ => h5 j q0 q1 q2⟩
  refine ⟨?_, h3, h4, h5 13 (by decide) (by decide) (by decide), h5 14 (by decide) (by decide) (by decide)⟩
  rcases h1 with hy | hy
  · exact Or.inl ⟨hy.1, hy.2.1, by rw [nx_d hO ⟨hp.1, hp.2.1⟩ hy.1.1]; exact hy.2.2.2, hy.2.2.1, hf⟩
  · exact Or.inr ⟨hy.1, hy.2, hf, h2⟩
/-! bounds of rows after a change -/
def okTi (i v : Int) : Prop := (i = 0 → 0 ≤ v ∧ v ≤ 10) ∧ (i = 1 → 0 ≤ v ∧ v ≤ 6) ∧ (i = 2 → 1 ≤ v ∧ v ≤ 9) ∧ (i = 3 → 0 ≤ v ∧ v ≤ 6) ∧ (4 ≤ i → i < 14 → 0 ≤ v ∧ v ≤ 2) ∧ (110 ≤ i → i < 116 → 0 ≤ v ∧ v ≤ 600) ∧ (116 ≤ i → i < 122 → 0 ≤ v ∧ v ≤ 12) ∧ (122 ≤ i → i < 194 → 0 ≤ v ∧ v ≤ 600) ∧ (194 ≤ i → i < 266 → 0 ≤ v ∧ v ≤ 3) ∧ (266 ≤ i → i < 482 → 0 ≤ v ∧ v ≤ 9)
theorem bT_r {T T' : Int → Int} (h : bT T) (hc : ∀ j, T' j = T j ∨ okTi j (T' j)) : bT T' := by
  obtain ⟨h0, h1, h2, h3, h4, h5, h6, h7, h8, h9⟩ := h
  refine ⟨?_, ?_, ?_, ?_, fun i a b => ?_, fun i a b => ?_, fun i a b => ?_, fun i a b => ?_, fun i a b => ?_, fun i a b => ?_⟩
  · rcases hc 0 with q | q
    · rw [q]; exact h0
    · exact q.1 rfl
  · rcases hc 1 with q | q
    · rw [q]; exact h1
    · exact q.2.1 rfl
  · rcases hc 2 with q | q
    · rw [q]; exact h2
    · exact q.2.2.1 rfl
  · rcases hc 3 with q | q
    · rw [q]; exact h3
    · exact q.2.2.2.1 rfl
  · rcases hc (4 + i) with q | q
    · rw [q]; exact h4 i a b
    · exact q.2.2.2.2.1 (by omega) (by omega)
  · rcases hc (110 + i) with q | q
    · rw [q]; exact h5 i a b
    · exact q.2.2.2.2.2.1 (by omega) (by omega)
  · rcases hc (116 + i) with q | q
    · rw [q]; exact h6 i a b
    · exact q.2.2.2.2.2.2.1 (by omega) (by omega)
  · rcases hc (122 + i) with q | q
    · rw [q]; exact h7 i a b
    · exact q.2.2.2.2.2.2.2.1 (by omega) (by omega)
  · rcases hc (194 + i) with q | q
    · rw [q]; exact h8 i a b
    · exact q.2.2.2.2.2.2.2.2.1 (by omega) (by omega)
  · rcases hc (266 + i) with q | q
    · rw [q]; exact h9 i a b
    · exact q.2.2.2.2.2.2.2.2.2 (by omega) (by omega)
def okNi (i v : Int) : Prop := (0 ≤ i → i < 648 → -5 ≤ v ∧ v ≤ 5) ∧ (648 ≤ i → i < 810 → 0 ≤ v ∧ v ≤ 10) ∧ (810 ≤ i → i < 882 → 0 ≤ v ∧ v ≤ 7) ∧ (882 ≤ i → i < 954 → 0 ≤ v ∧ v ≤ 1) ∧ (954 ≤ i → i < 964 → 0 ≤ v ∧ v ≤ 2000) ∧ (i = 964 → 0 ≤ v ∧ v ≤ 3) ∧ (i = 965 → 0 ≤ v ∧ v ≤ 600) ∧ (i = 966 → 0 ≤ v ∧ v ≤ 50) ∧ (i = 967 → 1 ≤ v ∧ v ≤ 3) ∧ (968 ≤ i → i < 971 → 0 ≤ v ∧ v ≤ 300)
theorem bN_r {T T' : Int → Int} (h : bN T) (hc : ∀ j, T' j = T j ∨ okNi j (T' j)) : bN T' := by
  obtain ⟨h0, h1, h2, h3, h4, h5, h6, h7, h8, h9⟩ := h
  refine ⟨fun i a b => ?_, fun i a b => ?_, fun i a b => ?_, fun i a b => ?_, fun i a b => ?_, ?_, ?_, ?_, ?_, fun i a b => ?_⟩
  · rcases hc i with q | q
    · rw [q]; exact h0 i a b
    · exact q.1 a b
  · rcases hc (648 + i) with q | q
    · rw [q]; exact h1 i a b
    · exact q.2.1 (by omega) (by omega)
  · rcases hc (810 + i) with q | q
    · rw [q]; exact h2 i a b
    · exact q.2.2.1 (by omega) (by omega)
  · rcases hc (882 + i) with q | q
    · rw [q]; exact h3 i a b
    · exact q.2.2.2.1 (by omega) (by omega)
  · rcases hc (954 + i) with q | q
    · rw [q]; exact h4 i a b
    · exact q.2.2.2.2.1 (by omega) (by omega)
  · rcases hc 964 with q | q
    · rw [q]; exact h5
    · exact q.2.2.2.2.2.1 rfl
  · rcases hc 965 with q | q
    · rw [q]; exact h6
    · exact q.2.2.2.2.2.2.1 rfl
  · rcases hc 966 with q | q
    · rw [q]; exact h7
    · exact q.2.2.2.2.2.2.2.1 rfl
  · rcases hc 967 with q | q
    · rw [q]; exact h8
    · exact q.2.2.2.2.2.2.2.2.1 rfl
  · rcases hc (968 + i) with q | q
    · rw [q]; exact h9 i a b
    · exact q.2.2.2.2.2.2.2.2.2 (by omega) (by omega)
theorem okT_of {T T' : Int → Int} {i : Int} (h1 : ∀ j, j ≠ i → T' j = T j) (h2 : okTi i (T' i)) : ∀ j, T' j = T j ∨ okTi j (T' j) := fun j => by
  by_cases c : j = i
  · subst c; exact Or.inr h2
  · exact Or.inl (h1 j c)
theorem okN_of {T T' : Int → Int} {i : Int} (h1 : ∀ j, j ≠ i → T' j = T j) (h2 : okNi i (T' i)) : ∀ j, T' j = T j ∨ okNi j (T' j) := fun j => by
  by_cases c : j = i
  · subst c; exact Or.inr h2
  · exact Or.inl (h1 j c)
/-! congruences of the rows -/
theorem rSk_c {g s : Int} {M M' : jM} {T T' N N' : Int → Int} (hT : bT T) (hs : 0 ≤ s ∧ s < 6) (h : rSk g M T N s) (h2 : M' g 2 = T' (110 + s)) (hM0 : M' g 0 = M g 0) (hM1 : M' g 1 = M g 1) (hM : ∀ a, g + 1 ≤ a → a ≤ g + 5 → M' a = M a) (ht : ∀ j, (j = 2 ∨ j = 116 + s ∨ 122 + 12 * s ≤ j ∧ j < 134 + 12 * s ∨ 194 + 12 * s ≤ j ∧ j < 206 + 12 * s ∨ 266 + 36 * s ≤ j ∧ j < 302 + 36 * s) → T' j = T j) (hn : ∀ j, (108 * s ≤ j ∧ j < 108 * s + 108 ∨ 648 + 27 * s ≤ j ∧ j < 675 + 27 * s ∨ 810 + 12 * s ≤ j ∧ j < 822 + 12 * s ∨ 882 + 12 * s ≤ j ∧ j < 894 + 12 * s) → N' j = N j) : rSk g M' T' N' s := by
  have h12 := hT.2.2.2.2.2.2.1 s hs.1 hs.2
  have j9 := hT.2.2.1
  obtain ⟨a1, a2, a3, a4, a5⟩ := h
  unfold rSk
  rw [hM0, hM1, h2, hM (g + 1) (by omega) (by omega), hM (g + 2) (by omega) (by omega), hM (g + 3) (by omega) (by omega), hM (g + 4) (by omega) (by omega), hM (g + 5) (by omega) (by omega), ht 2 (by omega), ht (116 + s) (by omega)]
  refine ⟨a1, ?_, rfl, fun k q0 q1 => ?_, fun c j q0 q1 q2 q3 => ?_⟩
  · rw [a2]
    have : ∀ m : Nat, m ≤ 12 → q_or (fun k => N (882 + (12 * s + k))) m = q_or (fun k => N' (882 + (12 * s + k))) m := by
      intro m
      induction m with
      | zero => intro _; rfl
      | succ m ih =>
        intro hm
        unfold q_or
        rw [ih (by omega), hn (882 + (12 * s + (m : Int))) (by omega)]
    rw [this _ (by omega)]
  · obtain ⟨b1, b2, b3, b4, b5⟩ := a4 k q0 q1
    have h3 := hT.2.2.2.2.2.2.2.2.1 (12 * s + k) (by omega) (by omega)
    rw [ht (122 + (12 * s + k)) (by omega), ht (194 + (12 * s + k)) (by omega), hn (810 + (12 * s + k)) (by omega)]
    refine ⟨b1, b2, fun i i0 i1 => ?_, b4, fun j j0 j1 => ?_⟩
    · rw [ht (266 + 3 * (12 * s + k) + i) (by omega)]
      exact b3 i i0 i1
    · rw [hn (9 * (12 * s + k) + j) (by omega)]
      exact b5 j j0 j1
  · rw [hn (648 + 9 * (3 * s + c) + j) (by omega)]
    exact a5 c j q0 q1 q2 q3
theorem rRl_c {e r : Int} {M M' : jM} {T T' : Int → Int} (h : rRl e M T r) (hr : 0 ≤ r) (hM : ∀ a, e + 8 ≤ a → a ≤ e + 11 → M' a = M a) (ht : ∀ j, 482 ≤ j → T' j = T j) : rRl e M' T' r := by
  obtain ⟨n1, n2, a1, a2, a3, a4, a5, a6, a7, a8, a9⟩ := h
  refine ⟨n1, n2, ?_⟩
  rw [hM (e + 8) (by omega) (by omega), hM (e + 9) (by omega) (by omega), hM (e + 10) (by omega) (by omega), hM (e + 11) (by omega) (by omega), ht (482 + r) (by omega), ht (482 + r + 1) (by omega)]
  refine ⟨a1, a2, a3, a4, a5, a6, fun i q0 q1 => ?_, ?_, ?_⟩
  · rw [ht (489 + T (482 + r) + i) (by omega)]
    exact a7 i q0 q1
  · rw [la_congr (f := T') (g := T) (fun i q0 q1 => ht i (by omega))]
    exact a8
  · rw [la_congr (f := T') (g := T) (a := 489 + T (482 + r) + n1) (fun i q0 q1 => ht i (by omega)), ht (489 + T (482 + r) + n1 + n2) (by omega)]
    exact a9
theorem rNm_c {L Z T T' : Int → Int} {base n : Int} (h : rNm L Z T base n) (ht : ∀ j, base ≤ j → j < base + 6 * n → T' j = T j) : rNm L Z T' base n := by
  intro i q0 q1
  obtain ⟨z1, z2⟩ := h i q0 q1
  refine ⟨z1, fun k k0 k1 => ?_⟩
  rw [ht (base + 6 * i + k) (by omega) (by omega)]
  exact z2 k k0 k1
theorem rNm_i {L Z T : Int → Int} {base n : Int} (h : rNm L Z T base n) : ∀ i k, 0 ≤ i → i < n → 0 ≤ k → k < 6 → 0 ≤ T (base + 6 * i + k) ∧ T (base + 6 * i + k) ≤ 127 := by
  intro i k q0 q1 k0 k1
  obtain ⟨z1, z2⟩ := h i q0 q1
  obtain ⟨z3, z4⟩ := z2 k k0 k1
  rw [z4]
  split
  · rename_i c
    have := z3 c
    omega
  · omega
/-- the spare event against the draft -/
def rH (e : Int) (M : jM) (T N : Int → Int) : Prop := M e 0 = T 2 ∧ (∀ i, 0 ≤ i → i < 7 → M (e + 1) i = N (964 + i)) ∧ M (e + 2) 3 = T 0 ∧ M (e + 13) 3 = T 1 ∧ M (e + 7) 0 = T 3
  ∧ rNm (M (e + 3)) (M (e + 4)) T 14 (T 0) ∧ rNm (M (e + 14)) (M (e + 15)) T 74 (T 1)
  ∧ (∀ i, 0 ≤ i → i < T 0 → M (e + 5) i = N (954 + i) ∧ M (e + 6) i = T (4 + i))
  ∧ ∀ r, 0 ≤ r → r < T 3 → rRl e M T r
def rM0 (e : Int) (M : jM) (T N : Int → Int) : Prop := ∀ s, 0 ≤ s → s < 6 → T (116 + s) = 0 ∧ ∀ c j, 0 ≤ c → c < 3 → 0 ≤ j → j < 9 → M (e + 16 + 1 + 6 * s + 5) ((12 + c) * 9 + j) = N (648 + 9 * (3 * s + c) + j)
/-- codes of the rules so far lie below what is used -/
def rlB (e : Int) (M : jM) (T : Int → Int) : Prop := ∀ r, 0 ≤ r → r < T 3 → M (e + 11) r ≤ M (e + 7) 1 ∧ T (482 + r + 1) ≤ T (482 + T 3)
theorem rlB_c {e : Int} {M M' : jM} {T T' : Int → Int} (h : rlB e M T) (hT : 0 ≤ T 3) (h7 : M' (e + 7) = M (e + 7)) (h11 : M' (e + 11) = M (e + 11)) (h3 : T' 3 = T 3) (ht : ∀ j, 482 ≤ j → T' j = T j) : rlB e M' T' := by
  intro r q0 q1
  rw [h3] at q1
  rw [h7, h11, h3, ht (482 + r + 1) (by omega), ht (482 + T 3) (by omega)]
  exact h r q0 q1
def evT (e p sh : Int) (M : jM) (T N : Int → Int) : Prop := bT T ∧ bN N ∧ bL T ∧ rH e M T N
  ∧ (∀ s, 0 ≤ s → s < 6 → rSk (e + 16 + 1 + 6 * s) M T N s)
  ∧ (∀ s, T 1 ≤ s → s < 6 → T (116 + s) = 0)
  ∧ (∀ i, 0 ≤ i → i < 72 → N (882 + i) = 0)
  ∧ (0 ≤ M (e + 7) 1 ∧ M (e + 7) 1 ≤ T (482 + T 3) ∧ T (482 + T 3) ≤ p ∧ rlB e M T)
  ∧ (sh = 0 ∨ sh = 1) ∧ (sh = 0 → rM0 e M T N)
theorem evT_E {e p sh : Int} {M : jM} {T N : Int → Int} (h : evT e p sh M T N) : rE e M T N := by
  obtain ⟨hT, -, -, ⟨a1, a2, a3, a4, a5, a6, a7, a8, a9⟩, hS, -⟩ := h
  exact ⟨a1, a2, a3, a4, a5, a6, a7, a8, a9, fun s q0 q1 => hS s q0 (by have := hT.2.1; omega)⟩
theorem evT_fr {e p p' sh : Int} {M M' : jM} {T N : Int → Int} (h : evT e p sh M T N) (hp : p ≤ p') (hf : ∀ a, e ≤ a → a ≤ e + 52 → M' a = M a) : evT e p' sh M' T N := by
  obtain ⟨hT, hN, hL, ⟨a1, a2, a3, a4, a5, a6, a7, a8, a9⟩, hS, h0, hg, hc, hs, hm⟩ := h
  refine ⟨hT, hN, hL, ⟨?_, ?_, ?_, ?_, ?_, ?_, ?_, ?_, fun r q0 q1 => rRl_fr (a9 r q0 q1) (fun a b0 b1 => hf a (by omega) (by omega))⟩, fun s q0 q1 => rSk_fr (hS s q0 q1) (fun a b0 b1 => hf a (by omega) (by omega)), h0, hg, ?_, hs, fun q s q0 q1 => ?_⟩
  · rw [hf e (by omega) (by omega)]; exact a1
  · rw [hf (e + 1) (by omega) (by omega)]; exact a2
  · rw [hf (e + 2) (by omega) (by omega)]; exact a3
  · rw [hf (e + 13) (by omega) (by omega)]; exact a4
  · rw [hf (e + 7) (by omega) (by omega)]; exact a5
  · rw [hf (e + 3) (by omega) (by omega), hf (e + 4) (by omega) (by omega)]; exact a6
  · rw [hf (e + 14) (by omega) (by omega), hf (e + 15) (by omega) (by omega)]; exact a7
  · rw [hf (e + 5) (by omega) (by omega), hf (e + 6) (by omega) (by omega)]; exact a8
  · rw [hf (e + 7) (by omega) (by omega)]
    exact ⟨by omega, by omega, by omega, rlB_c hc.2.2.2 hT.2.2.2.1.1 (hf _ (by omega) (by omega)) (hf _ (by omega) (by omega)) rfl (fun _ _ => rfl)⟩
  · rw [hf (e + 16 + 1 + 6 * s + 5) (by omega) (by omega)]
    exact hm q s q0 q1
/-- between two lines -/
def rLn (e : Int) (tx : Int → Int) (n : Int) (A B : jM) (p : Int) (Mc Mr : jM) : Prop := cS e tx n A p Mc ∧ rS tx n B p Mr ∧ Mr 166 13 = 0 ∧ Mc 109 8 = Mr 166 14 ∧ evT e p (Mr 166 14) Mc (Mr 171) (Mr 172)
/-- what a line comes to -/
def Out (e : Int) (tx : Int → Int) (n : Int) (A B : jM) (p v : Int) (Mc Mr : jM) : Prop := v = 1 ∧ (∃ p', p < p' ∧ rLn e tx n A B p' Mc Mr) ∨ v = 0 ∧ fl e n A B Mc Mr
