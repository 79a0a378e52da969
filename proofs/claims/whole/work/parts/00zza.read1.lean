/-! ===== reading: octets, runs, tokens ===== -/
def isBl (x : Int) : Bool := decide (x = 9 ∨ x = 10 ∨ x = 32)
def isLt (x : Int) : Bool := decide (97 ≤ x ∧ x ≤ 122)
def isDg (x : Int) : Bool := decide (48 ≤ x ∧ x ≤ 57)
theorem isBl_i {x : Int} : isBl x = true ↔ (x = 9 ∨ x = 10 ∨ x = 32) := decide_eq_true_iff
theorem isLt_i {x : Int} : isLt x = true ↔ (97 ≤ x ∧ x ≤ 122) := decide_eq_true_iff
theorem isDg_i {x : Int} : isDg x = true ↔ (48 ≤ x ∧ x ≤ 57) := decide_eq_true_iff
def run (c : Int → Bool) (tx : Int → Int) : Nat → Int → Int
  | 0, p => p
  | k + 1, p => if c (tx p) then run c tx k (p + 1) else p
/-- the end of the run of c from p on -/
def rn (c : Int → Bool) (tx : Int → Int) (n p : Int) : Int := run c tx (n - p).toNat p
theorem rn_end {c : Int → Bool} {tx : Int → Int} {n p : Int} (h : n ≤ p) : rn c tx n p = p := by
  unfold rn
  rw [show (n - p).toNat = 0 from by omega]
  rfl
theorem rn_no {c : Int → Bool} {tx : Int → Int} {n p : Int} (h : ¬ c (tx p)) : rn c tx n p = p := by
  unfold rn
  rcases hk : (n - p).toNat with _ | k
  · rfl
  · unfold run
    exact if_neg h
theorem rn_yes {c : Int → Bool} {tx : Int → Int} {n p : Int} (h : p < n) (hc : c (tx p)) : rn c tx n p = rn c tx n (p + 1) := by
  unfold rn
  rw [show (n - p).toNat = (n - (p + 1)).toNat + 1 from by omega]
  show (if c (tx p) then run c tx (n - (p + 1)).toNat (p + 1) else p) = _
  rw [if_pos hc]
theorem run_b {c : Int → Bool} {tx : Int → Int} : ∀ (k : Nat) (p : Int), p ≤ run c tx k p ∧ run c tx k p ≤ p + k ∧ (∀ i, p ≤ i → i < run c tx k p → c (tx i)) ∧ (run c tx k p < p + k → ¬ c (tx (run c tx k p))) := by
  intro k
  induction k with
  | zero => intro p; exact ⟨Int.le_refl _, by show p ≤ p + 0; omega, fun i q0 q1 => by have : run c tx 0 p = p := rfl; omega, fun h => by have : run c tx 0 p = p := rfl; omega⟩
  | succ k ih =>
    intro p
    unfold run
    split
    · rename_i hc
      obtain ⟨h1, h2, h3, h4⟩ := ih (p + 1)
      refine ⟨by omega, by omega, fun i q0 q1 => ?_, fun h => h4 (by omega)⟩
      by_cases ci : i = p
      · subst ci; exact hc
      · exact h3 i (by omega) q1
    · rename_i hc
      exact ⟨Int.le_refl _, by omega, fun i q0 q1 => by omega, fun _ => hc⟩
theorem rn_b {c : Int → Bool} {tx : Int → Int} {n p : Int} (h : p ≤ n) : p ≤ rn c tx n p ∧ rn c tx n p ≤ n ∧ (∀ i, p ≤ i → i < rn c tx n p → c (tx i)) ∧ (rn c tx n p < n → ¬ c (tx (rn c tx n p))) := by
  obtain ⟨h1, h2, h3, h4⟩ := run_b (c := c) (tx := tx) (n - p).toNat p
  exact ⟨h1, by unfold rn; omega, h3, fun q => h4 (by unfold rn at q; omega)⟩
/-- the token at a place without blanks -/
def tkK (tx : Int → Int) (n p : Int) : Int := if n ≤ p then -1 else if isLt (tx p) then 97 else if isDg (tx p) then 48 else tx p
def tkE (tx : Int → Int) (n p : Int) : Int := if n ≤ p then p else if isLt (tx p) then rn isLt tx n p else if isDg (tx p) then rn isDg tx n p else p + 1
def okT (tx : Int → Int) (n : Int) : Prop := 0 ≤ n ∧ n ≤ 600 ∧ ∀ i, 0 ≤ i → i < n → 0 ≤ tx i ∧ tx i ≤ 255
def bl (tx : Int → Int) (n p : Int) : Int := rn isBl tx n p
theorem tkE_b {tx : Int → Int} {n p : Int} (h : p ≤ n) : p ≤ tkE tx n p ∧ tkE tx n p ≤ n ∧ (p < n → p < tkE tx n p) := by
  unfold tkE
  by_cases c : n ≤ p
  · rw [if_pos c]; omega
  · rw [if_neg c]
    by_cases c1 : isLt (tx p)
    · rw [if_pos c1, rn_yes (by omega) c1]
      have := rn_b (c := isLt) (tx := tx) (n := n) (p := p + 1) (by omega)
      omega
    · rw [if_neg c1]
      by_cases c2 : isDg (tx p)
      · rw [if_pos c2, rn_yes (by omega) c2]
        have := rn_b (c := isDg) (tx := tx) (n := n) (p := p + 1) (by omega)
        omega
      · rw [if_neg c2]; omega
/-- the component stands at the token that begins at p -/
def cAt (tx : Int → Int) (n p : Int) (M : jM) : Prop := M 109 4 = p ∧ M 109 3 = tkK tx n p ∧ M 109 5 = tkE tx n p - p
def fr9 (M M' : jM) : Prop := (∀ a, a ≠ 109 → M' a = M a) ∧ ∀ j, j ≠ 3 → j ≠ 4 → j ≠ 5 → M' 109 j = M 109 j
set_option maxHeartbeats 1000000 in
theorem c_adv {M : jM} {tx : Int → Int} {n p : Int} (hO : okT tx n) (hn : M 109 2 = n) (ht : ∀ i, 0 ≤ i → i < n → M 2 i = tx i) (hp : M 109 4 + M 109 5 = p) (hpb : 0 ≤ p ∧ p ≤ n) : jT (f_X4_advance M) (fun M' => cAt tx n (bl tx n p) M' ∧ fr9 M M') := by
  obtain ⟨n0, n6, hx⟩ := hO
  unfold f_X4_advance
  rw [hp]
  refine t_let ?_
  refine t_lp1 (fun i => 0 ≤ i ∧ i ≤ n ∧ bl tx n i = bl tx n p) (fun i => (n - i).toNat) ?_ jfuel p (by rw [jfuel_eq]; omega) ⟨hpb.1, hpb.2, rfl⟩
  rintro self i ⟨hi1, hi2, hb⟩ hself
  have fin : ∀ (v e : Int) (M8 : jM), fr9 M M8 → M8 109 4 = i → M8 109 3 = tkK tx n i → e = tkE tx n i → bl tx n p = i → jT (jlet (jst M8 109 5 (e - M8 109 4)) fun M12 => some M12) (fun M' => cAt tx n (bl tx n p) M' ∧ fr9 M M') := fun v e M8 hf h4 h3 he hbi => by
    refine t_let (t_some ⟨⟨?_, ?_, ?_⟩, fun a q => ?_, fun j q0 q1 q2 => ?_⟩)
    · rw [pst_i (by decide), hbi]; exact h4
    · rw [pst_i (by decide), hbi]; exact h3
    · rw [pst_s, hbi, he, h4]
    · rw [pst_f q]; exact hf.1 a q
    · rw [pst_i q2]; exact hf.2 j q0 q1 q2
  have stop : bl tx n p = i → jT (jlet (jst M 109 4 i) fun M5 =>
      jk (fun (s1_6 : Int) =>
        jlet (jst M5 109 3 s1_6) fun M8 =>
        jk (fun (l1_9 : Int) (M10 : jM) =>
          jlet (jst M10 109 5 (l1_9 - (M10 109 4))) fun M12 =>
          some M12) fun (k11 : Int → jM → Option (jM)) =>
        jk (
          jk (
            if jw (M8 109 3) = jw (-1) then (
              k11 i M8)
            else (
              jlet (i + 1) fun l1_15 =>
              k11 l1_15 M8)) fun (k14 : Option (jM)) =>
          if jw (M8 109 3) < jw 48 then (
            k14)
          else (
            if jw 57 < jw (M8 109 3) then (
              k14)
            else (
              jlet (jst M8 109 3 48) fun M16 =>
              jlp1 (fun (self18 : Int → Option (jM)) (l1_17 : Int) =>
                if jw (M16 109 2) ≤ jw l1_17 then (
                  k11 l1_17 M16)
                else (
                  jck (0 ≤ jw l1_17 ∧ jw l1_17 < 600) <|
                  if jw (M16 2 (jw l1_17)) < jw 48 then (
                    k11 l1_17 M16)
                  else (
                    jck (0 ≤ jw l1_17 ∧ jw l1_17 < 600) <|
                    if jw 57 < jw (M16 2 (jw l1_17)) then (
                      k11 l1_17 M16)
                    else (
                      jlet (l1_17 + 1) fun l1_21 =>
                      self18 l1_21)))) jfuel i))) fun (k13 : Option (jM)) =>
        if jw (M8 109 3) < jw 97 then (
          k13)
        else (
          if jw 122 < jw (M8 109 3) then (
            k13)
          else (
            jlet (jst M8 109 3 97) fun M22 =>
            jlp1 (fun (self24 : Int → Option (jM)) (l1_23 : Int) =>
              if jw (M22 109 2) ≤ jw l1_23 then (
                k11 l1_23 M22)
              else (
                jck (0 ≤ jw l1_23 ∧ jw l1_23 < 600) <|
                if jw (M22 2 (jw l1_23)) < jw 97 then (
                  k11 l1_23 M22)
                else (
                  jck (0 ≤ jw l1_23 ∧ jw l1_23 < 600) <|
                  if jw 122 < jw (M22 2 (jw l1_23)) then (
                    k11 l1_23 M22)
                  else (
                    jlet (l1_23 + 1) fun l1_27 =>
                    self24 l1_27)))) jfuel i))) fun (k7 : Int → Option (jM)) =>
      if jw (M5 109 2) ≤ jw i then (
        k7 (-1))
      else (
        jck (0 ≤ jw i ∧ jw i < 600) <|
        k7 (M5 2 (jw i)))) (fun M' => cAt tx n (bl tx n p) M' ∧ fr9 M M') := fun hbi => by
    refine t_let ?_
    refine t_kP (fun kk => ∀ x, (n ≤ i ∧ x = -1 ∨ i < n ∧ x = tx i) → jT (kk x) (fun M' => cAt tx n (bl tx n p) M' ∧ fr9 M M')) ?_ ?_
    · intro x hxx
      have hxb : -1 ≤ x ∧ x ≤ 255 := by
        rcases hxx with h | h
        · omega
        · have := hx i hi1 h.1
          omega
      refine t_let ?_
      have m3 : jst (jst M 109 4 i) 109 3 x 109 3 = x := pst_s _ _ _ _
      have fr0 : ∀ v, fr9 M (jst (jst M 109 4 i) 109 3 v) := fun v => ⟨fun a q => by rw [pst_f q, pst_f q], fun j q0 q1 q2 => by rw [pst_i q0, pst_i q1]⟩
      have fr1 : ∀ v w, fr9 M (jst (jst (jst M 109 4 i) 109 3 v) 109 3 w) := fun v w => ⟨fun a q => by rw [pst_f q, pst_f q, pst_f q], fun j q0 q1 q2 => by rw [pst_i q0, pst_i q0, pst_i q1]⟩
      refine t_k ?_
      rw [m3, pw_of (z := x) (by omega) (by omega), pw_of (z := 97) (by omega) (by omega), pw_of (z := 122) (by omega) (by omega), pw_of (z := 48) (by omega) (by omega), pw_of (z := 57) (by omega) (by omega), pw_of (z := -1) (by omega) (by omega)]
      refine t_kP (fun kk => ¬ isLt x → jT kk (fun M' => cAt tx n (bl tx n p) M' ∧ fr9 M M')) ?_ ?_
      · intro hnl
        refine t_kP (fun kk => ¬ isDg x → jT kk (fun M' => cAt tx n (bl tx n p) M' ∧ fr9 M M')) ?_ ?_
        · intro hnd
          refine t_if (fun c1 => ?_) (fun c1 => ?_)
          · have hni : n ≤ i := by
              rcases hxx with h | h
              · exact h.1
              · have := hx i hi1 h.1
                omega
            refine fin 0 i _ (fr0 x) (by rw [pst_i (by decide), pst_s]) (by rw [pst_s, c1]; exact (if_pos hni).symm) (if_pos hni).symm hbi
          · rcases hxx with h | h
            · omega
            · rw [h.2] at hnl hnd
              refine t_let ?_
              refine fin 0 (i + 1) _ (fr0 x) (by rw [pst_i (by decide), pst_s]) ?_ ?_ hbi
              · rw [pst_s]
                unfold tkK
                rw [if_neg (by omega), if_neg hnl, if_neg hnd]
                exact h.2
              · unfold tkE
                rw [if_neg (by omega), if_neg hnl, if_neg hnd]
        · intro k14 hk14
          refine t_if (fun c1 => hk14 (fun q => by rw [isDg_i] at q; omega)) (fun c1 => ?_)
          refine t_if (fun c2 => hk14 (fun q => by rw [isDg_i] at q; omega)) (fun c2 => ?_)
          rcases hxx with h | h
          · omega
          have hdg : isDg (tx i) := by rw [isDg_i]; omega
          rw [h.2] at hnl
          refine t_let ?_
          have em : ∀ a, a ≠ 109 → jst (jst (jst M 109 4 i) 109 3 x) 109 3 48 a = M a := fun a q => (fr1 x 48).1 a q
          have e2 : jst (jst (jst M 109 4 i) 109 3 x) 109 3 48 109 2 = n := by rw [(fr1 x 48).2 2 (by decide) (by decide) (by decide)]; exact hn
          refine t_lp1 (fun y => i ≤ y ∧ y ≤ n ∧ rn isDg tx n y = rn isDg tx n i) (fun y => (n - y).toNat) ?_ jfuel i (by rw [jfuel_eq]; omega) ⟨by omega, by omega, rfl⟩
          rintro self2 y ⟨hy1, hy2, hyr⟩ hself2
          have fend : rn isDg tx n y = y → jT (jlet (jst (jst (jst (jst M 109 4 i) 109 3 x) 109 3 48) 109 5 (y - (jst (jst (jst M 109 4 i) 109 3 x) 109 3 48) 109 4)) fun M12 => some M12) (fun M' => cAt tx n (bl tx n p) M' ∧ fr9 M M') := fun q => by
            refine fin 0 y _ (fr1 x 48) (by rw [pst_i (by decide), pst_i (by decide), pst_s]) ?_ ?_ hbi
            · rw [pst_s]
              unfold tkK
              rw [if_neg (by omega), if_neg hnl, if_pos hdg]
            · unfold tkE
              rw [if_neg (by omega), if_neg hnl, if_pos hdg, ← hyr, q]
          rw [e2, em 2 (by decide), pw_of (z := n) (by omega) (by omega), pw_of (z := y) (by omega) (by omega)]
          refine t_if (fun c3 => fend (rn_end c3)) (fun c3 => ?_)
          have hxy := hx y (by omega) (by omega)
          refine t_ck (by omega) ?_
          rw [ht y (by omega) (by omega), pw_of (z := tx y) (by omega) (by omega)]
          refine t_if (fun c4 => fend (rn_no (fun q => by rw [isDg_i] at q; omega))) (fun c4 => ?_)
          refine t_ck (by omega) ?_
          refine t_if (fun c5 => fend (rn_no (fun q => by rw [isDg_i] at q; omega))) (fun c5 => ?_)
          refine t_let ?_
          exact hself2 _ ⟨by omega, by omega, by rw [← rn_yes (by omega) (by rw [isDg_i]; omega)]; exact hyr⟩ (by omega)
      · intro k13 hk13
        refine t_if (fun c1 => hk13 (fun q => by rw [isLt_i] at q; omega)) (fun c1 => ?_)
        refine t_if (fun c2 => hk13 (fun q => by rw [isLt_i] at q; omega)) (fun c2 => ?_)
        rcases hxx with h | h
        · omega
        have hlt : isLt (tx i) := by rw [isLt_i]; omega
        refine t_let ?_
        have em : ∀ a, a ≠ 109 → jst (jst (jst M 109 4 i) 109 3 x) 109 3 97 a = M a := fun a q => (fr1 x 97).1 a q
        have e2 : jst (jst (jst M 109 4 i) 109 3 x) 109 3 97 109 2 = n := by rw [(fr1 x 97).2 2 (by decide) (by decide) (by decide)]; exact hn
        refine t_lp1 (fun y => i ≤ y ∧ y ≤ n ∧ rn isLt tx n y = rn isLt tx n i) (fun y => (n - y).toNat) ?_ jfuel i (by rw [jfuel_eq]; omega) ⟨by omega, by omega, rfl⟩
        rintro self2 y ⟨hy1, hy2, hyr⟩ hself2
        have fend : rn isLt tx n y = y → jT (jlet (jst (jst (jst (jst M 109 4 i) 109 3 x) 109 3 97) 109 5 (y - (jst (jst (jst M 109 4 i) 109 3 x) 109 3 97) 109 4)) fun M12 => some M12) (fun M' => cAt tx n (bl tx n p) M' ∧ fr9 M M') := fun q => by
          refine fin 0 y _ (fr1 x 97) (by rw [pst_i (by decide), pst_i (by decide), pst_s]) ?_ ?_ hbi
          · rw [pst_s]
            unfold tkK
            rw [if_neg (by omega), if_pos hlt]
          · unfold tkE
            rw [if_neg (by omega), if_pos hlt, ← hyr, q]
        rw [e2, em 2 (by decide), pw_of (z := n) (by omega) (by omega), pw_of (z := y) (by omega) (by omega)]
        refine t_if (fun c3 => fend (rn_end c3)) (fun c3 => ?_)
        have hxy := hx y (by omega) (by omega)
        refine t_ck (by omega) ?_
        rw [ht y (by omega) (by omega), pw_of (z := tx y) (by omega) (by omega)]
        refine t_if (fun c4 => fend (rn_no (fun q => by rw [isLt_i] at q; omega))) (fun c4 => ?_)
        refine t_ck (by omega) ?_
        refine t_if (fun c5 => fend (rn_no (fun q => by rw [isLt_i] at q; omega))) (fun c5 => ?_)
        refine t_let ?_
        exact hself2 _ ⟨by omega, by omega, by rw [← rn_yes (by omega) (by rw [isLt_i]; omega)]; exact hyr⟩ (by omega)
    · intro k7 hk7
      have e2 : jst M 109 4 i 109 2 = n := by rw [pst_i (by decide)]; exact hn
      rw [e2, pst_f (by decide), pw_of (z := n) (by omega) (by omega), pw_of (z := i) (by omega) (by omega)]
      refine t_if (fun c => hk7 _ (Or.inl ⟨c, rfl⟩)) (fun c => ?_)
      refine t_ck (by omega) ?_
      exact hk7 _ (Or.inr ⟨by omega, ht i hi1 (by omega)⟩)
  refine t_kP (fun kk => bl tx n p = i → jT kk (fun M' => cAt tx n (bl tx n p) M' ∧ fr9 M M')) stop ?_
  intro k4 hk4
  rw [hn, pw_of (z := n) (by omega) (by omega), pw_of (z := i) (by omega) (by omega)]
  refine t_if (fun c => hk4 (by rw [← hb]; exact rn_end c)) (fun c => ?_)
  have hxi := hx i hi1 (by omega)
  refine t_ck (by omega) ?_
  rw [ht i hi1 (by omega), pw_of (z := tx i) (by omega) (by omega), pw_of (z := 9) (by omega) (by omega), pw_of (z := 10) (by omega) (by omega), pw_of (z := 32) (by omega) (by omega)]
  have next : isBl (tx i) → jT (jlet (i + 1) fun l1_30 => self l1_30) (fun M' => cAt tx n (bl tx n p) M' ∧ fr9 M M') := fun q => by
    refine t_let ?_
    exact hself _ ⟨by omega, by omega, by rw [← hb]; exact (rn_yes (by omega) q).symm⟩ (by omega)
  refine t_if (fun c1 => next (by rw [isBl_i]; omega)) (fun c1 => ?_)
  refine t_ck (by omega) ?_
  refine t_if (fun c2 => next (by rw [isBl_i]; omega)) (fun c2 => ?_)
  refine t_ck (by omega) ?_
  refine t_if (fun c3 => next (by rw [isBl_i]; omega)) (fun c3 => ?_)
  exact hk4 (by rw [← hb]; exact rn_no (fun q => by rw [isBl_i] at q; omega))
