/-! ===== reading: the words that there are ===== -/
theorem amB_d {k : Int} (h : (sw k).all (fun c => decide (0 ≤ c ∧ c ≤ 127)) = true) (h2 : (sw k).length ≤ 200) : amB k := by
  have hl := sw_len k
  refine ⟨by omega, fun i q0 q1 => ?_⟩
  rw [sw_get ⟨q0, q1⟩, List.getD_eq_getElem?_getD, List.getElem?_eq_getElem (by omega)]
  have := List.all_eq_true.1 h _ (List.getElem_mem (l := sw k) (n := i.toNat) (by omega))
  exact of_decide_eq_true this
def joinW : List Int → List Int
  | [] => []
  | k :: ks => sw k ++ 32 :: joinW ks
def ixW (w : List Int) : List Int → Int → Int
  | [], _ => -1
  | k :: ks, i => if w = sw k then i else ixW w ks (i + 1)
def okW (ks : List Int) : Bool := ks.all (fun k => (sw k).all (fun c => decide (97 ≤ c ∧ c ≤ 122)) && decide (1 ≤ (sw k).length ∧ (sw k).length ≤ 10))
theorem okW_c {k : Int} {ks : List Int} (h : okW (k :: ks) = true) : (∀ c ∈ sw k, 97 ≤ c ∧ c ≤ 122) ∧ (1 ≤ (sw k).length ∧ (sw k).length ≤ 10) ∧ okW ks = true := by
  unfold okW at h ⊢
  rw [List.all_cons, Bool.and_eq_true, Bool.and_eq_true] at h
  exact ⟨fun c hc => of_decide_eq_true (List.all_eq_true.1 h.1.1 c hc), of_decide_eq_true h.1.2, h.2⟩
theorem am_ix {w : List Int} : ∀ (ks : List Int) (idx : Int), okW ks = true → amF w (joinW ks) idx 0 = ixW w ks idx := by
  intro ks
  induction ks with
  | nil => intro idx _; rfl
  | cons k ks ih =>
    intro idx h
    obtain ⟨h1, h2, h3⟩ := okW_c h
    show amF w (sw k ++ 32 :: joinW ks) idx 0 = if w = sw k then idx else ixW w ks (idx + 1)
    rw [amF_w (fun c hc => by have := h1 c hc; omega), ih (idx + 1) h3]
theorem ix_nil : ∀ (ks : List Int) (idx : Int), okW ks = true → ixW [] ks idx = -1 := by
  intro ks
  induction ks with
  | nil => intro idx _; rfl
  | cons k ks ih =>
    intro idx h
    obtain ⟨h1, h2, h3⟩ := okW_c h
    show (if [] = sw k then idx else ixW [] ks (idx + 1)) = -1
    rw [if_neg (fun q => by rw [← q] at h2; exact absurd h2.1 (by decide)), ih (idx + 1) h3]
theorem ix_b {w : List Int} : ∀ (ks : List Int) (idx : Int), 0 ≤ idx → ixW w ks idx = -1 ∨ (idx ≤ ixW w ks idx ∧ ixW w ks idx < idx + ks.length) := by
  intro ks
  induction ks with
  | nil => intro idx _; exact Or.inl rfl
  | cons k ks ih =>
    intro idx hi
    have := ih (idx + 1) (by omega)
    unfold ixW
    rw [List.length_cons]
    split <;> omega
def W0 : List Int := [29, 33, 39, 51, 52, 56, 57, 34, 36, 37, 38, 35]
def W1 : List Int := [30, 31, 32]
def W2 : List Int := [40, 41, 42, 43, 44, 32, 37, 45, 46, 47]
def W3 : List Int := [48]
def W4 : List Int := [49, 50]
def W5 : List Int := [53, 54, 55]
theorem okW0 : okW W0 = true ∧ okW W1 = true ∧ okW W2 = true ∧ okW W3 = true ∧ okW W4 = true ∧ okW W5 = true := by decide +kernel
theorem swJ : sw 0 = joinW W0 ∧ sw 1 = joinW W1 ∧ sw 2 = joinW W2 ∧ sw 3 = joinW W3 ∧ sw 4 = joinW W4 ∧ sw 5 = joinW W5 := by decide +kernel
theorem amB0 : ∀ k : Nat, k < 58 → amB (k : Int) := by
  have h : ∀ k : Nat, k < 58 → (sw (k : Int)).all (fun c => decide (0 ≤ c ∧ c ≤ 127)) = true ∧ (sw (k : Int)).length ≤ 200 := by decide +kernel
  exact fun k hk => amB_d (h k hk).1 (h k hk).2
theorem amB_k {k : Int} (h : 0 ≤ k ∧ k < 58) : amB k := by
  have := amB0 k.toNat (by omega)
  rw [← pn_nat h.1] at this
  exact this
theorem c_am {tx : Int → Int} {n p k : Int} {M : jM} {ks : List Int} (h : cSt tx n p M) (hk : 0 ≤ k ∧ k < 58) (hj : sw k = joinW ks) (ho : okW ks = true) : f_X4_among k M = some (ixW (wd tx n p) ks 0) := by
  rw [c_among h (amB_k hk), hj, am_ix ks 0 ho]
  by_cases c : p < rn isLt tx n p
  · rw [if_pos c]
  · have hw : wd tx n p = [] := List.length_eq_zero_iff.1 (by rw [wd_len]; omega)
    rw [if_neg c, hw, ix_nil ks 0 ho]
/-- what the reference asks word by word -/
theorem e_isW {tx : Int → Int} {n p k : Int} {M : jM} (hO : okT tx n) (hx : rTx tx n M) (ha : rAt tx n p M) (h7 : M 166 7 = -1) (hk : 0 ≤ k ∧ k < 58) : jT (f_X10_isWord k M) (fun q => q.1 = b2 (wd tx n p = sw k) ∧ q.2 166 4 = p ∧ q.2 166 5 = p ∧ fr6 M q.2) := e_isWord hO hx ha h7 (amB_k hk)
theorem wd_sw {tx : Int → Int} {n p k : Int} (h : wd tx n p = sw k) : rn isLt tx n p - p = jsln k ∨ (rn isLt tx n p < p) := by
  have h1 := congrArg List.length h
  have h2 := sw_len k
  rw [wd_len] at h1
  omega
/-- takesWord: the point goes behind the word -/
theorem e_takesW {tx : Int → Int} {n p k : Int} {M : jM} (hO : okT tx n) (hx : rTx tx n M) (ha : rAt tx n p M) (h7 : M 166 7 = -1) (hk : 0 ≤ k ∧ k < 58) : jT (f_X10_takesWord k M) (fun q => q.1 = b2 (wd tx n p = sw k) ∧ q.2 166 5 = p ∧ fr6 M q.2 ∧ rAt tx n (if wd tx n p = sw k then bl tx n (rn isLt tx n p) else p) q.2) := by
  obtain ⟨p0, p1, p2, p3⟩ := rAt_b ha
  have hr := rn_b (c := isLt) (tx := tx) p1
  unfold f_X10_takesWord
  refine t_W (t_mono (e_isW hO hx ha h7 hk) (fun q hq => ?_))
  obtain ⟨g0, g1, g2, g3⟩ := hq
  rw [g0]
  by_cases c : wd tx n p = sw k
  · have hl := wd_sw c
    rw [b2_t c, if_pos c]
    refine t_neg (by decide) ?_
    refine t_let ?_
    refine t_ck (by decide) ?_
    refine t_some ⟨rfl, by dsimp only; rw [pst_i (by decide)]; exact g2, fr6_t g3 (fr6_4 _ _), ?_⟩
    unfold rAt
    dsimp only
    rw [pst_s, g1, show p + jsln k = rn isLt tx n p from by omega]
    exact ⟨by omega, hr.2.1, rfl⟩
  · rw [b2_f c, if_neg c]
    refine t_pos (by decide) ?_
    refine t_ck (by decide) ?_
    exact t_some ⟨rfl, g2, g3, rAt_p ha g1⟩
