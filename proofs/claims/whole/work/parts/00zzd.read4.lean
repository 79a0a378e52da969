/-! ===== reading: words ===== -/
/-- the word at p -/
def wd (tx : Int → Int) (n p : Int) : List Int := (List.range (rn isLt tx n p - p).toNat).map (fun i : Nat => tx (p + (i : Int)))
def sw (k : Int) : List Int := (jsB.getD k.toNat []).map (fun c : Nat => (c : Int))
theorem wd_len (tx : Int → Int) (n p : Int) : (wd tx n p).length = (rn isLt tx n p - p).toNat := by
  unfold wd
  rw [List.length_map, List.length_range]
theorem wd_get {tx : Int → Int} {n p : Int} {i : Nat} (h : i < (rn isLt tx n p - p).toNat) : (wd tx n p).getD i 0 = tx (p + (i : Int)) := by
  unfold wd
  rw [List.getD_eq_getElem?_getD, List.getElem?_map, List.getElem?_range h]
  rfl
theorem sw_len (k : Int) : ((sw k).length : Int) = jsln k := by
  unfold sw jsln
  rw [List.length_map]
theorem sw_get {k i : Int} (h : 0 ≤ i ∧ i < jsln k) : jsch k i = (sw k).getD i.toNat 0 := by
  have hl : i.toNat < (jsB.getD k.toNat []).length := by
    have := h.2
    unfold jsln at this
    omega
  unfold sw jsch
  rw [List.getD_eq_getElem?_getD, List.getD_eq_getElem?_getD (l := List.map _ _), List.getElem?_map, List.getElem?_eq_getElem hl]
  rfl
theorem ls_ext {l m : List Int} (h : l.length = m.length) (h2 : ∀ i : Nat, i < l.length → l.getD i 0 = m.getD i 0) : l = m := by
  apply List.ext_getElem h
  intro i q0 q1
  have := h2 i q0
  rw [List.getD_eq_getElem?_getD, List.getD_eq_getElem?_getD, List.getElem?_eq_getElem q0, List.getElem?_eq_getElem q1] at this
  exact this
/-- the loop that seeks a word among words with blanks behind them -/
def amF (w : List Int) : List Int → Int → Int → Int
  | [], _, _ => -1
  | c :: cs, idx, j => if c = 32 then (if j = (w.length : Int) then idx else amF w cs (idx + 1) 0) else if j = -1 then amF w cs idx (-1) else if (w.length : Int) ≤ j then amF w cs idx (-1) else if w.getD j.toNat 0 = c then amF w cs idx (j + 1) else amF w cs idx (-1)
theorem amF_no {w : List Int} : ∀ (u rest : List Int) (idx : Int), (∀ c ∈ u, c ≠ 32) → amF w (u ++ 32 :: rest) idx (-1) = amF w rest (idx + 1) 0 := by
  intro u
  induction u with
  | nil =>
    intro rest idx _
    show (if (32 : Int) = 32 then (if (-1 : Int) = (w.length : Int) then idx else amF w rest (idx + 1) 0) else _) = _
    rw [if_pos rfl, if_neg (by omega)]
  | cons c u ih =>
    intro rest idx h
    have hc := h c (List.mem_cons_self ..)
    show (if c = 32 then _ else if (-1 : Int) = -1 then amF w (u ++ 32 :: rest) idx (-1) else _) = _
    rw [if_neg hc, if_pos rfl]
    exact ih rest idx (fun x hx => h x (List.mem_cons_of_mem _ hx))
theorem amF_yes : ∀ (u rest w1 w2 : List Int) (idx : Int), (∀ c ∈ u, c ≠ 32) → amF (w1 ++ w2) (u ++ 32 :: rest) idx (w1.length : Int) = if w2 = u then idx else amF (w1 ++ w2) rest (idx + 1) 0 := by
  intro u
  induction u with
  | nil =>
    intro rest w1 w2 idx _
    show (if (32 : Int) = 32 then (if (w1.length : Int) = ((w1 ++ w2).length : Int) then idx else amF (w1 ++ w2) rest (idx + 1) 0) else _) = _
    rw [if_pos rfl, List.length_append]
    cases w2 with
    | nil => rw [if_pos (by show (w1.length : Int) = ((w1.length + 0 : Nat) : Int); omega), if_pos rfl]
    | cons x w2 => rw [if_neg (by rw [List.length_cons]; omega), if_neg (by intro h; cases h)]
  | cons c u ih =>
    intro rest w1 w2 idx h
    have hc := h c (List.mem_cons_self ..)
    have hu : ∀ x ∈ u, x ≠ 32 := fun x hx => h x (List.mem_cons_of_mem _ hx)
    show (if c = 32 then _ else if (w1.length : Int) = -1 then _ else if ((w1 ++ w2).length : Int) ≤ (w1.length : Int) then amF (w1 ++ w2) (u ++ 32 :: rest) idx (-1) else if (w1 ++ w2).getD (w1.length : Int).toNat 0 = c then amF (w1 ++ w2) (u ++ 32 :: rest) idx ((w1.length : Int) + 1) else amF (w1 ++ w2) (u ++ 32 :: rest) idx (-1)) = _
    rw [if_neg hc, if_neg (by omega), List.length_append]
    cases w2 with
    | nil => rw [if_pos (by show ((w1.length + 0 : Nat) : Int) ≤ _; omega), if_neg (by intro h; cases h), amF_no u rest idx hu]
    | cons x w2 =>
      rw [if_neg (by rw [List.length_cons]; omega)]
      have hg : (w1 ++ x :: w2).getD (w1.length : Int).toNat 0 = x := by
        rw [Int.toNat_natCast, List.getD_eq_getElem?_getD, List.getElem?_append_right (Nat.le_refl _), Nat.sub_self]
        rfl
      rw [hg]
      by_cases cx : x = c
      · rw [if_pos cx]
        subst cx
        have := ih rest (w1 ++ [x]) w2 idx hu
        rw [List.append_assoc, List.length_append] at this
        rw [show (w1.length : Int) + 1 = ((w1.length + [x].length : Nat) : Int) from by rw [List.length_singleton]; omega]
        rw [show w1 ++ x :: w2 = w1 ++ ([x] ++ w2) from rfl, this]
        by_cases cw : w2 = u
        · rw [if_pos cw, if_pos (by rw [cw])]
        · rw [if_neg cw, if_neg (by intro h; injection h with _ h2; exact cw h2)]
      · rw [if_neg cx, if_neg (by intro h; injection h with h1 _; exact cx h1), amF_no u rest idx hu]
/-- one word of the list -/
theorem amF_w {w u rest : List Int} {idx : Int} (h : ∀ c ∈ u, c ≠ 32) : amF w (u ++ 32 :: rest) idx 0 = if w = u then idx else amF w rest (idx + 1) 0 := amF_yes u rest [] w idx h
