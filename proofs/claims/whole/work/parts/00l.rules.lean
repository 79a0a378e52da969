/-! ===== rules: codes worked from behind ===== -/
def clB (v : Int) : Int := max (-1000000) (min 1000000 v)
def rop (v a b : Int) : Int := if v = 10001 then clB (a + b) else if v = 10002 then clB (a - b) else if v = 10003 then clB (a * b) else if v = 10004 then b2 (a < b) else if v = 10005 then b2 (a = b) else if v = 10006 then b2 (b < a) else if v = 10007 then a * b else if v = 10008 then max a b else if b = 1 then a else 0
def rst (W : Int → Int) (v : Int) (st : List Int) : List Int := if v ≤ 9999 then v :: st else if 10020 ≤ v then W (v - 10020) :: st else match st with
  | b :: a :: t => rop v a b :: t
  | _ => st
def ev (W : Int → Int) : List Int → List Int → List Int
  | [], st => st
  | v :: l, st => ev W l (rst W v st)
theorem ev_app (W : Int → Int) : ∀ (l m st : List Int), ev W (l ++ m) st = ev W m (ev W l st) := by
  intro l
  induction l with
  | nil => intro m st; rfl
  | cons v l ih => intro m st; exact ih m (rst W v st)
def tstep (v : Int) (s : List Bool) : Option (List Bool) :=
  if (0 ≤ v ∧ v ≤ 9999) ∨ (10020 ≤ v ∧ v ≤ 10029) then some (true :: s)
  else match s with
    | b :: a :: t => if 10001 ≤ v ∧ v ≤ 10003 ∧ a = true ∧ b = true then some (true :: t) else if 10004 ≤ v ∧ v ≤ 10006 ∧ a = true ∧ b = true then some (false :: t) else if 10007 ≤ v ∧ v ≤ 10008 ∧ a = false ∧ b = false then some (false :: t) else if v = 10009 ∧ a = true ∧ b = false then some (true :: t) else none
    | _ => none
def okc (d : Nat) : List Int → List Bool → List Bool → Prop
  | [], s, s' => s = s'
  | v :: l, s, s' => ∃ s1, tstep v s = some s1 ∧ s1.length ≤ d ∧ okc d l s1 s'
theorem okc_app {d : Nat} : ∀ {l m : List Int} {s s1 s2 : List Bool}, okc d l s s1 → okc d m s1 s2 → okc d (l ++ m) s s2 := by
  intro l
  induction l with
  | nil => intro m s s1 s2 h1 h2; cases h1; exact h2
  | cons v l ih =>
    intro m s s1 s2 h1 h2
    obtain ⟨s3, q1, q2, q3⟩ := h1
    exact ⟨s3, q1, q2, ih q3 h2⟩
theorem tstep_app {v : Int} {s s1 : List Bool} (h : tstep v s = some s1) (u : List Bool) : tstep v (s ++ u) = some (s1 ++ u) := by
  unfold tstep at h ⊢
  by_cases c : (0 ≤ v ∧ v ≤ 9999) ∨ (10020 ≤ v ∧ v ≤ 10029)
  · rw [if_pos c] at h ⊢
    cases h
    rfl
  · rw [if_neg c] at h ⊢
    match s, h with
    | b :: a :: t, h =>
      simp only [List.cons_append] at h ⊢
      split at h
      · cases h; rename_i q; rw [if_pos q]; rfl
      · rename_i q1
        rw [if_neg q1]
        split at h
        · cases h; rename_i q; rw [if_pos q]; rfl
        · rename_i q2
          rw [if_neg q2]
          split at h
          · cases h; rename_i q; rw [if_pos q]; rfl
          · rename_i q3
            rw [if_neg q3]
            split at h
            · cases h; rename_i q; rw [if_pos q]; rfl
            · cases h
theorem okc_base {d e : Nat} {u : List Bool} (hu : d + u.length ≤ e) : ∀ {l : List Int} {s s' : List Bool}, okc d l s s' → okc e l (s ++ u) (s' ++ u) := by
  intro l
  induction l with
  | nil => intro s s' h; cases h; rfl
  | cons v l ih =>
    intro s s' h
    obtain ⟨s1, h1, h2, h3⟩ := h
    exact ⟨s1 ++ u, tstep_app h1 u, by rw [List.length_append]; omega, ih h3⟩
def vty : List Bool → List Int → Prop
  | [], [] => True
  | t :: ts, v :: vs => (if t = true then -1000000 ≤ v ∧ v ≤ 1000000 else v = 0 ∨ v = 1) ∧ vty ts vs
  | _, _ => False
theorem vty_len : ∀ {s : List Bool} {st : List Int}, vty s st → st.length = s.length := by
  intro s
  induction s with
  | nil => intro st h; cases st with
    | nil => rfl
    | cons v t => cases h
  | cons a s ih => intro st h; cases st with
    | nil => cases h
    | cons v t => rw [List.length_cons, List.length_cons, ih h.2]
theorem clB_b (v : Int) : -1000000 ≤ clB v ∧ clB v ≤ 1000000 := by
  unfold clB
  omega
theorem vty_step {W : Int → Int} (hW : ∀ w, 0 ≤ w → w < 10 → 0 ≤ W w ∧ W w ≤ 1000) {v : Int} {s s1 : List Bool} {st : List Int} (h : tstep v s = some s1) (hv : vty s st) : vty s1 (rst W v st) := by
  unfold tstep at h
  unfold rst
  by_cases c : (0 ≤ v ∧ v ≤ 9999) ∨ (10020 ≤ v ∧ v ≤ 10029)
  · rw [if_pos c] at h
    cases h
    by_cases c1 : v ≤ 9999
    · rw [if_pos c1]
      refine ⟨?_, hv⟩
      rw [if_pos rfl]
      omega
    · rw [if_neg c1, if_pos (by omega)]
      refine ⟨?_, hv⟩
      rw [if_pos rfl]
      have := hW (v - 10020) (by omega) (by omega)
      omega
  · rw [if_neg c] at h
    match s, st, h, hv with
    | b :: a :: t, y :: x :: r, h, hv =>
      obtain ⟨hy, hx, hr⟩ := hv
      simp only at h
      split at h
      · rename_i q
        cases h
        obtain ⟨q1, q2, qa, qb⟩ := q
        rw [if_neg (by omega), if_neg (by omega)]
        refine ⟨?_, hr⟩
        rw [if_pos rfl]
        unfold rop
        by_cases d1 : v = 10001
        · rw [if_pos d1]; exact clB_b _
        · rw [if_neg d1]
          by_cases d2 : v = 10002
          · rw [if_pos d2]; exact clB_b _
          · rw [if_neg d2, if_pos (by omega)]; exact clB_b _
      · split at h
        · rename_i q
          cases h
          obtain ⟨q1, q2, qa, qb⟩ := q
          rw [if_neg (by omega), if_neg (by omega)]
          refine ⟨?_, hr⟩
          rw [if_neg (by decide)]
          unfold rop
          rw [if_neg (by omega), if_neg (by omega), if_neg (by omega)]
          by_cases d1 : v = 10004
          · rw [if_pos d1]; exact b2_01 _
          · rw [if_neg d1]
            by_cases d2 : v = 10005
            · rw [if_pos d2]; exact b2_01 _
            · rw [if_neg d2, if_pos (by omega)]; exact b2_01 _
        · split at h
          · rename_i q
            cases h
            obtain ⟨q1, q2, qa, qb⟩ := q
            subst qa qb
            rw [if_neg (by decide)] at hx hy
            rw [if_neg (by omega), if_neg (by omega)]
            refine ⟨?_, hr⟩
            rw [if_neg (by decide)]
            unfold rop
            rw [if_neg (by omega), if_neg (by omega), if_neg (by omega), if_neg (by omega), if_neg (by omega), if_neg (by omega)]
            by_cases d1 : v = 10007
            · rw [if_pos d1]
              rcases hx with hx | hx <;> rcases hy with hy | hy <;> rw [hx, hy] <;> decide
            · rw [if_neg d1, if_pos (by omega)]
              rcases hx with hx | hx <;> rcases hy with hy | hy <;> rw [hx, hy] <;> decide
          · split at h
            · rename_i q
              cases h
              obtain ⟨q1, qa, qb⟩ := q
              subst qa qb
              rw [if_pos rfl] at hx
              rw [if_neg (by decide)] at hy
              rw [if_neg (by omega), if_neg (by omega)]
              refine ⟨?_, hr⟩
              rw [if_pos rfl]
              unfold rop
              rw [if_neg (by omega), if_neg (by omega), if_neg (by omega), if_neg (by omega), if_neg (by omega), if_neg (by omega), if_neg (by omega), if_neg (by omega)]
              split <;> omega
            · cases h
theorem vty_run {W : Int → Int} (hW : ∀ w, 0 ≤ w → w < 10 → 0 ≤ W w ∧ W w ≤ 1000) {d : Nat} : ∀ {l : List Int} {s s' : List Bool} {st : List Int}, okc d l s s' → vty s st → vty s' (ev W l st) := by
  intro l
  induction l with
  | nil => intro s s' st h hv; cases h; exact hv
  | cons v l ih =>
    intro s s' st h hv
    obtain ⟨s1, h1, h2, h3⟩ := h
    exact ih h3 (vty_step hW h1 hv)
/-- a wider base under the stack changes nothing -/
theorem rst_app {W : Int → Int} {v : Int} {s s1 : List Bool} {st : List Int} (h : tstep v s = some s1) (hl : st.length = s.length) (u : List Int) : rst W v (st ++ u) = rst W v st ++ u := by
  unfold tstep at h
  unfold rst
  by_cases c : v ≤ 9999
  · rw [if_pos c, if_pos c]; rfl
  · rw [if_neg c, if_neg c]
    by_cases c2 : 10020 ≤ v
    · rw [if_pos c2, if_pos c2]; rfl
    · rw [if_neg c2, if_neg c2]
      rw [if_neg (by omega)] at h
      match s, st, h, hl with
      | b :: a :: t, y :: x :: r, h, hl => rfl
theorem rst_len {W : Int → Int} {v : Int} {s s1 : List Bool} {st : List Int} (h : tstep v s = some s1) (hl : st.length = s.length) : (rst W v st).length = s1.length := by
  unfold tstep at h
  unfold rst
  by_cases c : (0 ≤ v ∧ v ≤ 9999) ∨ (10020 ≤ v ∧ v ≤ 10029)
  · rw [if_pos c] at h
    cases h
    by_cases c1 : v ≤ 9999
    · rw [if_pos c1, List.length_cons, List.length_cons, hl]
    · rw [if_neg c1, if_pos (by omega), List.length_cons, List.length_cons, hl]
  · rw [if_neg c] at h
    match s, st, h, hl with
    | b :: a :: t, y :: x :: r, h, hl =>
      simp only at h
      have hr : r.length = t.length := by
        simp only [List.length_cons] at hl
        omega
      have key : ∀ q : Bool, s1 = q :: t → ¬ v ≤ 9999 → ¬ 10020 ≤ v → (if v ≤ 9999 then v :: y :: x :: r else if 10020 ≤ v then W (v - 10020) :: y :: x :: r else rop v x y :: r).length = s1.length := fun q e n1 n2 => by
        rw [e, if_neg n1, if_neg n2, List.length_cons, List.length_cons, hr]
      split at h
      · cases h; rename_i q; exact key true rfl (by omega) (by omega)
      · split at h
        · cases h; rename_i q; exact key false rfl (by omega) (by omega)
        · split at h
          · cases h; rename_i q; exact key false rfl (by omega) (by omega)
          · split at h
            · cases h; rename_i q; exact key true rfl (by omega) (by omega)
            · cases h
theorem ev_base {W : Int → Int} {d : Nat} (u : List Int) : ∀ {l : List Int} {s s' : List Bool} {st : List Int}, okc d l s s' → st.length = s.length → ev W l (st ++ u) = ev W l st ++ u := by
  intro l
  induction l with
  | nil => intro s s' st h hl; rfl
  | cons v l ih =>
    intro s s' st h hl
    obtain ⟨s1, h1, h2, h3⟩ := h
    show ev W l (rst W v (st ++ u)) = ev W l (rst W v st) ++ u
    rw [rst_app h1 hl, ih h3 (rst_len h1 hl)]
def q_rule (P T N : Int → Int) (s r : Int) : Int := max 0 (min 9999 ((ev (q_word P T N s) (la T (489 + T (482 + r)) (T (482 + r + 1) - T (482 + r)).toNat) []).headD 0))
def bR (T : Int → Int) : Prop := ∀ r, 0 ≤ r → r < T 3 → 0 ≤ T (482 + r) ∧ T (482 + r) ≤ T (482 + r + 1) ∧ T (482 + r + 1) ≤ 600 ∧ okc 16 (la T (489 + T (482 + r)) (T (482 + r + 1) - T (482 + r)).toNat) [] [true]
