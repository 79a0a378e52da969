/-! ===== my layer (jv): memory of whole numbers, values with a tag, frames by place ===== -/
/-- the world: base of the new cells; class tables; array classes; static arrays; string constants and their rows of bytes; the script -/
abbrev jX : Type := Nat × va_G × (Nat → ClassId) × (Nat → Nat) × (Nat → Nat) × (Nat → Nat) × ((Nat × Nat × (Nat → Int32)) × Launch)
abbrev jXB (X : jX) : Nat := X.1
abbrev jXD (X : jX) : va_G := X.2.1
abbrev jXc (X : jX) : Nat → ClassId := X.2.2.1
abbrev jXt (X : jX) : Nat → Nat := X.2.2.2.1
abbrev jXk (X : jX) : Nat → Nat := X.2.2.2.2.1
abbrev jXv (X : jX) : Nat → Nat := X.2.2.2.2.2.1
abbrev jXs (X : jX) : Nat × Nat × (Nat → Int32) := X.2.2.2.2.2.2.1
abbrev jXl (X : jX) : Launch := X.2.2.2.2.2.2.2
def jro (X : jX) (a : Int) : Option Nat := if a = 0 then none else some (jXB X + a.toNat - 1)
def jcv (X : jX) (v : jV) : Value := match v.1 with
  | 1 => .int (Int32.ofInt v.2)
  | 2 => va_rf (jro X v.2)
  | 3 => .long (Int64.ofInt v.2)
  | 4 => .ref (jXs X).1
  | 5 => .ref (jXt X v.2.toNat)
  | 6 => .ref (jXk X v.2.toNat)
  | 7 => .ref (jXv X v.2.toNat)
  | 8 => .ref v.2.toNat
  | _ => .null
theorem jcv_i (X : jX) (z : Int) : jcv X (1, z) = .int (Int32.ofInt z) := rfl
theorem jcv_l (X : jX) (z : Int) : jcv X (3, z) = .long (Int64.ofInt z) := rfl
theorem jcv_a (X : jX) (a : Int) : jcv X (2, a) = va_rf (jro X a) := rfl
theorem jro_pos (X : jX) {a : Int} (h : 1 ≤ a) : jro X a = some (jXB X + a.toNat - 1) := if_neg (by omega)
theorem jcv_p (X : jX) {a : Int} (h : 1 ≤ a) : jcv X (2, a) = .ref (jXB X + a.toNat - 1) := by rw [jcv_a, jro_pos X h]; rfl
theorem jcv_cat (X : jX) (v : jV) : (jcv X v).category = 2 ↔ v.1 = 3 := by
  obtain ⟨t, z⟩ := v
  unfold jcv
  split <;> rename_i h <;> simp only at h
  · subst h; simp [Value.category]
  · subst h
    cases hr : jro X z <;> simp [va_rf, hr, Value.category]
  · subst h; simp [Value.category]
  · subst h; simp [Value.category]
  · subst h; simp [Value.category]
  · subst h; simp [Value.category]
  · subst h; simp [Value.category]
  · subst h; simp [Value.category]
  · simp only [Value.category]
    constructor
    · intro h; cases h
    · intro h9; exact absurd h9 (by assumption)
/-- the locals by place; a tag 0 says nothing -/
def jal (X : jX) : Nat → List jV → List (Nat × Value)
  | _, [] => []
  | i, v :: t => if v.1 = 0 then jal X (i + 1) t else (i, jcv X v) :: jal X (i + 1) t
theorem jal_mem {X : jX} {q : Nat × Value} : ∀ {i : Nat} {ls : List jV}, q ∈ jal X i ls ↔ ∃ (j : Nat) (w : jV), ls[j]? = some w ∧ w.1 ≠ 0 ∧ q = (i + j, jcv X w) := by
  intro i ls
  induction ls generalizing i with
  | nil => simp [jal]
  | cons v t ih =>
    unfold jal
    constructor
    · intro h
      split at h
      · obtain ⟨j, w, h1, h2, h3⟩ := ih.mp h
        exact ⟨j + 1, w, by simpa using h1, h2, by rw [h3]; congr 1; omega⟩
      · rcases List.mem_cons.mp h with h | h
        · exact ⟨0, v, rfl, by assumption, by rw [h]; rfl⟩
        · obtain ⟨j, w, h1, h2, h3⟩ := ih.mp h
          exact ⟨j + 1, w, by simpa using h1, h2, by rw [h3]; congr 1; omega⟩
    · rintro ⟨j, w, h1, h2, h3⟩
      cases j with
      | zero =>
        have hw : v = w := by simpa using h1
        subst hw
        rw [if_neg h2]
        exact List.mem_cons.mpr (Or.inl (by rw [h3]; rfl))
      | succ j =>
        have h4 : q ∈ jal X (i + 1) t := ih.mpr ⟨j, w, by simpa using h1, h2, by rw [h3]; congr 1; omega⟩
        split
        · exact h4
        · exact List.mem_cons.mpr (Or.inr h4)
def jLo (X : jX) (nL : Nat) (la : Array Slot) (ls : List jV) : Prop := lv_has la nL (jal X 0 ls)
theorem jLo.at {X : jX} {nL : Nat} {la : Array Slot} {ls : List jV} (h : jLo X nL la ls) {i : Nat} {v : jV} (hi : ls[i]? = some v) (hv : v.1 ≠ 0) : la[i]? = some (.val (jcv X v)) :=
  h.2.2 (i, jcv X v) (jal_mem.mpr ⟨i, v, hi, hv, by rw [Nat.zero_add]⟩)
/-- the place ahead holds no long -/
def jnl (ls : List jV) : Nat → Bool
  | 0 => true
  | k + 1 => (ls.getD k jN).1 != 3
theorem jnl_no {ls : List jV} {i j : Nat} {w : jV} (h : jnl ls i = true) (hj : j + 1 = i) (hw : ls[j]? = some w) : w.1 ≠ 3 := by
  subst hj
  simp only [jnl, List.getD_eq_getElem?_getD, hw, Option.getD_some, bne_iff_ne] at h
  exact h
