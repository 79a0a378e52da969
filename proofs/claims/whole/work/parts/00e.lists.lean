/-! ===== rows of numbers as lists; sorted lists; what is left of one ===== -/
def la (f : Int → Int) (a : Int) : Nat → List Int
  | 0 => []
  | n + 1 => f a :: la f (a + 1) n
theorem la_len (f : Int → Int) : ∀ (n : Nat) (a : Int), (la f a n).length = n := by
  intro n
  induction n with
  | zero => intro a; rfl
  | succ n ih => intro a; simp [la, ih]
theorem la_app (f : Int → Int) : ∀ (m n : Nat) (a : Int), la f a (m + n) = la f a m ++ la f (a + m) n := by
  intro m
  induction m with
  | zero => intro n a; simp [la]
  | succ m ih =>
    intro n a
    rw [show m + 1 + n = (m + n) + 1 from by omega]
    show f a :: la f (a + 1) (m + n) = f a :: la f (a + 1) m ++ la f (a + ((m + 1 : Nat) : Int)) n
    rw [ih, show a + 1 + (m : Int) = a + ((m + 1 : Nat) : Int) from by omega]
    rfl
theorem la_congr {f g : Int → Int} : ∀ {n : Nat} {a : Int}, (∀ i, a ≤ i → i < a + n → f i = g i) → la f a n = la g a n := by
  intro n
  induction n with
  | zero => intro a _; rfl
  | succ n ih =>
    intro a h
    show f a :: la f (a + 1) n = g a :: la g (a + 1) n
    rw [h a (by omega) (by omega), ih (fun i h0 h1 => h i (by omega) (by omega))]
theorem la_shift {f g : Int → Int} : ∀ {n : Nat} {a b : Int}, (∀ i : Int, 0 ≤ i → i < n → f (a + i) = g (b + i)) → la f a n = la g b n := by
  intro n
  induction n with
  | zero => intro a b _; rfl
  | succ n ih =>
    intro a b h
    show f a :: la f (a + 1) n = g b :: la g (b + 1) n
    have h0 := h 0 (by omega) (by omega)
    rw [Int.add_zero, Int.add_zero] at h0
    rw [h0, ih (a := a + 1) (b := b + 1) (fun i h0 h1 => by have := h (i + 1) (by omega) (by omega); rwa [show a + 1 + i = a + (i + 1) from by omega, show b + 1 + i = b + (i + 1) from by omega])]
theorem la_snoc (f : Int → Int) (n : Nat) (a : Int) : la f a (n + 1) = la f a n ++ [f (a + n)] := by
  rw [la_app f n 1 a]; rfl
theorem la_mem {f : Int → Int} {x : Int} : ∀ {n : Nat} {a : Int}, x ∈ la f a n ↔ ∃ i : Int, a ≤ i ∧ i < a + n ∧ f i = x := by
  intro n
  induction n with
  | zero =>
    intro a
    constructor
    · intro h; cases h
    · rintro ⟨i, h1, h2, _⟩; omega
  | succ n ih =>
    intro a
    show x ∈ f a :: la f (a + 1) n ↔ _
    rw [List.mem_cons, ih]
    constructor
    · rintro (h | ⟨i, h1, h2, h3⟩)
      · exact ⟨a, by omega, by omega, h.symm⟩
      · exact ⟨i, by omega, by omega, h3⟩
    · rintro ⟨i, h1, h2, h3⟩
      by_cases hi : i = a
      · subst hi; exact Or.inl h3.symm
      · exact Or.inr ⟨i, by omega, by omega, h3⟩
theorem la_map (f g : Int → Int) : ∀ (n : Nat) (a : Int), (la f a n).map g = la (fun i => g (f i)) a n := by
  intro n
  induction n with
  | zero => intro a; rfl
  | succ n ih => intro a; show g (f a) :: (la f (a + 1) n).map g = _; rw [ih]; rfl
abbrev Srt (l : List Int) : Prop := l.Pairwise (fun a b => a ≤ b)
theorem srt_uniq {l m : List Int} (hl : Srt l) (hm : Srt m) (h : l.Perm m) : l = m :=
  List.Perm.eq_of_pairwise (le := fun a b => a ≤ b) (fun a b _ _ h1 h2 => Int.le_antisymm h1 h2) hl hm h
/-- the middle of a list, together -/
def mid (d m : Nat) (l : List Int) : Int := ((l.drop d).take m).sum
theorem mid_snoc (d m : Nat) (l : List Int) (x : Int) : mid d m (l ++ [x]) = mid d m l + if d ≤ l.length ∧ l.length < d + m then x else 0 := by
  unfold mid
  by_cases h1 : d ≤ l.length
  · rw [List.drop_append_of_le_length h1]
    by_cases h2 : l.length < d + m
    · rw [if_pos ⟨h1, h2⟩]
      rw [List.take_of_length_le (l := l.drop d) (by simp; omega), List.take_of_length_le (by simp; omega)]
      rw [List.sum_append]
      simp
    · rw [if_neg (fun q => h2 q.2), List.take_append_of_le_length (by simp; omega), Int.add_zero]
  · rw [if_neg (fun q => h1 q.1), Int.add_zero, List.drop_eq_nil_of_le (by simp; omega), List.drop_eq_nil_of_le (by omega)]
theorem mid_le {d m : Nat} {l : List Int} {lo hi : Int} (h : ∀ x ∈ l, lo ≤ x ∧ x ≤ hi) (hm : d + m ≤ l.length) : lo * m ≤ mid d m l ∧ mid d m l ≤ hi * m := by
  unfold mid
  have gen : ∀ (q : List Int), (∀ x ∈ q, lo ≤ x ∧ x ≤ hi) → lo * q.length ≤ q.sum ∧ q.sum ≤ hi * q.length := by
    intro q
    induction q with
    | nil => intro _; simp
    | cons a t ih =>
      intro hq
      have h1 := hq a (by simp)
      have h2 := ih (fun x hx => hq x (by simp [hx]))
      have e1 : lo * ((t.length + 1 : Nat) : Int) = lo * t.length + lo := by rw [Int.natCast_add, Int.mul_add]; simp
      have e2 : hi * ((t.length + 1 : Nat) : Int) = hi * t.length + hi := by rw [Int.natCast_add, Int.mul_add]; simp
      rw [List.sum_cons, List.length_cons]
      omega
  have h3 := gen ((l.drop d).take m) (fun x hx => h x (List.mem_of_mem_drop (List.mem_of_mem_take hx)))
  rw [List.length_take, List.length_drop, Nat.min_eq_left (by omega)] at h3
  exact h3
theorem perm_bnd {l m : List Int} {lo hi : Int} (h : l.Perm m) (hb : ∀ x ∈ m, lo ≤ x ∧ x ≤ hi) : ∀ x ∈ l, lo ≤ x ∧ x ≤ hi := fun x hx => hb x (h.mem_iff.mp hx)
/-- two neighbours of a row change places -/
theorem la_swap {f g : Int → Int} {a b : Int} {n : Nat} (h1 : a < b) (h2 : b < a + n) (e1 : g b = f (b - 1)) (e2 : g (b - 1) = f b) (eo : ∀ i, i ≠ b → i ≠ b - 1 → g i = f i) : (la g a n).Perm (la f a n) := by
  obtain ⟨p, hp⟩ : ∃ p : Nat, b - 1 = a + p := ⟨(b - 1 - a).toNat, by omega⟩
  obtain ⟨q, hq⟩ : ∃ q : Nat, n = p + (2 + q) := ⟨n - p - 2, by omega⟩
  subst hq
  rw [la_app, la_app, la_app, la_app]
  have x1 : la g a p = la f a p := la_congr (fun i h0 h1 => eo i (by omega) (by omega))
  have x2 : la g (a + p + ((2 : Nat) : Int)) q = la f (a + p + ((2 : Nat) : Int)) q := la_congr (fun i h0 h1 => eo i (by omega) (by omega))
  rw [x1, x2]
  have x3 : la g (a + p) 2 = [f b, f (b - 1)] := by
    show [g (a + p), g (a + p + 1)] = _
    rw [← hp, e2, show b - 1 + 1 = b from by omega, e1]
  have x4 : la f (a + p) 2 = [f (b - 1), f b] := by
    show [f (a + p), f (a + p + 1)] = _
    rw [← hp, show b - 1 + 1 = b from by omega]
  rw [x3, x4]
  exact List.Perm.append_left _ (List.Perm.append_right _ (List.Perm.swap _ _ _))
/-- a sorted row, by its places -/
theorem la_srt {f : Int → Int} : ∀ {n : Nat} {a : Int}, (∀ i j, a ≤ i → i < j → j < a + n → f i ≤ f j) → Srt (la f a n) := by
  intro n
  induction n with
  | zero => intro a _; exact List.Pairwise.nil
  | succ n ih =>
    intro a h
    refine List.Pairwise.cons (fun x hx => ?_) (ih (fun i j h1 h2 h3 => h i j (by omega) h2 (by omega)))
    obtain ⟨i, h1, h2, h3⟩ := la_mem.mp hx
    rw [← h3]
    exact h a i (by omega) (by omega) (by omega)
theorem srt_la {f : Int → Int} : ∀ {n : Nat} {a : Int}, Srt (la f a n) → ∀ i j, a ≤ i → i < j → j < a + n → f i ≤ f j := by
  intro n
  induction n with
  | zero => intro a _ i j h1 h2 h3; omega
  | succ n ih =>
    intro a h i j h1 h2 h3
    obtain ⟨h4, h5⟩ := List.pairwise_cons.mp h
    by_cases hi : i = a
    · subst hi
      exact h4 _ (la_mem.mpr ⟨j, by omega, by omega, rfl⟩)
    · exact ih h5 i j (by omega) h2 (by omega)
/-- the trimmed mean of a list that is sorted -/
def trS (drop : Int) (l : List Int) : Int :=
  let n := l.length
  let d := (min drop (((n : Int) - 1) / 2)).toNat
  (100 * mid d (n - 2 * d) l) / ((n - 2 * d : Nat) : Int)
