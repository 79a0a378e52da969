/-! ===== the calculus: an Option that stands, with what holds of it ===== -/
def jT {R : Type} (o : Option R) (Q : R → Prop) : Prop := ∃ r, o = some r ∧ Q r
theorem t_some {R : Type} {r : R} {Q : R → Prop} (h : Q r) : jT (some r) Q := ⟨r, rfl, h⟩
theorem t_eq {R : Type} {o : Option R} {r : R} {Q : R → Prop} (e : o = some r) (h : Q r) : jT o Q := ⟨r, e, h⟩
theorem t_mono {R : Type} {o : Option R} {P Q : R → Prop} (h : jT o P) (h2 : ∀ r, P r → Q r) : jT o Q := by
  obtain ⟨r, e, hp⟩ := h
  exact ⟨r, e, h2 r hp⟩
theorem t_ck {R : Type} {c : Prop} [Decidable c] {o : Option R} {Q : R → Prop} (hc : c) (h : jT o Q) : jT (jck c o) Q := by
  unfold jck
  rw [if_pos hc]
  exact h
theorem t_let {A R : Type} {a : A} {f : A → Option R} {Q : R → Prop} (h : jT (f a) Q) : jT (jlet a f) Q := h
theorem t_k {A R : Type} {a : A} {f : A → Option R} {Q : R → Prop} (h : jT (f a) Q) : jT (jk a f) Q := h
theorem t_kP {A R : Type} {a : A} {f : A → Option R} {Q : R → Prop} (P : A → Prop) (hP : P a) (h : ∀ k, P k → jT (f k) Q) : jT (jk a f) Q := h a hP
theorem t_R {R : Type} {o : Option Int} {k : Int → Option R} {Q : R → Prop} (h : jT o (fun v => jT (k v) Q)) : jT (jbR o k) Q := by
  obtain ⟨v, e, h⟩ := h
  subst e
  exact h
theorem t_Re {R : Type} {o : Option Int} {v : Int} {k : Int → Option R} {Q : R → Prop} (e : o = some v) (h : jT (k v) Q) : jT (jbR o k) Q := by
  subst e
  exact h
theorem t_V {R : Type} {o : Option jM} {k : jM → Option R} {Q : R → Prop} (h : jT o (fun v => jT (k v) Q)) : jT (jbV o k) Q := by
  obtain ⟨v, e, h⟩ := h
  subst e
  exact h
theorem t_U {R : Type} {o : Option Unit} {k : Option R} {Q : R → Prop} (h : jT o (fun _ => jT k Q)) : jT (jbU o k) Q := by
  obtain ⟨v, e, h⟩ := h
  subst e
  exact h
theorem t_W {R : Type} {o : Option (Int × jM)} {k : Int → jM → Option R} {Q : R → Prop} (h : jT o (fun v => jT (k v.1 v.2) Q)) : jT (jbW o k) Q := by
  obtain ⟨v, e, h⟩ := h
  subst e
  exact h
theorem t_We {R : Type} {o : Option (Int × jM)} {v : Int} {M : jM} {k : Int → jM → Option R} {Q : R → Prop} (e : o = some (v, M)) (h : jT (k v M) Q) : jT (jbW o k) Q := by
  subst e
  exact h
theorem t_Ve {R : Type} {o : Option jM} {v : jM} {k : jM → Option R} {Q : R → Prop} (e : o = some v) (h : jT (k v) Q) : jT (jbV o k) Q := by
  subst e
  exact h
theorem t_T3 {R : Type} {o : Option (Int × Int × jM)} {k : Int → Int → jM → Option R} {Q : R → Prop} (h : jT o (fun v => jT (k v.1 v.2.1 v.2.2) Q)) : jT (jbT3 o k) Q := by
  obtain ⟨v, e, h⟩ := h
  subst e
  exact h
theorem t_T2 {R : Type} {o : Option (Int × Int)} {k : Int → Int → Option R} {Q : R → Prop} (h : jT o (fun v => jT (k v.1 v.2) Q)) : jT (jbT2 o k) Q := by
  obtain ⟨v, e, h⟩ := h
  subst e
  exact h
theorem t_if {R : Type} {c : Prop} [Decidable c] {a b : Option R} {Q : R → Prop} (h1 : c → jT a Q) (h2 : ¬ c → jT b Q) : jT (if c then a else b) Q := by
  by_cases hc : c
  · rw [if_pos hc]; exact h1 hc
  · rw [if_neg hc]; exact h2 hc
theorem t_pos {R : Type} {c : Prop} [Decidable c] {a b : Option R} {Q : R → Prop} (hc : c) (h1 : jT a Q) : jT (if c then a else b) Q := by
  rw [if_pos hc]; exact h1
theorem t_neg {R : Type} {c : Prop} [Decidable c] {a b : Option R} {Q : R → Prop} (hc : ¬ c) (h1 : jT b Q) : jT (if c then a else b) Q := by
  rw [if_neg hc]; exact h1
theorem t_out {R : Type} {o : Option R} {Q : R → Prop} {r : R} (h : jT o (fun x => x = r ∧ Q x)) : o = some r ∧ Q r := by
  obtain ⟨x, e, e2, h⟩ := h
  subst e2
  exact ⟨e, h⟩
theorem t_get {R : Type} {o : Option R} {r : R} (h : jT o (fun x => x = r)) : o = some r := by
  obtain ⟨x, e, e2⟩ := h
  subst e2
  exact e
/-! loops: I holds at the head, mu falls -/
theorem t_lp1 {A1 R : Type} {F : (A1 → Option R) → A1 → Option R} {Q : R → Prop} (I : A1 → Prop) (mu : A1 → Nat)
    (hb : ∀ (self : A1 → Option R) (x1 : A1), I x1 → (∀ y1, I y1 → mu y1 < mu x1 → jT (self y1) Q) → jT (F self x1) Q) :
    ∀ (f : Nat) (x1 : A1), mu x1 < f → I x1 → jT (jlp1 F f x1) Q := by
  intro f
  induction f with
  | zero => intro x1 h; omega
  | succ f ih => intro x1 h hI; exact hb (jlp1 F f) x1 hI (fun y1 hy hm => ih y1 (by omega) hy)
theorem t_lp2 {A1 A2 R : Type} {F : (A1 → A2 → Option R) → A1 → A2 → Option R} {Q : R → Prop} (I : A1 → A2 → Prop) (mu : A1 → A2 → Nat)
    (hb : ∀ (self : A1 → A2 → Option R) (x1 : A1) (x2 : A2), I x1 x2 → (∀ y1 y2, I y1 y2 → mu y1 y2 < mu x1 x2 → jT (self y1 y2) Q) → jT (F self x1 x2) Q) :
    ∀ (f : Nat) (x1 : A1) (x2 : A2), mu x1 x2 < f → I x1 x2 → jT (jlp2 F f x1 x2) Q := by
  intro f
  induction f with
  | zero => intro x1 x2 h; omega
  | succ f ih => intro x1 x2 h hI; exact hb (jlp2 F f) x1 x2 hI (fun y1 y2 hy hm => ih y1 y2 (by omega) hy)
theorem t_lp3 {A1 A2 A3 R : Type} {F : (A1 → A2 → A3 → Option R) → A1 → A2 → A3 → Option R} {Q : R → Prop} (I : A1 → A2 → A3 → Prop) (mu : A1 → A2 → A3 → Nat)
    (hb : ∀ (self : A1 → A2 → A3 → Option R) (x1 : A1) (x2 : A2) (x3 : A3), I x1 x2 x3 → (∀ y1 y2 y3, I y1 y2 y3 → mu y1 y2 y3 < mu x1 x2 x3 → jT (self y1 y2 y3) Q) → jT (F self x1 x2 x3) Q) :
    ∀ (f : Nat) (x1 : A1) (x2 : A2) (x3 : A3), mu x1 x2 x3 < f → I x1 x2 x3 → jT (jlp3 F f x1 x2 x3) Q := by
  intro f
  induction f with
  | zero => intro x1 x2 x3 h; omega
  | succ f ih => intro x1 x2 x3 h hI; exact hb (jlp3 F f) x1 x2 x3 hI (fun y1 y2 y3 hy hm => ih y1 y2 y3 (by omega) hy)
theorem t_lp4 {A1 A2 A3 A4 R : Type} {F : (A1 → A2 → A3 → A4 → Option R) → A1 → A2 → A3 → A4 → Option R} {Q : R → Prop} (I : A1 → A2 → A3 → A4 → Prop) (mu : A1 → A2 → A3 → A4 → Nat)
    (hb : ∀ (self : A1 → A2 → A3 → A4 → Option R) (x1 : A1) (x2 : A2) (x3 : A3) (x4 : A4), I x1 x2 x3 x4 → (∀ y1 y2 y3 y4, I y1 y2 y3 y4 → mu y1 y2 y3 y4 < mu x1 x2 x3 x4 → jT (self y1 y2 y3 y4) Q) → jT (F self x1 x2 x3 x4) Q) :
    ∀ (f : Nat) (x1 : A1) (x2 : A2) (x3 : A3) (x4 : A4), mu x1 x2 x3 x4 < f → I x1 x2 x3 x4 → jT (jlp4 F f x1 x2 x3 x4) Q := by
  intro f
  induction f with
  | zero => intro x1 x2 x3 x4 h; omega
  | succ f ih => intro x1 x2 x3 x4 h hI; exact hb (jlp4 F f) x1 x2 x3 x4 hI (fun y1 y2 y3 y4 hy hm => ih y1 y2 y3 y4 (by omega) hy)
theorem jfuel_eq : jfuel = 1000000 := rfl
/-! whole numbers of 32 bits -/
theorem pw_of {z : Int} (h1 : -2147483648 ≤ z) (h2 : z ≤ 2147483647) : jw z = z := by
  unfold jw
  apply Int.bmod_eq_of_le <;> omega
theorem pwl_of {z : Int} (h1 : -9223372036854775808 ≤ z) (h2 : z ≤ 9223372036854775807) : jwl z = z := by
  unfold jwl
  apply Int.bmod_eq_of_le <;> omega
theorem pw_b (z : Int) : -2147483648 ≤ jw z ∧ jw z ≤ 2147483647 := by
  have h1 := Int.le_bmod (x := z) (m := 4294967296) (by decide)
  have h2 := Int.bmod_lt (x := z) (m := 4294967296) (by decide)
  unfold jw
  omega
theorem pst_s (M : jM) (c i v : Int) : jst M c i v c i = v := if_pos ⟨rfl, rfl⟩
theorem pst_c {M : jM} {c i v a j : Int} (h : a ≠ c) : jst M c i v a j = M a j := if_neg (fun q => h q.1)
theorem pst_i {M : jM} {c i v a j : Int} (h : j ≠ i) : jst M c i v a j = M a j := if_neg (fun q => h q.2)
theorem pst_f {M : jM} {c i v a : Int} (h : a ≠ c) : jst M c i v a = M a := funext (fun _ => pst_c h)
theorem pst_a {M : jM} {c i v j : Int} : jst M c i v c j = if j = i then v else M c j := by
  unfold jst
  by_cases h : j = i
  · rw [if_pos ⟨rfl, h⟩, if_pos h]
  · rw [if_neg (fun q => h q.2), if_neg h]
/-! sums and counts -/
def sS (f : Int → Int) : Nat → Int
  | 0 => 0
  | n + 1 => sS f n + f (n : Int)
theorem sS_congr {f g : Int → Int} : ∀ {n : Nat}, (∀ i : Int, 0 ≤ i → i < n → f i = g i) → sS f n = sS g n := by
  intro n
  induction n with
  | zero => intro _; rfl
  | succ n ih =>
    intro h
    unfold sS
    rw [ih (fun i h0 h1 => h i h0 (by omega)), h n (by omega) (by omega)]
theorem sS_b {f : Int → Int} {lo hi : Int} : ∀ {n : Nat}, (∀ i : Int, 0 ≤ i → i < n → lo ≤ f i ∧ f i ≤ hi) → lo * n ≤ sS f n ∧ sS f n ≤ hi * n := by
  intro n
  induction n with
  | zero => intro _; simp [sS]
  | succ n ih =>
    intro h
    have h1 := ih (fun i h0 h1 => h i h0 (by omega))
    have h2 := h n (by omega) (by omega)
    have e1 : lo * ((n + 1 : Nat) : Int) = lo * n + lo := by rw [Int.natCast_add, Int.mul_add]; simp
    have e2 : hi * ((n + 1 : Nat) : Int) = hi * n + hi := by rw [Int.natCast_add, Int.mul_add]; simp
    unfold sS
    omega
/-- a sum up to a whole number -/
def sZ (f : Int → Int) (z : Int) : Int := sS f z.toNat
theorem sZ_0 (f : Int → Int) : sZ f 0 = 0 := rfl
theorem sZ_s {f : Int → Int} {z : Int} (h : 0 ≤ z) : sZ f (z + 1) = sZ f z + f z := by
  unfold sZ
  obtain ⟨n, rfl⟩ := Int.eq_ofNat_of_zero_le h
  rw [show ((n : Int) + 1).toNat = n + 1 from by omega, show ((n : Int)).toNat = n from by omega]
  rfl
theorem sZ_congr {f g : Int → Int} {z : Int} (h : ∀ i : Int, 0 ≤ i → i < z → f i = g i) : sZ f z = sZ g z :=
  sS_congr (fun i h0 h1 => h i h0 (by omega))
theorem sZ_b {f : Int → Int} {lo hi z : Int} (hz : 0 ≤ z) (h : ∀ i : Int, 0 ≤ i → i < z → lo ≤ f i ∧ f i ≤ hi) : lo * z ≤ sZ f z ∧ sZ f z ≤ hi * z := by
  have := sS_b (f := f) (lo := lo) (hi := hi) (n := z.toNat) (fun i h0 h1 => h i h0 (by omega))
  unfold sZ
  rwa [Int.toNat_of_nonneg hz] at this
def b2 (c : Prop) [Decidable c] : Int := if c then 1 else 0
theorem b2_t {c : Prop} [Decidable c] (h : c) : b2 c = 1 := if_pos h
theorem b2_f {c : Prop} [Decidable c] (h : ¬ c) : b2 c = 0 := if_neg h
theorem b2_c {c : Prop} [Decidable c] : b2 c = 0 ∧ ¬ c ∨ b2 c = 1 ∧ c := by
  by_cases h : c
  · exact Or.inr ⟨if_pos h, h⟩
  · exact Or.inl ⟨if_neg h, h⟩
theorem b2_b (c : Prop) [Decidable c] : 0 ≤ b2 c ∧ b2 c ≤ 1 := by
  rcases b2_c (c := c) with ⟨h, _⟩ | ⟨h, _⟩ <;> omega
theorem b2_congr {c d : Prop} [Decidable c] [Decidable d] (h : c ↔ d) : b2 c = b2 d := by
  unfold b2
  by_cases hc : c
  · rw [if_pos hc, if_pos (h.mp hc)]
  · rw [if_neg hc, if_neg (fun q => hc (h.mpr q))]
