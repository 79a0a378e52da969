/-! ===== pure words: values, memory, tables, words of the models ===== -/
abbrev jV : Type := Nat × Int
abbrev jM : Type := Int → Int → Int
abbrev jI (z : Int) : jV := (1, z)
abbrev jA (a : Int) : jV := (2, a)
abbrev jJ (z : Int) : jV := (3, z)
abbrev jS (k : Int) : jV := (6, k)
abbrev jN : jV := (0, 0)
def jw (z : Int) : Int := z.bmod 4294967296
def jwl (z : Int) : Int := z.bmod 18446744073709551616
def jb8 (z : Int) : Int := z.bmod 256
def jst (M : jM) (c i v : Int) : jM := fun a j => if a = c ∧ j = i then v else M a j
def jnd (a b : Int) : Int := (Int32.ofInt a &&& Int32.ofInt b).toInt
def jor (a b : Int) : Int := (Int32.ofInt a ||| Int32.ofInt b).toInt
def jxr (a b : Int) : Int := (Int32.ofInt a ^^^ Int32.ofInt b).toInt
def jsl (a b : Int) : Int := (Int32.ofInt a <<< (Int32.ofInt b &&& 31)).toInt
def jsr (a b : Int) : Int := (Int32.ofInt a >>> (Int32.ofInt b &&& 31)).toInt
def jus (a b : Int) : Int := ((Int32.ofInt a).toUInt32 >>> ((Int32.ofInt b).toUInt32 &&& Int32.toUInt32 31)).toInt32.toInt
def jlnd (a b : Int) : Int := (Int64.ofInt a &&& Int64.ofInt b).toInt
def jlor (a b : Int) : Int := (Int64.ofInt a ||| Int64.ofInt b).toInt
def jlsl (a b : Int) : Int := (Int64.ofInt a <<< ((Int32.ofInt b).toInt64 &&& 63)).toInt
def jlsr (a b : Int) : Int := (Int64.ofInt a >>> ((Int32.ofInt b).toInt64 &&& 63)).toInt
def jcmp (a b : Int) : Int := if jwl a < jwl b then -1 else if jwl a = jwl b then 0 else 1
def jshp : List (Nat × Nat) := [(99, 0), (9, 9), (12, 600), (1, 8), (12, 7), (2, 4), (12, 60), (12, 10), (12, 10), (12, 10), (5, 7), (12, 600), (12, 6), (12, 6), (12, 6), (12, 16), (2, 4), (12, 36), (12, 6), (14, 6), (6, 8), (12, 12), (12, 12), (12, 36), (12, 12), (12, 135), (6, 8), (12, 12), (12, 12), (12, 36), (12, 12), (12, 135), (6, 8), (12, 12), (12, 12), (12, 36), (12, 12), (12, 135), (6, 8), (12, 12), (12, 12), (12, 36), (12, 12), (12, 135), (6, 8), (12, 12), (12, 12), (12, 36), (12, 12), (12, 135), (6, 8), (12, 12), (12, 12), (12, 36), (12, 12), (12, 135), (1, 8), (12, 7), (2, 4), (12, 60), (12, 10), (12, 10), (12, 10), (5, 7), (12, 600), (12, 6), (12, 6), (12, 6), (12, 16), (2, 4), (12, 36), (12, 6), (14, 6), (6, 8), (12, 12), (12, 12), (12, 36), (12, 12), (12, 135), (6, 8), (12, 12), (12, 12), (12, 36), (12, 12), (12, 135), (6, 8), (12, 12), (12, 12), (12, 36), (12, 12), (12, 135), (6, 8), (12, 12), (12, 12), (12, 36), (12, 12), (12, 135), (6, 8), (12, 12), (12, 12), (12, 36), (12, 12), (12, 135), (6, 8), (12, 12), (12, 12), (12, 36), (12, 12), (12, 135), (4, 9), (7, 7), (15, 6), (12, 6), (12, 54), (12, 6), (12, 6), (12, 6), (8, 15), (12, 12), (12, 12), (12, 12), (12, 10), (12, 10), (12, 135), (8, 15), (12, 12), (12, 12), (12, 12), (12, 10), (12, 10), (12, 135), (8, 15), (12, 12), (12, 12), (12, 12), (12, 10), (12, 10), (12, 135), (8, 15), (12, 12), (12, 12), (12, 12), (12, 10), (12, 10), (12, 135), (8, 15), (12, 12), (12, 12), (12, 12), (12, 10), (12, 10), (12, 135), (8, 15), (12, 12), (12, 12), (12, 12), (12, 10), (12, 10), (12, 135), (0, 6), (12, 16), (12, 16), (12, 16), (12, 16), (3, 2), (12, 420), (10, 32), (11, 600), (12, 5), (12, 1089), (12, 971), (12, 1089), (12, 971), (12, 9), (13, 600), (12, 6), (12, 6), (12, 54), (12, 15536), (11, 1200), (13, 1)]
def jkd (a : Int) : Nat := (jshp.getD a.toNat (99, 0)).1
def jln (a : Int) : Int := ((jshp.getD a.toNat (99, 0)).2 : Nat)
def jsB : List (List Nat) := [[101, 108, 101, 109, 101, 110, 116, 32, 106, 117, 100, 103, 101, 115, 32, 100, 101, 100, 117, 99, 116, 32, 115, 107, 97, 116, 101, 114, 32, 100, 111, 32, 115, 104, 111, 119, 32, 108, 97, 115, 116, 115, 32, 100, 114, 111, 112, 32, 104, 97, 108, 102, 32, 108, 97, 116, 101, 32, 114, 101, 112, 101, 97, 116, 32, 102, 97, 99, 116, 111, 114, 32], [106, 117, 109, 112, 32, 115, 112, 105, 110, 32, 115, 116, 101, 112, 115, 32], [102, 97, 108, 108, 115, 32, 116, 105, 109, 101, 32, 116, 114, 105, 101, 115, 32, 106, 117, 109, 112, 115, 32, 115, 112, 105, 110, 115, 32, 115, 116, 101, 112, 115, 32, 108, 97, 116, 101, 32, 115, 116, 114, 117, 99, 107, 32, 117, 110, 100, 101, 114, 115, 32, 101, 100, 103, 101, 115, 32], [105, 102, 32], [97, 110, 100, 32, 111, 114, 32], [117, 110, 100, 101, 114, 32, 101, 100, 103, 101, 32, 102, 97, 108, 108, 32], [116, 104, 101, 32, 116, 101, 120, 116, 32, 105, 115, 32, 119, 114, 111, 110, 103], [116, 104, 101, 114, 101, 32, 105, 115, 32, 110, 111, 32, 115, 117, 99, 104, 32, 115, 107, 97, 116, 101, 114], [116, 104, 101, 114, 101, 32, 105, 115, 32, 110, 111, 32, 115, 117, 99, 104, 32, 101, 108, 101, 109, 101, 110, 116], [97, 110, 32, 101, 108, 101, 109, 101, 110, 116, 32, 104, 97, 115, 32, 110, 111, 32, 115, 117, 99, 104, 32, 119, 104, 97, 116], [116, 104, 101, 114, 101, 32, 105, 115, 32, 110, 111, 32, 115, 117, 99, 104, 32, 97, 116, 116, 101, 109, 112, 116], [97, 110, 32, 97, 116, 116, 101, 109, 112, 116, 32, 104, 97, 115, 32, 110, 111, 32, 115, 117, 99, 104, 32, 119, 104, 97, 116], [116, 104, 101, 114, 101, 32, 105, 115, 32, 110, 111, 32, 115, 117, 99, 104, 32, 106, 117, 100, 103, 101], [116, 104, 101, 114, 101, 32, 105, 115, 32, 110, 111, 32, 115, 117, 99, 104, 32, 99, 111, 109, 112, 111, 110, 101, 110, 116], [97, 32, 115, 107, 97, 116, 101, 114, 32, 104, 97, 115, 32, 110, 111, 32, 115, 117, 99, 104, 32, 119, 104, 97, 116], [116, 104, 101, 114, 101, 32, 105, 115, 32, 110, 111, 32, 115, 117, 99, 104, 32, 114, 117, 108, 101], [116, 104, 97, 116, 32, 105, 115, 32, 110, 111, 32, 103, 114, 97, 100, 101], [116, 104, 97, 116, 32, 105, 115, 32, 110, 111, 32, 109, 97, 114, 107], [116, 104, 97, 116, 32, 105, 115, 32, 110, 111, 32, 99, 97, 108, 108], [116, 104, 97, 116, 32, 105, 115, 32, 110, 111, 32, 98, 97, 115, 101], [116, 104, 101, 114, 101, 32, 105, 115, 32, 110, 111, 32, 115, 117, 99, 104, 32, 115, 101, 116, 116, 105, 110, 103], [116, 104, 101, 32, 115, 101, 116, 116, 105, 110, 103, 32, 105, 115, 32, 111, 117, 116, 32, 111, 102, 32, 105, 116, 115, 32, 98, 111, 117, 110, 100, 115], [116, 104, 101, 114, 101, 32, 105, 115, 32, 110, 111, 32, 111, 116, 104, 101, 114, 32, 106, 117, 100, 103, 101], [116, 104, 101, 114, 101, 32, 105, 115, 32, 110, 111, 32, 112, 97, 110, 101, 108, 32, 111, 102, 32, 115, 111, 32, 109, 97, 110, 121], [116, 104, 97, 116, 32, 105, 115, 32, 110, 111, 32, 112, 97, 110, 101, 108], [116, 104, 101, 121, 32, 97, 114, 101, 32, 111, 110, 101], [110, 111, 32, 103, 114, 97, 100, 101, 32, 105, 115, 32, 103, 114, 101, 97, 116, 101, 114], [116, 104, 97, 116, 32, 105, 115, 32, 110, 111, 32, 110, 117, 109, 98, 101, 114, 32, 111, 102, 32, 97, 116, 116, 101, 109, 112, 116, 115], [116, 104, 97, 116, 32, 105, 115, 32, 110, 111, 32, 116, 105, 109, 101], [101, 108, 101, 109, 101, 110, 116], [106, 117, 109, 112], [115, 112, 105, 110], [115, 116, 101, 112, 115], [106, 117, 100, 103, 101, 115], [100, 114, 111, 112], [102, 97, 99, 116, 111, 114], [104, 97, 108, 102], [108, 97, 116, 101], [114, 101, 112, 101, 97, 116], [100, 101, 100, 117, 99, 116], [102, 97, 108, 108, 115], [116, 105, 109, 101], [116, 114, 105, 101, 115], [106, 117, 109, 112, 115], [115, 112, 105, 110, 115], [115, 116, 114, 117, 99, 107], [117, 110, 100, 101, 114, 115], [101, 100, 103, 101, 115], [105, 102], [97, 110, 100], [111, 114], [115, 107, 97, 116, 101, 114], [100, 111], [117, 110, 100, 101, 114], [101, 100, 103, 101], [102, 97, 108, 108], [115, 104, 111, 119], [108, 97, 115, 116, 115]]
def jsln (k : Int) : Int := ((jsB.getD k.toNat []).length : Nat)
def jsch (k i : Int) : Int := ((jsB.getD k.toNat []).getD i.toNat 0 : Nat)
def jsv (k : Nat) : List Int := if k = 0 then [0, 0, 0, 1, 0, 0, 0] else if k = 1 then [3, 600, 50, 3, 300, 300, 300] else [1, 120, 10, 2, 100, 100, 100]
def jstt (k : Nat) (i : Int) : Int := (jsv k).getD i.toNat 0
def jcp (M : jM) (src sp dst dp n : Int) : jM := fun c i => if c = dst ∧ dp ≤ i ∧ i < dp + n then M src (sp + (i - dp)) else M c i
def jcpT (M : jM) (k : Nat) (dst : Int) : jM := fun c i => if c = dst ∧ 0 ≤ i ∧ i < 7 then jstt k i else M c i
/-! ===== the words in which a method's function is written ===== -/
def jfuel : Nat := 1000000
def jck {R : Type} (c : Prop) [Decidable c] (o : Option R) : Option R := if c then o else none
def jlet {A B : Type} (a : A) (f : A → B) : B := f a
def jk {A B : Type} (a : A) (f : A → B) : B := f a
def jbR {R : Type} (o : Option Int) (k : Int → Option R) : Option R := match o with
  | some v => k v
  | none => none
def jbV {R : Type} (o : Option jM) (k : jM → Option R) : Option R := match o with
  | some v => k v
  | none => none
def jbU {R : Type} (o : Option Unit) (k : Option R) : Option R := match o with
  | some _ => k
  | none => none
def jbW {R : Type} (o : Option (Int × jM)) (k : Int → jM → Option R) : Option R := match o with
  | some v => k v.1 v.2
  | none => none
theorem jck_some {R : Type} {c : Prop} [Decidable c] {o : Option R} {r : R} (h : jck c o = some r) : c ∧ o = some r := by
  unfold jck at h
  split at h
  · exact ⟨by assumption, h⟩
  · cases h
theorem jlet_some {A R : Type} {a : A} {f : A → Option R} {r : R} (h : jlet a f = some r) : ∃ y, y = a ∧ f y = some r := ⟨a, rfl, h⟩
theorem jk_some {A R : Type} {a : A} {f : A → Option R} {r : R} {P : A → Prop} (h : jk a f = some r) (hP : P a) : ∃ k, P k ∧ f k = some r := ⟨a, hP, h⟩
theorem jbR_some {R : Type} {o : Option Int} {k : Int → Option R} {r : R} (h : jbR o k = some r) : ∃ v, o = some v ∧ k v = some r := by
  cases o with
  | none => cases h
  | some v => exact ⟨v, rfl, h⟩
theorem jbV_some {R : Type} {o : Option jM} {k : jM → Option R} {r : R} (h : jbV o k = some r) : ∃ v, o = some v ∧ k v = some r := by
  cases o with
  | none => cases h
  | some v => exact ⟨v, rfl, h⟩
theorem jbU_some {R : Type} {o : Option Unit} {k : Option R} {r : R} (h : jbU o k = some r) : o = some () ∧ k = some r := by
  cases o with
  | none => cases h
  | some v => exact ⟨rfl, h⟩
theorem jbW_some {R : Type} {o : Option (Int × jM)} {k : Int → jM → Option R} {r : R} (h : jbW o k = some r) : ∃ v M, o = some (v, M) ∧ k v M = some r := by
  cases o with
  | none => cases h
  | some v => exact ⟨v.1, v.2, rfl, h⟩
theorem jit_pos {R : Type} {c : Prop} [Decidable c] {a b : Option R} {r : R} (hc : c) (h : (if c then a else b) = some r) : a = some r := by rwa [if_pos hc] at h
theorem jit_neg {R : Type} {c : Prop} [Decidable c] {a b : Option R} {r : R} (hc : ¬ c) (h : (if c then a else b) = some r) : b = some r := by rwa [if_neg hc] at h
theorem jit_or {R : Type} {c : Prop} [Decidable c] {a b : Option R} {r : R} (h : (if c then a else b) = some r) : (c ∧ a = some r) ∨ (¬ c ∧ b = some r) := by
  by_cases hc : c
  · rw [if_pos hc] at h; exact Or.inl ⟨hc, h⟩
  · rw [if_neg hc] at h; exact Or.inr ⟨hc, h⟩
theorem jrR {A : Type} {a b : A} (h : some a = some b) : a = b := Option.some.inj h
theorem jr1 {A B : Type} {a c : A} {b d : B} (h : some (a, b) = some (c, d)) : a = c := (Prod.mk.inj (Option.some.inj h)).1
theorem jr2 {A B : Type} {a c : A} {b d : B} (h : some (a, b) = some (c, d)) : b = d := (Prod.mk.inj (Option.some.inj h)).2
theorem jw1 : jw 1 = 1 := by decide
def jlp1 {A1 R : Type} (F : (A1 → Option R) → A1 → Option R) : Nat → A1 → Option R
  | 0, _ => none
  | f + 1, x1 => F (jlp1 F f) x1
theorem jlp1_ind {A1 R : Type} {F : (A1 → Option R) → A1 → Option R} {r : R} {P : A1 → Prop} (hb : ∀ (self : A1 → Option R) (x1 : A1), (∀ x1, self x1 = some r → P x1) → F self x1 = some r → P x1) : ∀ (f : Nat) (x1 : A1), jlp1 F f x1 = some r → P x1 := by
  intro f
  induction f with
  | zero => intro x1 h; cases h
  | succ f ih => intro x1 h; exact hb (jlp1 F f) x1 ih h
def jlp2 {A1 A2 R : Type} (F : (A1 → A2 → Option R) → A1 → A2 → Option R) : Nat → A1 → A2 → Option R
  | 0, _, _ => none
  | f + 1, x1, x2 => F (jlp2 F f) x1 x2
theorem jlp2_ind {A1 A2 R : Type} {F : (A1 → A2 → Option R) → A1 → A2 → Option R} {r : R} {P : A1 → A2 → Prop} (hb : ∀ (self : A1 → A2 → Option R) (x1 : A1) (x2 : A2), (∀ x1 x2, self x1 x2 = some r → P x1 x2) → F self x1 x2 = some r → P x1 x2) : ∀ (f : Nat) (x1 : A1) (x2 : A2), jlp2 F f x1 x2 = some r → P x1 x2 := by
  intro f
  induction f with
  | zero => intro x1 x2 h; cases h
  | succ f ih => intro x1 x2 h; exact hb (jlp2 F f) x1 x2 ih h
def jlp3 {A1 A2 A3 R : Type} (F : (A1 → A2 → A3 → Option R) → A1 → A2 → A3 → Option R) : Nat → A1 → A2 → A3 → Option R
  | 0, _, _, _ => none
  | f + 1, x1, x2, x3 => F (jlp3 F f) x1 x2 x3
theorem jlp3_ind {A1 A2 A3 R : Type} {F : (A1 → A2 → A3 → Option R) → A1 → A2 → A3 → Option R} {r : R} {P : A1 → A2 → A3 → Prop} (hb : ∀ (self : A1 → A2 → A3 → Option R) (x1 : A1) (x2 : A2) (x3 : A3), (∀ x1 x2 x3, self x1 x2 x3 = some r → P x1 x2 x3) → F self x1 x2 x3 = some r → P x1 x2 x3) : ∀ (f : Nat) (x1 : A1) (x2 : A2) (x3 : A3), jlp3 F f x1 x2 x3 = some r → P x1 x2 x3 := by
  intro f
  induction f with
  | zero => intro x1 x2 x3 h; cases h
  | succ f ih => intro x1 x2 x3 h; exact hb (jlp3 F f) x1 x2 x3 ih h
def jlp4 {A1 A2 A3 A4 R : Type} (F : (A1 → A2 → A3 → A4 → Option R) → A1 → A2 → A3 → A4 → Option R) : Nat → A1 → A2 → A3 → A4 → Option R
  | 0, _, _, _, _ => none
  | f + 1, x1, x2, x3, x4 => F (jlp4 F f) x1 x2 x3 x4
theorem jlp4_ind {A1 A2 A3 A4 R : Type} {F : (A1 → A2 → A3 → A4 → Option R) → A1 → A2 → A3 → A4 → Option R} {r : R} {P : A1 → A2 → A3 → A4 → Prop} (hb : ∀ (self : A1 → A2 → A3 → A4 → Option R) (x1 : A1) (x2 : A2) (x3 : A3) (x4 : A4), (∀ x1 x2 x3 x4, self x1 x2 x3 x4 = some r → P x1 x2 x3 x4) → F self x1 x2 x3 x4 = some r → P x1 x2 x3 x4) : ∀ (f : Nat) (x1 : A1) (x2 : A2) (x3 : A3) (x4 : A4), jlp4 F f x1 x2 x3 x4 = some r → P x1 x2 x3 x4 := by
  intro f
  induction f with
  | zero => intro x1 x2 x3 x4 h; cases h
  | succ f ih => intro x1 x2 x3 x4 h; exact hb (jlp4 F f) x1 x2 x3 x4 ih h
def jlp5 {A1 A2 A3 A4 A5 R : Type} (F : (A1 → A2 → A3 → A4 → A5 → Option R) → A1 → A2 → A3 → A4 → A5 → Option R) : Nat → A1 → A2 → A3 → A4 → A5 → Option R
  | 0, _, _, _, _, _ => none
  | f + 1, x1, x2, x3, x4, x5 => F (jlp5 F f) x1 x2 x3 x4 x5
theorem jlp5_ind {A1 A2 A3 A4 A5 R : Type} {F : (A1 → A2 → A3 → A4 → A5 → Option R) → A1 → A2 → A3 → A4 → A5 → Option R} {r : R} {P : A1 → A2 → A3 → A4 → A5 → Prop} (hb : ∀ (self : A1 → A2 → A3 → A4 → A5 → Option R) (x1 : A1) (x2 : A2) (x3 : A3) (x4 : A4) (x5 : A5), (∀ x1 x2 x3 x4 x5, self x1 x2 x3 x4 x5 = some r → P x1 x2 x3 x4 x5) → F self x1 x2 x3 x4 x5 = some r → P x1 x2 x3 x4 x5) : ∀ (f : Nat) (x1 : A1) (x2 : A2) (x3 : A3) (x4 : A4) (x5 : A5), jlp5 F f x1 x2 x3 x4 x5 = some r → P x1 x2 x3 x4 x5 := by
  intro f
  induction f with
  | zero => intro x1 x2 x3 x4 x5 h; cases h
  | succ f ih => intro x1 x2 x3 x4 x5 h; exact hb (jlp5 F f) x1 x2 x3 x4 x5 ih h
def jlp6 {A1 A2 A3 A4 A5 A6 R : Type} (F : (A1 → A2 → A3 → A4 → A5 → A6 → Option R) → A1 → A2 → A3 → A4 → A5 → A6 → Option R) : Nat → A1 → A2 → A3 → A4 → A5 → A6 → Option R
  | 0, _, _, _, _, _, _ => none
  | f + 1, x1, x2, x3, x4, x5, x6 => F (jlp6 F f) x1 x2 x3 x4 x5 x6
theorem jlp6_ind {A1 A2 A3 A4 A5 A6 R : Type} {F : (A1 → A2 → A3 → A4 → A5 → A6 → Option R) → A1 → A2 → A3 → A4 → A5 → A6 → Option R} {r : R} {P : A1 → A2 → A3 → A4 → A5 → A6 → Prop} (hb : ∀ (self : A1 → A2 → A3 → A4 → A5 → A6 → Option R) (x1 : A1) (x2 : A2) (x3 : A3) (x4 : A4) (x5 : A5) (x6 : A6), (∀ x1 x2 x3 x4 x5 x6, self x1 x2 x3 x4 x5 x6 = some r → P x1 x2 x3 x4 x5 x6) → F self x1 x2 x3 x4 x5 x6 = some r → P x1 x2 x3 x4 x5 x6) : ∀ (f : Nat) (x1 : A1) (x2 : A2) (x3 : A3) (x4 : A4) (x5 : A5) (x6 : A6), jlp6 F f x1 x2 x3 x4 x5 x6 = some r → P x1 x2 x3 x4 x5 x6 := by
  intro f
  induction f with
  | zero => intro x1 x2 x3 x4 x5 x6 h; cases h
  | succ f ih => intro x1 x2 x3 x4 x5 x6 h; exact hb (jlp6 F f) x1 x2 x3 x4 x5 x6 ih h
def jlp7 {A1 A2 A3 A4 A5 A6 A7 R : Type} (F : (A1 → A2 → A3 → A4 → A5 → A6 → A7 → Option R) → A1 → A2 → A3 → A4 → A5 → A6 → A7 → Option R) : Nat → A1 → A2 → A3 → A4 → A5 → A6 → A7 → Option R
  | 0, _, _, _, _, _, _, _ => none
  | f + 1, x1, x2, x3, x4, x5, x6, x7 => F (jlp7 F f) x1 x2 x3 x4 x5 x6 x7
theorem jlp7_ind {A1 A2 A3 A4 A5 A6 A7 R : Type} {F : (A1 → A2 → A3 → A4 → A5 → A6 → A7 → Option R) → A1 → A2 → A3 → A4 → A5 → A6 → A7 → Option R} {r : R} {P : A1 → A2 → A3 → A4 → A5 → A6 → A7 → Prop} (hb : ∀ (self : A1 → A2 → A3 → A4 → A5 → A6 → A7 → Option R) (x1 : A1) (x2 : A2) (x3 : A3) (x4 : A4) (x5 : A5) (x6 : A6) (x7 : A7), (∀ x1 x2 x3 x4 x5 x6 x7, self x1 x2 x3 x4 x5 x6 x7 = some r → P x1 x2 x3 x4 x5 x6 x7) → F self x1 x2 x3 x4 x5 x6 x7 = some r → P x1 x2 x3 x4 x5 x6 x7) : ∀ (f : Nat) (x1 : A1) (x2 : A2) (x3 : A3) (x4 : A4) (x5 : A5) (x6 : A6) (x7 : A7), jlp7 F f x1 x2 x3 x4 x5 x6 x7 = some r → P x1 x2 x3 x4 x5 x6 x7 := by
  intro f
  induction f with
  | zero => intro x1 x2 x3 x4 x5 x6 x7 h; cases h
  | succ f ih => intro x1 x2 x3 x4 x5 x6 x7 h; exact hb (jlp7 F f) x1 x2 x3 x4 x5 x6 x7 ih h
