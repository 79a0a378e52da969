/-! ===== the words in which a method's function is written ===== -/
def jfuel : Nat := 1000000
def jck {R : Type} (c : Prop) [Decidable c] (o : Option R) : Option R := if c then o else none
def jlet {A B : Type} (a : A) (f : A → B) : B := f a
def jk {A B : Type} (a : A) (f : A → B) : B := f a
def jbR {R : Type} (o : Option Int) (k : Int → Option R) : Option R := match o with
  | some v => k v
  | none => none
def jbV {R : Type} (o : Option jM) (k : jM → Option R) : Option R := match o with
  | some v => k v
  | none => none
def jbU {R : Type} (o : Option Unit) (k : Option R) : Option R := match o with
  | some _ => k
  | none => none
def jbW {R : Type} (o : Option (Int × jM)) (k : Int → jM → Option R) : Option R := match o with
  | some v => k v.1 v.2
  | none => none
theorem jck_some {R : Type} {c : Prop} [Decidable c] {o : Option R} {r : R} (h : jck c o = some r) : c ∧ o = some r := by
  unfold jck at h
  split at h
  · exact ⟨by assumption, h⟩
  · cases h
theorem jlet_some {A R : Type} {a : A} {f : A → Option R} {r : R} (h : jlet a f = some r) : ∃ y, y = a ∧ f y = some r := ⟨a, rfl, h⟩
theorem jk_some {A R : Type} {a : A} {f : A → Option R} {r : R} {P : A → Prop} (h : jk a f = some r) (hP : P a) : ∃ k, P k ∧ f k = some r := ⟨a, hP, h⟩
theorem jbR_some {R : Type} {o : Option Int} {k : Int → Option R} {r : R} (h : jbR o k = some r) : ∃ v, o = some v ∧ k v = some r := by
  cases o with
  | none => cases h
  | some v => exact ⟨v, rfl, h⟩
theorem jbV_some {R : Type} {o : Option jM} {k : jM → Option R} {r : R} (h : jbV o k = some r) : ∃ v, o = some v ∧ k v = some r := by
  cases o with
  | none => cases h
  | some v => exact ⟨v, rfl, h⟩
theorem jbU_some {R : Type} {o : Option Unit} {k : Option R} {r : R} (h : jbU o k = some r) : o = some () ∧ k = some r := by
  cases o with
  | none => cases h
  | some v => exact ⟨rfl, h⟩
theorem jbW_some {R : Type} {o : Option (Int × jM)} {k : Int → jM → Option R} {r : R} (h : jbW o k = some r) : ∃ v M, o = some (v, M) ∧ k v M = some r := by
  cases o with
  | none => cases h
  | some v => exact ⟨v.1, v.2, rfl, h⟩
theorem jit_pos {R : Type} {c : Prop} [Decidable c] {a b : Option R} {r : R} (hc : c) (h : (if c then a else b) = some r) : a = some r := by rwa [if_pos hc] at h
theorem jit_neg {R : Type} {c : Prop} [Decidable c] {a b : Option R} {r : R} (hc : ¬ c) (h : (if c then a else b) = some r) : b = some r := by rwa [if_neg hc] at h
theorem jit_or {R : Type} {c : Prop} [Decidable c] {a b : Option R} {r : R} (h : (if c then a else b) = some r) : (c ∧ a = some r) ∨ (¬ c ∧ b = some r) := by
  by_cases hc : c
  · rw [if_pos hc] at h; exact Or.inl ⟨hc, h⟩
  · rw [if_neg hc] at h; exact Or.inr ⟨hc, h⟩
theorem jrR {A : Type} {a b : A} (h : some a = some b) : a = b := Option.some.inj h
theorem jr1 {A B : Type} {a c : A} {b d : B} (h : some (a, b) = some (c, d)) : a = c := (Prod.mk.inj (Option.some.inj h)).1
theorem jr2 {A B : Type} {a c : A} {b d : B} (h : some (a, b) = some (c, d)) : b = d := (Prod.mk.inj (Option.some.inj h)).2
theorem jw1 : jw 1 = 1 := by decide
def jlp1 {A1 R : Type} (F : (A1 → Option R) → A1 → Option R) : Nat → A1 → Option R
  | 0, _ => none
  | f + 1, x1 => F (jlp1 F f) x1
theorem jlp1_ind {A1 R : Type} {F : (A1 → Option R) → A1 → Option R} {r : R} {P : A1 → Prop} (hb : ∀ (self : A1 → Option R) (x1 : A1), (∀ x1, self x1 = some r → P x1) → F self x1 = some r → P x1) : ∀ (f : Nat) (x1 : A1), jlp1 F f x1 = some r → P x1 := by
  intro f
  induction f with
  | zero => intro x1 h; cases h
  | succ f ih => intro x1 h; exact hb (jlp1 F f) x1 ih h
def jlp2 {A1 A2 R : Type} (F : (A1 → A2 → Option R) → A1 → A2 → Option R) : Nat → A1 → A2 → Option R
  | 0, _, _ => none
  | f + 1, x1, x2 => F (jlp2 F f) x1 x2
theorem jlp2_ind {A1 A2 R : Type} {F : (A1 → A2 → Option R) → A1 → A2 → Option R} {r : R} {P : A1 → A2 → Prop} (hb : ∀ (self : A1 → A2 → Option R) (x1 : A1) (x2 : A2), (∀ x1 x2, self x1 x2 = some r → P x1 x2) → F self x1 x2 = some r → P x1 x2) : ∀ (f : Nat) (x1 : A1) (x2 : A2), jlp2 F f x1 x2 = some r → P x1 x2 := by
  intro f
  induction f with
  | zero => intro x1 x2 h; cases h
  | succ f ih => intro x1 x2 h; exact hb (jlp2 F f) x1 x2 ih h
def jlp3 {A1 A2 A3 R : Type} (F : (A1 → A2 → A3 → Option R) → A1 → A2 → A3 → Option R) : Nat → A1 → A2 → A3 → Option R
  | 0, _, _, _ => none
  | f + 1, x1, x2, x3 => F (jlp3 F f) x1 x2 x3
theorem jlp3_ind {A1 A2 A3 R : Type} {F : (A1 → A2 → A3 → Option R) → A1 → A2 → A3 → Option R} {r : R} {P : A1 → A2 → A3 → Prop} (hb : ∀ (self : A1 → A2 → A3 → Option R) (x1 : A1) (x2 : A2) (x3 : A3), (∀ x1 x2 x3, self x1 x2 x3 = some r → P x1 x2 x3) → F self x1 x2 x3 = some r → P x1 x2 x3) : ∀ (f : Nat) (x1 : A1) (x2 : A2) (x3 : A3), jlp3 F f x1 x2 x3 = some r → P x1 x2 x3 := by
  intro f
  induction f with
  | zero => intro x1 x2 x3 h; cases h
  | succ f ih => intro x1 x2 x3 h; exact hb (jlp3 F f) x1 x2 x3 ih h
def jlp4 {A1 A2 A3 A4 R : Type} (F : (A1 → A2 → A3 → A4 → Option R) → A1 → A2 → A3 → A4 → Option R) : Nat → A1 → A2 → A3 → A4 → Option R
  | 0, _, _, _, _ => none
  | f + 1, x1, x2, x3, x4 => F (jlp4 F f) x1 x2 x3 x4
theorem jlp4_ind {A1 A2 A3 A4 R : Type} {F : (A1 → A2 → A3 → A4 → Option R) → A1 → A2 → A3 → A4 → Option R} {r : R} {P : A1 → A2 → A3 → A4 → Prop} (hb : ∀ (self : A1 → A2 → A3 → A4 → Option R) (x1 : A1) (x2 : A2) (x3 : A3) (x4 : A4), (∀ x1 x2 x3 x4, self x1 x2 x3 x4 = some r → P x1 x2 x3 x4) → F self x1 x2 x3 x4 = some r → P x1 x2 x3 x4) : ∀ (f : Nat) (x1 : A1) (x2 : A2) (x3 : A3) (x4 : A4), jlp4 F f x1 x2 x3 x4 = some r → P x1 x2 x3 x4 := by
  intro f
  induction f with
  | zero => intro x1 x2 x3 x4 h; cases h
  | succ f ih => intro x1 x2 x3 x4 h; exact hb (jlp4 F f) x1 x2 x3 x4 ih h
def jlp5 {A1 A2 A3 A4 A5 R : Type} (F : (A1 → A2 → A3 → A4 → A5 → Option R) → A1 → A2 → A3 → A4 → A5 → Option R) : Nat → A1 → A2 → A3 → A4 → A5 → Option R
  | 0, _, _, _, _, _ => none
  | f + 1, x1, x2, x3, x4, x5 => F (jlp5 F f) x1 x2 x3 x4 x5
theorem jlp5_ind {A1 A2 A3 A4 A5 R : Type} {F : (A1 → A2 → A3 → A4 → A5 → Option R) → A1 → A2 → A3 → A4 → A5 → Option R} {r : R} {P : A1 → A2 → A3 → A4 → A5 → Prop} (hb : ∀ (self : A1 → A2 → A3 → A4 → A5 → Option R) (x1 : A1) (x2 : A2) (x3 : A3) (x4 : A4) (x5 : A5), (∀ x1 x2 x3 x4 x5, self x1 x2 x3 x4 x5 = some r → P x1 x2 x3 x4 x5) → F self x1 x2 x3 x4 x5 = some r → P x1 x2 x3 x4 x5) : ∀ (f : Nat) (x1 : A1) (x2 : A2) (x3 : A3) (x4 : A4) (x5 : A5), jlp5 F f x1 x2 x3 x4 x5 = some r → P x1 x2 x3 x4 x5 := by
  intro f
  induction f with
  | zero => intro x1 x2 x3 x4 x5 h; cases h
  | succ f ih => intro x1 x2 x3 x4 x5 h; exact hb (jlp5 F f) x1 x2 x3 x4 x5 ih h
def jlp6 {A1 A2 A3 A4 A5 A6 R : Type} (F : (A1 → A2 → A3 → A4 → A5 → A6 → Option R) → A1 → A2 → A3 → A4 → A5 → A6 → Option R) : Nat → A1 → A2 → A3 → A4 → A5 → A6 → Option R
  | 0, _, _, _, _, _, _ => none
  | f + 1, x1, x2, x3, x4, x5, x6 => F (jlp6 F f) x1 x2 x3 x4 x5 x6
theorem jlp6_ind {A1 A2 A3 A4 A5 A6 R : Type} {F : (A1 → A2 → A3 → A4 → A5 → A6 → Option R) → A1 → A2 → A3 → A4 → A5 → A6 → Option R} {r : R} {P : A1 → A2 → A3 → A4 → A5 → A6 → Prop} (hb : ∀ (self : A1 → A2 → A3 → A4 → A5 → A6 → Option R) (x1 : A1) (x2 : A2) (x3 : A3) (x4 : A4) (x5 : A5) (x6 : A6), (∀ x1 x2 x3 x4 x5 x6, self x1 x2 x3 x4 x5 x6 = some r → P x1 x2 x3 x4 x5 x6) → F self x1 x2 x3 x4 x5 x6 = some r → P x1 x2 x3 x4 x5 x6) : ∀ (f : Nat) (x1 : A1) (x2 : A2) (x3 : A3) (x4 : A4) (x5 : A5) (x6 : A6), jlp6 F f x1 x2 x3 x4 x5 x6 = some r → P x1 x2 x3 x4 x5 x6 := by
  intro f
  induction f with
  | zero => intro x1 x2 x3 x4 x5 x6 h; cases h
  | succ f ih => intro x1 x2 x3 x4 x5 x6 h; exact hb (jlp6 F f) x1 x2 x3 x4 x5 x6 ih h
def jlp7 {A1 A2 A3 A4 A5 A6 A7 R : Type} (F : (A1 → A2 → A3 → A4 → A5 → A6 → A7 → Option R) → A1 → A2 → A3 → A4 → A5 → A6 → A7 → Option R) : Nat → A1 → A2 → A3 → A4 → A5 → A6 → A7 → Option R
  | 0, _, _, _, _, _, _, _ => none
  | f + 1, x1, x2, x3, x4, x5, x6, x7 => F (jlp7 F f) x1 x2 x3 x4 x5 x6 x7
theorem jlp7_ind {A1 A2 A3 A4 A5 A6 A7 R : Type} {F : (A1 → A2 → A3 → A4 → A5 → A6 → A7 → Option R) → A1 → A2 → A3 → A4 → A5 → A6 → A7 → Option R} {r : R} {P : A1 → A2 → A3 → A4 → A5 → A6 → A7 → Prop} (hb : ∀ (self : A1 → A2 → A3 → A4 → A5 → A6 → A7 → Option R) (x1 : A1) (x2 : A2) (x3 : A3) (x4 : A4) (x5 : A5) (x6 : A6) (x7 : A7), (∀ x1 x2 x3 x4 x5 x6 x7, self x1 x2 x3 x4 x5 x6 x7 = some r → P x1 x2 x3 x4 x5 x6 x7) → F self x1 x2 x3 x4 x5 x6 x7 = some r → P x1 x2 x3 x4 x5 x6 x7) : ∀ (f : Nat) (x1 : A1) (x2 : A2) (x3 : A3) (x4 : A4) (x5 : A5) (x6 : A6) (x7 : A7), jlp7 F f x1 x2 x3 x4 x5 x6 x7 = some r → P x1 x2 x3 x4 x5 x6 x7 := by
  intro f
  induction f with
  | zero => intro x1 x2 x3 x4 x5 x6 x7 h; cases h
  | succ f ih => intro x1 x2 x3 x4 x5 x6 x7 h; exact hb (jlp7 F f) x1 x2 x3 x4 x5 x6 x7 ih h
section JE
variable {C : jC} {X : jX} {own : String} {cc : ByteArray} {n nL d kc ks pc : Nat} {ls st : List jV} {M : jM}
theorem x_kill (i : Nat) {ls2 : List jV} (hls : ls.set i jN = ls2) (k : jG C X n nL kc ks pc ls2 st M) : jG C X n nL kc ks pc ls st M := by
  subst hls
  obtain ⟨p, l, e, R, s, m, args, below, meth, c, Q⟩ := C
  intro H locs la hH hS hL
  refine k H locs la hH hS ⟨hL.1, hL.2.1, fun q hq => hL.2.2 q ?_⟩
  obtain ⟨j, w, h1, h2, h3⟩ := jal_mem.mp hq
  refine jal_mem.mpr ⟨j, w, ?_, h2, h3⟩
  by_cases hj : j = i
  · subst hj
    have hl : j < ls.length := by
      have := (List.getElem?_eq_some_iff.mp h1).1
      simpa using this
    rw [List.getElem?_set_self hl] at h1
    cases h1
    exact absurd rfl h2
  · rwa [List.getElem?_set_ne (Ne.symm hj)] at h1
theorem x_alenL (hC : jOk C X own cc nL n d) {a l : Int} (hk : jkd a = 12) (hl : jln a = l) (hd : decode cc pc = .ok (.arraylength, 1)) (k : jG C X n nL kc ks (pc + 1) ls (jI l :: st) M) : jG C X n nL kc ks pc ls (jA a :: st) M := by
  subst hl
  exact x_alen hC hk hd k
/-- a static table's link -/
def jSL (own : String) (idx k : Nat) : Prop := (Cond.fieldLink own idx "IceJudge" (jsnm k) "[I" ∈ jTB) ∨ ∃ host, Cond.fieldLinkNest own idx "IceJudge" (jsnm k) "[I" host ∈ jNB
theorem x_gst (hC : jOk C X own cc nL n d) {idx k : Nat} (hk : k < 3) (sl : jSL own idx k) (hd : decode cc pc = .ok (.getstatic idx, 3)) (kk : jG C X n nL kc ks (pc + 3) ls ((5, (k : Int)) :: st) M) : jG C X n nL kc ks pc ls st M := by
  obtain ⟨p, l, e, R, s, m, args, below, meth, c, Q⟩ := C
  obtain ⟨hx, hb, hml, hown, hts, hO, hn, -⟩ := hC
  intro H locs la hH hS hL
  have h2 := kk H locs la hH hS hL
  have hv : jcv X (5, (k : Int)) = .ref (jXt X k) := rfl
  rw [List.map_cons, hv] at h2
  rcases sl with h | ⟨host, h⟩
  · exact va_gets hx hb (hO.2.2.1 k hk).1 hS hown (hts _ h) (fun _ q => q) hd h2
  · exact va_getsN hx hb (hO.2.2.1 k hk).1 hS hown (va_Nw.use rfl (hO.2.1 _ h)) (fun _ q => q) hd h2
theorem x_tald (hC : jOk C X own cc nL n d) {k : Nat} (hk : k < 3) {i : Int} (hi : 0 ≤ jw i ∧ jw i < 7) (hd : decode cc pc = .ok (.iaload, 1)) (kk : jG C X n nL kc ks (pc + 1) ls (jI (jstt k (jw i)) :: st) M) : jG C X n nL kc ks pc ls (jI i :: (5, (k : Int)) :: st) M := by
  obtain ⟨p, l, e, R, s, m, args, below, meth, c, Q⟩ := C
  obtain ⟨hx, hb, hml, hown, hts, hO, hn, -⟩ := hC
  intro H locs la hH hS hL
  have h2 := kk H locs la hH hS hL
  refine va_ti hx hb (hO.2.2.1 k hk).2 hS (j_vin (l := 7) hi.1 hi.2) (v := .int (Int32.ofInt (jstt k (jw i)))) ?_ hd h2
  rw [j_nc]; rfl
def jSR (own : String) (idx k : Nat) : Prop := k < 58 ∧ jsOwn k = own ∧ jsIdx k = idx
theorem x_ldcS (hC : jOk C X own cc nL n d) {idx k : Nat} (hd : decode cc pc = .ok (.ldc idx, 2)) (sr : jSR own idx k) {q : Int} (hq : (k : Int) = q) (kk : jG C X n nL kc ks (pc + 2) ls (jS q :: st) M) : jG C X n nL kc ks pc ls st M := by
  obtain ⟨p, l, e, R, s, m, args, below, meth, c, Q⟩ := C
  obtain ⟨hx, hb, hml, hown, hts, hO, hn, -⟩ := hC
  obtain ⟨h58, rfl, rfl⟩ := sr
  subst hq
  intro H locs la hH hS hL
  have h2 := kk H locs la hH hS hL
  exact va_ldcS hx hb hown (hO.2.2.2.1 k h58).1 hd h2
end JE
