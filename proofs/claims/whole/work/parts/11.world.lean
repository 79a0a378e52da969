/-! ===== the cells: which kind each is, how long, where its rows lie ===== -/
def jftL : List (List Nat) := [[0, 0, 1, 1, 1, 1], [0, 1, 1, 1, 1, 1, 1, 1], [0, 1, 1, 0], [1, 0], [1, 1, 0, 0, 0, 0, 0, 0, 2], [0, 0, 1, 1, 1, 1, 1], [0, 0, 0, 1, 1, 1, 1, 1], [1, 1, 1, 1, 1, 1, 1], [1, 1, 0, 0, 0, 0, 0, 0, 0, 1, 1, 1, 1, 1, 1], [1, 0, 0, 1, 1, 1, 1, 1, 1], [0, 1, 0, 1, 0, 0, 0, 0, 0, 1, 1, 1, 1, 0, 2, 0, 0, 0, 0, 0, 0, 0, 2, 1, 1, 1, 1, 1, 1, 0, 1, 0]]
def jft (k j : Nat) : Nat := (jftL.getD k []).getD j 0
def jfoL : List (List (Nat × Int)) := [[(2, 1), (3, 2), (4, 3), (5, 4)], [(1, 1), (2, 2), (3, 5), (4, 6), (5, 7), (6, 13), (7, 16)], [(1, 1), (2, 2)], [(0, 1)], [(0, -107)], [(2, 1), (3, 2), (4, 3), (5, 4), (6, 5)], [(3, 1), (4, 2), (5, 3), (6, 4), (7, 5)], [(1, 1), (2, 2), (3, 3), (4, 4), (5, 5), (6, 6)], [(9, 1), (10, 2), (11, 3), (12, 4), (13, 5), (14, 6)], [(0, 1), (5, 108), (6, 109), (7, 158), (8, 163)], [(1, 1), (3, 2), (9, 3), (10, 4), (11, 5), (12, 6), (23, 7), (24, 8), (25, 9), (26, 10), (27, 11), (28, 12), (30, 13)]]
def jfo (k : Nat) : List (Nat × Int) := jfoL.getD k []
theorem jkd_in {a : Int} (h : jkd a ≠ 99) : 1 ≤ a ∧ a ≤ 180 := by
  have h0 : a.toNat ≠ 0 := fun z => h (by unfold jkd; rw [z]; rfl)
  have h1 : a.toNat < 181 := by
    rcases Nat.lt_or_ge a.toNat 181 with q | q
    · exact q
    · exfalso
      apply h
      unfold jkd
      rw [List.getD_eq_getElem?_getD, List.getElem?_eq_none (by exact q)]
      rfl
  omega
/-- what holds of every cell of a kind, by looking at all -/
theorem jall {P : Int → Bool} (h : (List.range 181).all (fun i => P (i : Int)) = true) {a : Int} (ha : jkd a ≠ 99) : P a = true := by
  obtain ⟨h1, h2⟩ := jkd_in ha
  have := List.all_eq_true.mp h a.toNat (List.mem_range.mpr (by omega))
  rwa [show ((a.toNat : Nat) : Int) = a by omega] at this
def jchk (k : Nat) (off : Int) (k2 : Nat) (l2 : Int) : Bool := k != 99 && (List.range 181).all (fun i => jkd (i : Int) != k || (jkd ((i : Int) + off) == k2 && jln ((i : Int) + off) == l2))
theorem jko {k : Nat} {off : Int} {k2 : Nat} {l2 : Int} (h : jchk k off k2 l2 = true) {a : Int} (ha : jkd a = k) : jkd (a + off) = k2 ∧ jln (a + off) = l2 := by
  unfold jchk at h
  simp only [Bool.and_eq_true, bne_iff_ne] at h
  have := jall (P := fun i => jkd i != k || (jkd (i + off) == k2 && jln (i + off) == l2)) h.2 (a := a) (by rw [ha]; exact h.1)
  simpa [ha] using this
theorem jlen {k : Nat} {l2 : Int} (h : jchk k 0 k l2 = true) {a : Int} (ha : jkd a = k) : jln a = l2 := by
  have := (jko h ha).2
  rwa [Int.add_zero] at this
theorem jk179 {a : Int} {k : Nat} (ha : jkd a = k) (hk : k ≠ 99) (h13 : k ≠ 13) : 1 ≤ a ∧ a ≤ 179 := by
  have h1 := jkd_in (a := a) (by rw [ha]; exact hk)
  have h2 : a ≠ 180 := by
    rintro rfl
    exact h13 (ha.symm.trans (by decide +kernel))
  omega
theorem jsk {a i : Int} (ha : jkd a = 14) (h0 : 0 ≤ i) (h6 : i < 6) : jkd (a + 1 + 6 * i) = 6 := by
  have : ∀ j : Fin 6, jkd (a + 1 + 6 * (j.val : Int)) = 6 := by
    intro j
    have := jall (P := fun b => jkd b != 14 || (List.range 6).all (fun j => jkd (b + 1 + 6 * (j : Int)) == 6)) (by decide +kernel) (a := a) (by rw [ha]; decide)
    simp only [ha, bne_self_eq_false, Bool.false_or, List.all_eq_true, List.mem_range, beq_iff_eq] at this
    exact this j.val j.isLt
  have := this ⟨i.toNat, by omega⟩
  rwa [show ((i.toNat : Nat) : Int) = i by omega] at this
theorem jta {a i : Int} (ha : jkd a = 15) (h0 : 0 ≤ i) (h6 : i < 6) : jkd (a + 6 + 7 * i) = 8 := by
  have : ∀ j : Fin 6, jkd (a + 6 + 7 * (j.val : Int)) = 8 := by
    intro j
    have := jall (P := fun b => jkd b != 15 || (List.range 6).all (fun j => jkd (b + 6 + 7 * (j : Int)) == 8)) (by decide +kernel) (a := a) (by rw [ha]; decide)
    simp only [ha, bne_self_eq_false, Bool.false_or, List.all_eq_true, List.mem_range, beq_iff_eq] at this
    exact this j.val j.isLt
  have := this ⟨i.toNat, by omega⟩
  rwa [show ((i.toNat : Nat) : Int) = i by omega] at this
def jfv (X : jX) (ty : Nat) (z : Int) : Value := if ty = 1 then va_rf (jro X z) else .int (Int32.ofInt z)
/-- a cell, as the memory has it -/
def jE (X : jX) (M : jM) (a : Int) : va_E :=
  if jkd a < 11 then .inr (jkd a, (List.range (jln a).toNat).map (fun j => jfv X (jft (jkd a) j) (M a (j : Int))))
  else if jkd a = 13 then .inl (jXc X 13, (jln a).toNat, .inr (.inl (fun j => Int64.ofInt (M a (j : Int)))))
  else if jkd a < 13 then .inl (jXc X (jkd a), (jln a).toNat, .inl (fun j => Int32.ofInt (M a (j : Int))))
  else .inl (jXc X (jkd a), (jln a).toNat, .inr (.inr (.inr (.inr (fun j => jro X (M a (j : Int)))))))
theorem jE_o {X : jX} {M : jM} {a : Int} {k : Nat} (h : jkd a = k) (hk : k < 11) : jE X M a = .inr (k, (List.range (jln a).toNat).map (fun j => jfv X (jft k j) (M a (j : Int)))) := by
  unfold jE; rw [h, if_pos hk]
theorem jE_l {X : jX} {M : jM} {a : Int} (h : jkd a = 13) : jE X M a = .inl (jXc X 13, (jln a).toNat, .inr (.inl (fun j => Int64.ofInt (M a (j : Int))))) := by
  unfold jE; rw [h, if_neg (by decide), if_pos rfl]
theorem jE_i {X : jX} {M : jM} {a : Int} {k : Nat} (h : jkd a = k) (hk : k = 11 ∨ k = 12) : jE X M a = .inl (jXc X k, (jln a).toNat, .inl (fun j => Int32.ofInt (M a (j : Int)))) := by
  unfold jE; rw [h]; rcases hk with rfl | rfl <;> rfl
theorem jE_q {X : jX} {M : jM} {a : Int} {k : Nat} (h : jkd a = k) (hk : k = 14 ∨ k = 15) : jE X M a = .inl (jXc X k, (jln a).toNat, .inr (.inr (.inr (.inr (fun j => jro X (M a (j : Int))))))) := by
  unfold jE; rw [h]; rcases hk with rfl | rfl <;> rfl
theorem jE_st_ne {X : jX} {M : jM} {a b i v : Int} (h : b ≠ a) : jE X (jst M a i v) b = jE X M b := by
  have : ∀ j, jst M a i v b j = M b j := fun j => by unfold jst; rw [if_neg (fun q => h q.1)]
  unfold jE; simp only [this]
abbrev jAd (X : jX) : Nat → Prop := fun q => jXB X ≤ q
def jws (X : jX) (n : Nat) (M : jM) : va_W := (List.range n).map (fun i => (jXB X + i, jE X M ((i : Int) + 1)))
theorem jws_get {X : jX} {n : Nat} {M : jM} {a : Int} (h1 : 1 ≤ a) (h2 : a ≤ (n : Int)) : (jws X n M)[a.toNat - 1]? = some (jXB X + a.toNat - 1, jE X M a) := by
  have hlt : a.toNat - 1 < n := by omega
  unfold jws
  rw [List.getElem?_map, List.getElem?_range hlt]
  simp only [Option.map_some]
  congr 2
  · omega
  · congr 1; omega
theorem jws_set {X : jX} {n : Nat} {M M' : jM} {a : Int} (h1 : 1 ≤ a) (h2 : a ≤ (n : Int)) (ho : ∀ b : Int, b ≠ a → jE X M' b = jE X M b) : (jws X n M).set (a.toNat - 1) (jXB X + a.toNat - 1, jE X M' a) = jws X n M' := by
  apply List.ext_getElem?
  intro i
  by_cases hi : i = a.toNat - 1
  · subst hi
    rw [List.getElem?_set_self (by unfold jws; simp; omega), jws_get h1 h2]
  · rw [List.getElem?_set_ne (Ne.symm hi)]
    unfold jws
    rw [List.getElem?_map, List.getElem?_map]
    cases hr : (List.range n)[i]? with
    | none => rfl
    | some q =>
      have hq : q = i := by
        have := List.getElem?_eq_some_iff.mp hr
        obtain ⟨h3, h4⟩ := this
        rw [List.getElem_range] at h4
        exact h4.symm
      subst hq
      simp only [Option.map_some]
      rw [ho ((q : Int) + 1) (by omega)]
theorem jws_D (X : jX) (n : Nat) (M : jM) : va_D (jAd X) (jws X n M) := by
  have key : ∀ (k : Nat) (q : Nat × va_E), (jws X n M)[k]? = some q → q.1 = jXB X + k := by
    intro k q hk
    unfold jws at hk
    rw [List.getElem?_map] at hk
    cases hr : (List.range n)[k]? with
    | none => rw [hr] at hk; cases hk
    | some z =>
      rw [hr] at hk
      obtain ⟨h3, h4⟩ := List.getElem?_eq_some_iff.mp hr
      rw [List.getElem_range] at h4
      subst h4
      cases hk
      rfl
  refine ⟨fun i j p q hi hj hpq => ?_, fun k q hk => ?_⟩
  · have h1 := key i p hi
    have h2 := key j q hj
    omega
  · have h1 := key k q hk
    show jXB X ≤ q.1
    omega
/-- what the final rows hold, once all is made -/
def jFin (n : Nat) (M : jM) : Prop := (∀ (a : Int) (j : Nat) (off : Int), jkd a < 11 → a ≤ (n : Int) → (j, off) ∈ jfo (jkd a) → M a (j : Int) = a + off) ∧
  (∀ a i : Int, jkd a = 14 → a ≤ (n : Int) → 0 ≤ i → i < 6 → M a i = a + 1 + 6 * i) ∧ (∀ a i : Int, jkd a = 15 → a ≤ (n : Int) → 0 ≤ i → i < 6 → M a i = a + 6 + 7 * i)
def jH (X : jX) (n : Nat) (M : jM) (H : Heap) : Prop := va_P (jXD X) vwCl (jws X n M) H ∧ jFin n M
def jtys (X : jX) : List (ClassId × FieldType) := [(jXc X 11, .byte), (jXc X 12, .int), (jXc X 13, .long), (jXc X 14, .object "IceJudge$Skating"), (jXc X 15, .object "IceJudge$Tally")]
theorem jFin.st {n : Nat} {M : jM} (h : jFin n M) {a v : Int} {i : Int} (h1 : ∀ (j : Nat) (off : Int), jkd a < 11 → (j, off) ∈ jfo (jkd a) → i ≠ (j : Int)) (h2 : jkd a ≠ 14) (h3 : jkd a ≠ 15) : jFin n (jst M a i v) := by
  refine ⟨fun b j off hb hn hj => ?_, fun b j hb hn h0 h6 => ?_, fun b j hb hn h0 h6 => ?_⟩
  · unfold jst
    rw [if_neg]
    · exact h.1 b j off hb hn hj
    · rintro ⟨rfl, q⟩
      exact h1 j off hb hj q.symm
  · unfold jst
    rw [if_neg]
    · exact h.2.1 b j hb hn h0 h6
    · rintro ⟨rfl, -⟩
      exact h2 hb
  · unfold jst
    rw [if_neg]
    · exact h.2.2 b j hb hn h0 h6
    · rintro ⟨rfl, -⟩
      exact h3 hb
