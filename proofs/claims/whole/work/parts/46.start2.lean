/-! ===== what the start gives: classes, arrays, statics, strings ===== -/
theorem top_K {args : Array Value} {s : State} (hTB : ∀ w ∈ jTB, w.before args s = true) : ∃ D : va_G, ∀ (c : Nat) (q : vw_C), vwCl[c]? = some q → u_Kn s q.1 q.2.1 q.2.2 (D.1 c) (D.2 c) := by
  have h : ∀ c : Nat, ∃ r : ClassId × (Nat → Nat), ∀ q : vw_C, vwCl[c]? = some q → u_Kn s q.1 q.2.1 q.2.2 r.1 r.2 := by
    intro c
    obtain ⟨x0, y0, h0⟩ := u_known hTB inX0 (hTB _ nw_X9_48.2.1)
    match c with
    | 0 => exact ⟨(x0, y0), fun q hq => by cases hq; exact h0⟩
    | 1 =>
      obtain ⟨x, y, hk⟩ := u_known hTB inX1 (hTB _ nw_X9_20.2.1)
      exact ⟨(x, y), fun q hq => by cases hq; exact hk⟩
    | 2 =>
      obtain ⟨x, y, hk⟩ := u_known hTB inX2 (hTB _ nw_X1_19.2.1)
      exact ⟨(x, y), fun q hq => by cases hq; exact hk⟩
    | 3 =>
      obtain ⟨x, y, hk⟩ := u_known hTB inX3 (hTB _ nw_X9_55.2.1)
      exact ⟨(x, y), fun q hq => by cases hq; exact hk⟩
    | 4 =>
      obtain ⟨x, y, hk⟩ := u_known hTB inX4 (hTB _ nw_X9_30.2.1)
      exact ⟨(x, y), fun q hq => by cases hq; exact hk⟩
    | 5 =>
      obtain ⟨x, y, hk⟩ := u_known hTB inX5 (hTB _ nw_X1_34.2.1)
      exact ⟨(x, y), fun q hq => by cases hq; exact hk⟩
    | 6 =>
      obtain ⟨x, y, hk⟩ := u_known hTB inX6 (hTB _ nw_X1_44.2.1)
      exact ⟨(x, y), fun q hq => by cases hq; exact hk⟩
    | 7 =>
      obtain ⟨x, y, hk⟩ := u_known hTB inX7 (hTB _ nw_X9_39.2.1)
      exact ⟨(x, y), fun q hq => by cases hq; exact hk⟩
    | 8 =>
      obtain ⟨x, y, hk⟩ := u_known hTB inX8 (hTB _ nw_X7_9.2.1)
      exact ⟨(x, y), fun q hq => by cases hq; exact hk⟩
    | 9 =>
      obtain ⟨x, y, hk⟩ := u_known hTB inX9 (hTB _ nw_L_8.2.1)
      exact ⟨(x, y), fun q hq => by cases hq; exact hk⟩
    | 10 =>
      obtain ⟨x, y, hk⟩ := u_known hTB inX10 (hTB _ nw_L_124.2.1)
      exact ⟨(x, y), fun q hq => by cases hq; exact hk⟩
    | n + 11 =>
      refine ⟨(x0, y0), fun q hq => ?_⟩
      rw [List.getElem?_eq_none (by show 11 ≤ n + 11; omega)] at hq
      cases hq
  exact ⟨(fun c => (Classical.choose (h c)).1, fun c => (Classical.choose (h c)).2), fun c q hq => Classical.choose_spec (h c) q hq⟩
theorem top_a {args : Array Value} {s : State} {ty : FieldType} (h : (Cond.arrayClass ty).before args s = true) (hty : ∀ C, ty ≠ .object C) : ∃ cA : ClassId, ArrOfT s cA ty ∧ va_RA s cA ty := by
  obtain ⟨cA, kA, comp, h1, h2, h3⟩ := Cond.arrayClass_spec (args := args) (first := s) (o := none) (s := s) (idx := []) h
  refine ⟨cA, fun n z => ⟨fun k h => (by cases h), kA, h2, comp, h3⟩, ?_⟩
  cases ty with
  | object C => exact absurd rfl (hty C)
  | _ => exact h1
theorem top_o {s : State} {C : String} (h : va_AO C s) : ∃ cA : ClassId, ArrOfT s cA (.object C) ∧ va_RA s cA (.object C) := by
  obtain ⟨comp, cA, kA, h1, h2, h3, h4, h5⟩ := Cond.arrayOver_spec (args := #[]) (first := s) (o := none) (s := s) (idx := []) h
  exact ⟨cA, fun n z => ⟨fun k h => (by cases h), kA, h3, comp, h4⟩, kA, comp, h3, h4, h1, h5⟩
theorem top_A {args : Array Value} {s : State} (hTB : ∀ w ∈ jTB, w.before args s = true) (hA : jAos s) : ∃ cA : Nat → ClassId, ∀ (k : Nat) (q : ClassId × FieldType), [(cA 11, FieldType.byte), (cA 12, .int), (cA 13, .long), (cA 14, .object "IceJudge$Skating"), (cA 15, .object "IceJudge$Tally")][k]? = some q → ArrOfT s q.1 q.2 ∧ va_RA s q.1 q.2 := by
  obtain ⟨a1, h1⟩ := top_a (hTB _ aw_byte) (fun C h => by cases h)
  obtain ⟨a2, h2⟩ := top_a (hTB _ aw_int) (fun C h => by cases h)
  obtain ⟨a3, h3⟩ := top_a (hTB _ aw_long) (fun C h => by cases h)
  obtain ⟨a4, h4⟩ := top_o hA.1
  obtain ⟨a5, h5⟩ := top_o hA.2
  refine ⟨fun k => if k = 11 then a1 else if k = 12 then a2 else if k = 13 then a3 else if k = 14 then a4 else a5, fun k q hk => ?_⟩
  match k with
  | 0 => cases hk; exact h1
  | 1 => cases hk; exact h2
  | 2 => cases hk; exact h3
  | 3 => cases hk; exact h4
  | 4 => cases hk; exact h5
  | n + 5 =>
    rw [List.getElem?_eq_none (by show 5 ≤ n + 5; omega)] at hk
    cases hk
def jwT (k : Nat) : List Cond := [Cond.arrayOf (.static "IceJudge" (jsnm k) "[I") .int, Cond.eq (.length (.static "IceJudge" (jsnm k) "[I")) (.int 7)] ++ (List.range 7).map (fun j => Cond.eq (.elem (.static "IceJudge" (jsnm k) "[I") (.int (Int32.ofNat j))) (.int (Int32.ofInt ((jsv k).getD j 0))))
theorem jwT_in : ∀ k : Nat, k < 3 → ∀ w ∈ jwT k, w ∈ (flatC (Jvm.Cond.and given_1 narrow_1)).take 129 := by decide +kernel
theorem jwL_in : ∀ k : Nat, k < 3 → Cond.laysStatic "IceJudge" (jsnm k) "[I" ∈ lw_tbl := by decide +kernel
theorem top_T {args : Array Value} {s : State} {A : Nat → Prop} (hts : ∀ w ∈ lw_tbl, w.before args s = true) (hs : ∀ w ∈ flatC (Jvm.Cond.and given_1 narrow_1), w.before args s = true) (hA : ∀ a : Nat, a < s.heap.size → ¬ A a) : ∃ t : Nat → Nat, ∀ k : Nat, k < 3 → va_Z "IceJudge" (jsnm k) "[I" (.ref (t k)) A s s.heap ∧ va_T .int (t k) 7 (fun j => .int (Int32.ofInt ((jsv k).getD j 0))) A s s.heap := by
  have h : ∀ k : Nat, ∃ t : Nat, k < 3 → va_Z "IceJudge" (jsnm k) "[I" (.ref t) A s s.heap ∧ va_T .int t 7 (fun j => .int (Int32.ofInt ((jsv k).getD j 0))) A s s.heap := by
    intro k
    by_cases hk : k < 3
    · have hm : ∀ w ∈ jwT k, w.before args s = true := fun w hw => hs w (List.mem_of_mem_take (jwT_in k hk w hw))
      have h1 := hm (Cond.arrayOf (.static "IceJudge" (jsnm k) "[I") .int) (by unfold jwT; simp)
      have h2 := hm (Cond.eq (.length (.static "IceJudge" (jsnm k) "[I")) (.int 7)) (by unfold jwT; simp)
      obtain ⟨t, ht, hT⟩ := va_Tof (A := A) (N := 7) (f := fun j => .int (Int32.ofInt ((jsv k).getD j 0))) (by decide) h1 (Cond.eq_int h2 rfl) (fun j hj => Cond.eq_int (hm (Cond.eq (.elem (.static "IceJudge" (jsnm k) "[I") (.int (Int32.ofNat j))) (.int (Int32.ofInt ((jsv k).getD j 0)))) (by
        unfold jwT
        exact List.mem_append_right _ (List.mem_map.mpr ⟨j, List.mem_range.mpr hj, rfl⟩))) rfl) hA
      exact ⟨t, fun _ => ⟨va_Zof (hts _ (jwL_in k hk)) (hts (.initialized "IceJudge") (by decide +kernel)) ht hA, hT⟩⟩
    · exact ⟨0, fun q => absurd q hk⟩
  exact ⟨fun k => Classical.choose (h k), fun k hk => Classical.choose_spec (h k) hk⟩
theorem jwR_in : ∀ k : Nat, k < 58 → Cond.stringRef (jsOwn k) (jsIdx k) (jsTxt k) ∈ lw_tbl := by decide +kernel
theorem top_R {args : Array Value} {s : State} {A : Nat → Prop} (hts : ∀ w ∈ lw_tbl, w.before args s = true) (hs : ∀ w ∈ flatC (Jvm.Cond.and given_1 narrow_1), w.before args s = true) (hA : ∀ a : Nat, a < s.heap.size → ¬ A a) : ∃ (a v : Nat → Nat), ∀ k : Nat, k < 58 → vk_R (jsOwn k) (jsIdx k) (jsTxt k) (a k) s ∧ va_O "java/lang/String" (a k) A s s.heap ∧ va_OF "java/lang/String" "coder" "B" (.int 0) (a k) A s s.heap ∧ va_OF "java/lang/String" "value" "[B" (.ref (v k)) (a k) A s s.heap ∧ va_T .byte (v k) (jsB.getD k []).length (fun j => .int (Int32.ofNat ((jsB.getD k []).getD j 0))) A s s.heap := by
  have h0 := jstr_of (A := A) hs hA (fun k hk => hts _ (jwR_in k hk))
  have h : ∀ k : Nat, ∃ r : Nat × Nat, k < 58 → vk_R (jsOwn k) (jsIdx k) (jsTxt k) r.1 s ∧ va_O "java/lang/String" r.1 A s s.heap ∧ va_OF "java/lang/String" "coder" "B" (.int 0) r.1 A s s.heap ∧ va_OF "java/lang/String" "value" "[B" (.ref r.2) r.1 A s s.heap ∧ va_T .byte r.2 (jsB.getD k []).length (fun j => .int (Int32.ofNat ((jsB.getD k []).getD j 0))) A s s.heap := by
    intro k
    by_cases hk : k < 58
    · obtain ⟨a, v, h⟩ := h0 k hk
      exact ⟨(a, v), fun _ => h⟩
    · exact ⟨(0, 0), fun q => absurd q hk⟩
  exact ⟨fun k => (Classical.choose (h k)).1, fun k => (Classical.choose (h k)).2, fun k hk => Classical.choose_spec (h k) hk⟩
theorem top_N {args : Array Value} {s : State} (hts : ∀ w ∈ lw_tbl, w.before args s = true) : ∀ w ∈ jNB, va_Nw w s := by
  intro w hw
  have h1 := hts w (List.mem_filter.mp hw).1
  have h2 := (List.mem_filter.mp hw).2
  cases w <;> first | (exact h1) | (exact absurd h2 (by decide)) | (simp [jnest] at h2)
theorem jwN_in : ∀ a ∈ [(1 : Int), 2, 3, 4], ∀ b ∈ [(1 : Int), 2, 3, 4], a ≠ b → Cond.not (.castable (jen a) (jen b)) ∈ (flatC (Jvm.Cond.and given_1 narrow_1)).take 129 := by decide +kernel
theorem top_C {args : Array Value} {s : State} (hs : ∀ w ∈ flatC (Jvm.Cond.and given_1 narrow_1), w.before args s = true) : jNcs s := fun a ha b hb hab => va_Nc.of (hs _ (List.mem_of_mem_take (jwN_in a ha b hb hab)))
theorem jwS_in : (Cond.eq (.static "java/lang/String" "COMPACT_STRINGS" "Z") (.int 1)) ∈ (flatC (Jvm.Cond.and given_1 narrow_1)).take 129 ∧ (Cond.isRef (.static "jdk/internal/util/Preconditions" "SIOOBE_FORMATTER" "Ljava/util/function/BiFunction;")) ∈ (flatC (Jvm.Cond.and given_1 narrow_1)).take 129 ∧ (Cond.isRef (.static Bundle.tN "UNASSIGNED_STACK" Bundle.steD)) ∈ (flatC (Jvm.Cond.and given_1 narrow_1)).take 129 ∧ (Cond.isRef (.static Bundle.tN "SUPPRESSED_SENTINEL" Bundle.listD)) ∈ (flatC (Jvm.Cond.and given_1 narrow_1)).take 129 := by decide +kernel
theorem jwS_tb : Cond.laysStatic "java/lang/String" "COMPACT_STRINGS" "Z" ∈ lw_tbl ∧ Cond.initialized "java/lang/String" ∈ lw_tbl ∧ Cond.laysStatic "jdk/internal/util/Preconditions" "SIOOBE_FORMATTER" "Ljava/util/function/BiFunction;" ∈ lw_tbl ∧ Cond.initialized "jdk/internal/util/Preconditions" ∈ lw_tbl ∧ Cond.laysStatic Bundle.tN "UNASSIGNED_STACK" Bundle.steD ∈ lw_tbl ∧ Cond.initialized Bundle.tN ∈ lw_tbl ∧ Cond.laysStatic Bundle.tN "SUPPRESSED_SENTINEL" Bundle.listD ∈ lw_tbl := by decide +kernel
theorem jwO_in : Cond.arrayOver (.object "IceJudge$Skating") ∈ lw_tbl ∧ Cond.arrayOver (.object "IceJudge$Tally") ∈ lw_tbl := by decide +kernel
