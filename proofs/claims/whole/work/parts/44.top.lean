/-! ===== what the start gives: strings ===== -/
def jwS (k : Nat) : List Cond :=
  [Cond.exactly (.string (jsOwn k) (jsIdx k)) "java/lang/String", Cond.eq (.field (.string (jsOwn k) (jsIdx k)) "java/lang/String" "coder" "B") (.int 0), Cond.arrayOf (.field (.string (jsOwn k) (jsIdx k)) "java/lang/String" "value" "[B") .byte, Cond.eq (.length (.field (.string (jsOwn k) (jsIdx k)) "java/lang/String" "value" "[B")) (.int (Int32.ofNat (jsB.getD k []).length))] ++
  (List.range (jsB.getD k []).length).map (fun j => Cond.eq (.elem (.field (.string (jsOwn k) (jsIdx k)) "java/lang/String" "value" "[B") (.int (Int32.ofNat j))) (.int (Int32.ofNat ((jsB.getD k []).getD j 0))))
theorem jnar : ((flatC (Jvm.Cond.and given_1 narrow_1)).drop 129).take 1035 = (List.range 58).flatMap jwS := by decide +kernel
theorem jnar_mem {k : Nat} (hk : k < 58) {w : Cond} (hw : w ∈ jwS k) : w ∈ flatC (Jvm.Cond.and given_1 narrow_1) :=
  List.mem_of_mem_drop (i := 129) (List.mem_of_mem_take (i := 1035) (by rw [jnar]; exact List.mem_flatMap.mpr ⟨k, List.mem_range.mpr hk, hw⟩))
theorem jslen : ∀ k, k < 58 → (jsB.getD k []).length < 2 ^ 31 := by decide +kernel
theorem jstr_of {args : Array Value} {s : State} {A : Nat → Prop} (hs : ∀ w ∈ flatC (Jvm.Cond.and given_1 narrow_1), w.before args s = true) (hA : ∀ a : Nat, a < s.heap.size → ¬ A a) (hr : ∀ k, k < 58 → (Cond.stringRef (jsOwn k) (jsIdx k) (jsTxt k)).before #[] s = true) :
    ∀ k, k < 58 → ∃ a v : Nat, vk_R (jsOwn k) (jsIdx k) (jsTxt k) a s ∧ va_O "java/lang/String" a A s s.heap ∧ va_OF "java/lang/String" "coder" "B" (.int 0) a A s s.heap ∧ va_OF "java/lang/String" "value" "[B" (.ref v) a A s s.heap ∧ va_T .byte v (jsB.getD k []).length (fun j => .int (Int32.ofNat ((jsB.getD k []).getD j 0))) A s s.heap := by
  intro k hk
  have hm : ∀ w ∈ jwS k, w.before args s = true := fun w hw => hs w (jnar_mem hk hw)
  have h1 := hm (Cond.exactly (.string (jsOwn k) (jsIdx k)) "java/lang/String") (by unfold jwS; simp)
  have h2 := hm (Cond.eq (.field (.string (jsOwn k) (jsIdx k)) "java/lang/String" "coder" "B") (.int 0)) (by unfold jwS; simp)
  have h3 := hm (Cond.arrayOf (.field (.string (jsOwn k) (jsIdx k)) "java/lang/String" "value" "[B") .byte) (by unfold jwS; simp)
  have h4 := hm (Cond.eq (.length (.field (.string (jsOwn k) (jsIdx k)) "java/lang/String" "value" "[B")) (.int (Int32.ofNat (jsB.getD k []).length))) (by unfold jwS; simp)
  have h5 : ∀ j, j < (jsB.getD k []).length → (Term.elem (.field (.string (jsOwn k) (jsIdx k)) "java/lang/String" "value" "[B") (.int (Int32.ofNat j))).eval args s none [] s = some (.int (Int32.ofNat ((jsB.getD k []).getD j 0))) := fun j hj =>
    Cond.eq_int (hm (Cond.eq (.elem (.field (.string (jsOwn k) (jsIdx k)) "java/lang/String" "value" "[B") (.int (Int32.ofNat j))) (.int (Int32.ofNat ((jsB.getD k []).getD j 0)))) (by
      unfold jwS
      exact List.mem_append_right _ (List.mem_map.mpr ⟨j, List.mem_range.mpr hj, rfl⟩))) rfl
  obtain ⟨a, c, cA, kA, q1, -⟩ := Cond.exactly_spec (args := args) (first := s) (o := none) (s := s) (idx := []) (t := .string (jsOwn k) (jsIdx k)) (cls := "java/lang/String") h1
  obtain ⟨v, hv, hT⟩ := va_Tof (A := A) (jslen k hk) h3 (Cond.eq_int h4 rfl) h5 hA
  exact ⟨a, v, ⟨hr k hk, q1⟩, va_Oof h1 q1 hA, vk_OFof q1 (Cond.eq_int h2 rfl) hA, vk_OFof q1 hv hA, hT⟩
