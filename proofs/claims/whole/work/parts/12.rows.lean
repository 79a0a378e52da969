/-! ===== String constants: where they stand, their texts, their bytes ===== -/
def jstr : List (String × Nat × String) := [("IceJudge$Reader", 46, "element judges deduct skater do show lasts drop half late repeat factor "), ("IceJudge$Reader", 129, "jump spin steps "), ("IceJudge$Reader", 226, "falls time tries jumps spins steps late struck unders edges "), ("IceJudge$Reader", 206, "if "), ("IceJudge$Reader", 221, "and or "), ("IceJudge$Reader", 189, "under edge fall "), ("IceJudge", 72, "the text is wrong"), ("IceJudge", 356, "there is no such skater"), ("IceJudge", 359, "there is no such element"), ("IceJudge", 110, "an element has no such what"), ("IceJudge", 364, "there is no such attempt"), ("IceJudge", 162, "an attempt has no such what"), ("IceJudge", 366, "there is no such judge"), ("IceJudge", 368, "there is no such component"), ("IceJudge", 202, "a skater has no such what"), ("IceJudge", 209, "there is no such rule"), ("IceJudge", 225, "that is no grade"), ("IceJudge", 231, "that is no mark"), ("IceJudge", 233, "that is no call"), ("IceJudge", 239, "that is no base"), ("IceJudge", 241, "there is no such setting"), ("IceJudge", 249, "the setting is out of its bounds"), ("IceJudge", 370, "there is no other judge"), ("IceJudge", 372, "there is no panel of so many"), ("IceJudge", 302, "that is no panel"), ("IceJudge", 313, "they are one"), ("IceJudge", 323, "no grade is greater"), ("IceJudge", 326, "that is no number of attempts"), ("IceJudge", 331, "that is no time"), ("IceJudgeModel", 225, "element"), ("IceJudgeModel", 195, "jump"), ("IceJudgeModel", 197, "spin"), ("IceJudgeModel", 138, "steps"), ("IceJudgeModel", 234, "judges"), ("IceJudgeModel", 236, "drop"), ("IceJudgeModel", 238, "factor"), ("IceJudgeModel", 240, "half"), ("IceJudgeModel", 140, "late"), ("IceJudgeModel", 242, "repeat"), ("IceJudgeModel", 244, "deduct"), ("IceJudgeModel", 128, "falls"), ("IceJudgeModel", 130, "time"), ("IceJudgeModel", 132, "tries"), ("IceJudgeModel", 134, "jumps"), ("IceJudgeModel", 136, "spins"), ("IceJudgeModel", 142, "struck"), ("IceJudgeModel", 144, "unders"), ("IceJudgeModel", 146, "edges"), ("IceJudgeModel", 186, "if"), ("IceJudgeModel", 176, "and"), ("IceJudgeModel", 184, "or"), ("IceJudgeModel", 249, "skater"), ("IceJudgeModel", 251, "do"), ("IceJudgeModel", 219, "under"), ("IceJudgeModel", 221, "edge"), ("IceJudgeModel", 223, "fall"), ("IceJudgeModel", 261, "show"), ("IceJudgeModel", 263, "lasts")]
def jsOwn (k : Nat) : String := (jstr.getD k ("", 0, "")).1
def jsIdx (k : Nat) : Nat := (jstr.getD k ("", 0, "")).2.1
def jsTxt (k : Nat) : String := (jstr.getD k ("", 0, "")).2.2
def jStr (X : jX) (k : Nat) (U : State) (H : Heap) : Prop :=
  vk_R (jsOwn k) (jsIdx k) (jsTxt k) (jXk X k) U ∧ va_O "java/lang/String" (jXk X k) (jAd X) U H ∧ va_OF "java/lang/String" "coder" "B" (.int 0) (jXk X k) (jAd X) U H ∧ va_OF "java/lang/String" "value" "[B" (.ref (jXv X k)) (jXk X k) (jAd X) U H ∧ va_T .byte (jXv X k) (jsB.getD k []).length (fun j => .int (Int32.ofNat ((jsB.getD k []).getD j 0))) (jAd X) U H
theorem jStr.kept {X : jX} {k : Nat} {U : State} {H H1 : Heap} (h : jStr X k U H) (hq : ∀ a : Nat, a < H.size → ¬ jAd X a → H1[a]? = H[a]?) : jStr X k U H1 := ⟨h.1, h.2.1.kept hq, h.2.2.1.kept hq, h.2.2.2.1.kept hq, h.2.2.2.2.kept hq⟩
theorem jStr.warm {X : jX} {k : Nat} {s U : State} {H : Heap} (hW : s.WarmedH U.vm) (h : jStr X k s H) : jStr X k U H := ⟨vk_R.warm hW h.1, va_O.moved hW.alike h.2.1, va_OF.moved hW.alike h.2.2.1, va_OF.moved hW.alike h.2.2.2.1, va_T.moved hW.alike h.2.2.2.2⟩
theorem jStr.same {X : jX} {k : Nat} {s U : State} {H : Heap} (hv : U.vm = s.vm) (h : jStr X k s H) : jStr X k U H := by
  have ha : s.vm.Alike U.vm := by rw [hv]; exact Vm.Alike.refl _
  exact ⟨vk_R.same hv h.1, va_O.moved ha h.2.1, va_OF.moved ha h.2.2.1, va_OF.moved ha h.2.2.2.1, va_T.moved ha h.2.2.2.2⟩
/-- statics of the JDK that are read -/
def jSt (X : jX) (U : State) (H : Heap) : Prop := (jXl X).stackTraces = false ∧ va_Z "java/lang/String" "COMPACT_STRINGS" "Z" (.int 1) (jAd X) U H ∧ va_Zq "jdk/internal/util/Preconditions" "SIOOBE_FORMATTER" "Ljava/util/function/BiFunction;" (jAd X) U H ∧
  vx_Zq Bundle.tN "UNASSIGNED_STACK" Bundle.steD (jAd X) U H ∧ vx_Zq Bundle.tN "SUPPRESSED_SENTINEL" Bundle.listD (jAd X) U H
theorem jSt.kept {X : jX} {U : State} {H H1 : Heap} (h : jSt X U H) (hq : ∀ a : Nat, a < H.size → ¬ jAd X a → H1[a]? = H[a]?) : jSt X U H1 := ⟨h.1, h.2.1.kept hq, h.2.2.1.kept hq, h.2.2.2.1.kept hq, h.2.2.2.2.kept hq⟩
theorem jSt.moved {X : jX} {s U : State} {H : Heap} (ha : s.vm.Alike U.vm) (h : jSt X s H) : jSt X U H := ⟨h.1, h.2.1.moved ha, h.2.2.1.moved ha, h.2.2.2.1.moved ha, h.2.2.2.2.moved ha⟩
/-! ===== the judgement: a frame by places, a memory of whole numbers ===== -/
abbrev jC : Type := Program × Launch × Env × Room × State × MethodId × Array Value × List Frame × Method × Code × (State → Prop)
/-- the words that hold wherever the method's own do -/
def jTB : List Cond := lw_tbl.filter goodWord
def jnest : Cond → Bool
  | .fieldLinkNest .. => true
  | .methodLinkNest .. => true
  | .castable .. => true
  | .declares _ => true
  | _ => false
def jNB : List Cond := lw_tbl.filter jnest
theorem jTB_mem {w : Cond} (h : w ∈ lw_tbl) (hg : goodWord w = true) : w ∈ jTB := List.mem_filter.mpr ⟨h, hg⟩
theorem jTB_good : GoodIn jTB jTB := fun w h => ⟨h, good_of_word (List.mem_filter.mp h).2⟩
def jsnm (k : Nat) : String := if k = 0 then "SETTING_LEAST" else if k = 1 then "SETTING_MOST" else "SETTING_FIRST"
def jTa (X : jX) (k : Nat) (U : State) (H : Heap) : Prop := va_Z "IceJudge" (jsnm k) "[I" (.ref (jXt X k)) (jAd X) U H ∧ va_T .int (jXt X k) 7 (fun j => .int (Int32.ofInt ((jsv k).getD j 0))) (jAd X) U H
/-- what a method knows of the tables and of the old cells -/
def jO (X : jX) (U : State) (H : Heap) : Prop :=
  va_K (jXD X) vwCl (jtys X) U ∧ (∀ w ∈ jNB, va_Nw w U) ∧ (∀ k : Nat, k < 3 → jTa X k U H) ∧ (∀ k : Nat, k < 58 → jStr X k U H) ∧ jSt X U H
theorem jO.kept {X : jX} {U : State} {H H1 : Heap} (h : jO X U H) (hq : ∀ a : Nat, a < H.size → ¬ jAd X a → H1[a]? = H[a]?) : jO X U H1 :=
  ⟨h.1, h.2.1, fun k hk => ⟨(h.2.2.1 k hk).1.kept hq, (h.2.2.1 k hk).2.kept hq⟩, fun k hk => (h.2.2.2.1 k hk).kept hq, h.2.2.2.2.kept hq⟩
theorem jO.warm {X : jX} {s U : State} {H : Heap} (hW : s.WarmedH U.vm) (h : jO X s H) : jO X U H := by
  refine ⟨va_K.moved hW.alike h.1, fun w hw => ?_, fun k hk => ⟨(h.2.2.1 k hk).1.moved hW.alike, (h.2.2.1 k hk).2.moved hW.alike⟩, fun k hk => (h.2.2.2.1 k hk).warm hW, h.2.2.2.2.moved hW.alike⟩
  have h1 := h.2.1 w hw
  have h2 := (List.mem_filter.mp hw).2
  cases w <;> first | (exact va_Nw.warmF hW h1) | (exact va_Nw.warmM hW h1) | (exact va_Nw.warmC hW h1) | (exact va_Nw.warmD hW h1) | (exact absurd h2 (by decide)) | (simp [jnest] at h2)
theorem jO.calling {X : jX} {U : State} {H : Heap} (g : JFrame) (mk : MethodId) (a : Array Value) (h : jO X U H) : jO X (U.calling g mk a) H := by
  refine ⟨va_K.moved (u := U) (U := U.calling g mk a) (Vm.Alike.refl U.vm) h.1, fun w hw => ?_, fun k hk => ⟨(h.2.2.1 k hk).1.moved (u := U) (U := U.calling g mk a) (Vm.Alike.refl U.vm), (h.2.2.1 k hk).2.moved (u := U) (U := U.calling g mk a) (Vm.Alike.refl U.vm)⟩, fun k hk => (h.2.2.2.1 k hk).same (s := U) (U := U.calling g mk a) rfl, h.2.2.2.2.moved (s := U) (U := U.calling g mk a) (Vm.Alike.refl U.vm)⟩
  have h1 := h.2.1 w hw
  have h2 := (List.mem_filter.mp hw).2
  cases w <;> first | (exact va_Nw.same rfl (u := U) (U := U.calling g mk a) rfl h1) | (simp [jnest] at h2)
def jOk (C : jC) (X : jX) (own : String) (cc : ByteArray) (nL n d : Nat) : Prop := match C with
  | (p, l, _, R, s, m, args, _, meth, c, _) => p.tables.exec = Jvm.exec ∧ c.code = cc ∧ c.maxLocals = nL ∧ s.vm.findClass own = some m.cls ∧ (∀ w ∈ jTB, w.before args s = true) ∧ jO X s s.heap ∧ 179 ≤ n ∧ d ≤ R.frames ∧ 100 * d ≤ R.locals ∧ meth.locks = false ∧ jXB X ≤ s.heap.size ∧ l = jXl X
def jG (C : jC) (X : jX) (n nL kc ks pc : Nat) (ls st : List jV) (M : jM) : Prop := match C with
  | (p, l, e, R, s, m, args, below, meth, c, Q) => ∀ (H : Heap) (locs : List Loc) (la : Array Slot), jH X n M H → va_S (jAd X) s.heap H locs → jLo X nL la ls → W p l e R s m args below meth c H locs kc ks Q (F0 m pc la (st.map (jcv X)))
section JR
variable {C : jC} {X : jX} {own : String} {cc : ByteArray} {n nL d kc ks pc : Nat} {ls st : List jV} {M : jM}
theorem x_go {a b : Int} (pc2 : Nat) (h : pc = pc2) (k : jG C X n nL kc ks pc2 ls st M) : jG C X n nL kc ks pc ls st M := by subst h; exact k
theorem x_iconst (hC : jOk C X own cc nL n d) {z : Int} (hd : decode cc pc = .ok (.iconst z, 1)) (k : jG C X n nL kc ks (pc + 1) ls (jI z :: st) M) : jG C X n nL kc ks pc ls st M := by
  obtain ⟨p, l, e, R, s, m, args, below, meth, c, Q⟩ := C
  obtain ⟨hx, hb, -⟩ := hC
  intro H locs la hH hS hL
  exact lv_iconst hx hb hd rfl (k H locs la hH hS hL)
theorem x_bipush (hC : jOk C X own cc nL n d) {z : Int} (hd : decode cc pc = .ok (.bipush z, 2)) (hz : (Int8.ofInt z).toInt32 = Int32.ofInt z) (k : jG C X n nL kc ks (pc + 2) ls (jI z :: st) M) : jG C X n nL kc ks pc ls st M := by
  obtain ⟨p, l, e, R, s, m, args, below, meth, c, Q⟩ := C
  obtain ⟨hx, hb, -⟩ := hC
  intro H locs la hH hS hL
  exact lv_bipush hx hb hd hz (k H locs la hH hS hL)
theorem x_sipush (hC : jOk C X own cc nL n d) {z : Int} (hd : decode cc pc = .ok (.sipush z, 3)) (hz : (Int16.ofInt z).toInt32 = Int32.ofInt z) (k : jG C X n nL kc ks (pc + 3) ls (jI z :: st) M) : jG C X n nL kc ks pc ls st M := by
  obtain ⟨p, l, e, R, s, m, args, below, meth, c, Q⟩ := C
  obtain ⟨hx, hb, -⟩ := hC
  intro H locs la hH hS hL
  exact lv_sipush hx hb hd hz (k H locs la hH hS hL)
theorem x_lconst (hC : jOk C X own cc nL n d) {f : Fin 2} {z : Int} (hd : decode cc pc = .ok (.lconst f, 1)) (hz : Int64.ofNat (f : Nat) = Int64.ofInt z) (k : jG C X n nL kc ks (pc + 1) ls (jJ z :: st) M) : jG C X n nL kc ks pc ls st M := by
  obtain ⟨p, l, e, R, s, m, args, below, meth, c, Q⟩ := C
  obtain ⟨hx, hb, -⟩ := hC
  intro H locs la hH hS hL
  exact lv_lconst hx hb hd hz (k H locs la hH hS hL)
theorem jLo.ofStore {la' : Array Slot} {i : Nat} {v : jV} (h' : lv_has la' nL ((i, jcv X v) :: (jal X 0 ls).filter (fun q => !(q.1 == i) && !(q.1 + 1 == i && q.2.category == 2)))) (hn : jnl ls i = true) (hv : v.1 ≠ 3) : jLo X nL la' (ls.set i v) := by
  refine ⟨h'.1, h'.2.1, fun q hq => h'.2.2 q ?_⟩
  obtain ⟨j, w, h1, h2, h3⟩ := jal_mem.mp hq
  rw [Nat.zero_add] at h3
  by_cases hj : j = i
  · subst hj
    have hl : j < ls.length := by
      have := (List.getElem?_eq_some_iff.mp h1).1
      simpa using this
    rw [List.getElem?_set_self hl] at h1
    cases h1
    exact List.mem_cons.mpr (Or.inl h3)
  · rw [List.getElem?_set_ne (Ne.symm hj)] at h1
    refine List.mem_cons.mpr (Or.inr (List.mem_filter.mpr ⟨jal_mem.mpr ⟨j, w, h1, h2, by rw [h3, Nat.zero_add]⟩, ?_⟩))
    rw [h3]
    have hj1 : (j == i) = false := by simpa using hj
    by_cases hji : j + 1 = i
    · have := jnl_no hn hji h1
      have hc2 : ¬ (jcv X w).category = 2 := fun z => this ((jcv_cat X w).mp z)
      simp [hj1, hc2]
    · simp [hj1, hji]
theorem jLo.ofStore2 {la' : Array Slot} {i : Nat} {z : Int} (h' : lv_has la' nL ((i, Value.long (Int64.ofInt z)) :: (jal X 0 ls).filter (fun q => !(q.1 == i) && (!(q.1 == i + 1) && !(q.1 + 1 == i && q.2.category == 2))))) (hn : jnl ls i = true) : jLo X nL la' ((ls.set i (jJ z)).set (i + 1) jN) := by
  refine ⟨h'.1, h'.2.1, fun q hq => h'.2.2 q ?_⟩
  obtain ⟨j, w, h1, h2, h3⟩ := jal_mem.mp hq
  rw [Nat.zero_add] at h3
  by_cases hj2 : j = i + 1
  · subst hj2
    have hl : i + 1 < (ls.set i (jJ z)).length := by
      have := (List.getElem?_eq_some_iff.mp h1).1
      simpa using this
    rw [List.getElem?_set_self hl] at h1
    cases h1
    exact absurd rfl h2
  · rw [List.getElem?_set_ne (Ne.symm hj2)] at h1
    by_cases hj : j = i
    · subst hj
      have hl : j < ls.length := by
        have := (List.getElem?_eq_some_iff.mp h1).1
        simpa using this
      rw [List.getElem?_set_self hl] at h1
      cases h1
      exact List.mem_cons.mpr (Or.inl h3)
    · rw [List.getElem?_set_ne (Ne.symm hj)] at h1
      refine List.mem_cons.mpr (Or.inr (List.mem_filter.mpr ⟨jal_mem.mpr ⟨j, w, h1, h2, by rw [h3, Nat.zero_add]⟩, ?_⟩))
      rw [h3]
      have hj1 : (j == i) = false := by simpa using hj
      have hj3 : (j == i + 1) = false := by simpa using hj2
      by_cases hji : j + 1 = i
      · have := jnl_no hn hji h1
        have hc2 : ¬ (jcv X w).category = 2 := fun z => this ((jcv_cat X w).mp z)
        simp [hj1, hj3, hc2]
      · simp [hj1, hj3, hji]
theorem j_toInt (z : Int) : (Int32.ofInt z).toInt = jw z := by rw [Int32.toInt_ofInt]; rfl
theorem j_toIntl (z : Int) : (Int64.ofInt z).toInt = jwl z := by rw [Int64.toInt_ofInt]; rfl
theorem j_eq {a b : Int} : Int32.ofInt a = Int32.ofInt b ↔ jw a = jw b := by rw [← Int32.toInt_inj, j_toInt, j_toInt]
theorem j_ne {a b : Int} : ¬ Int32.ofInt a = Int32.ofInt b ↔ ¬ jw a = jw b := by rw [j_eq]
theorem j_lt {a b : Int} : Int32.ofInt a < Int32.ofInt b ↔ jw a < jw b := by rw [Int32.lt_iff_toInt_lt, j_toInt, j_toInt]
theorem j_le {a b : Int} : Int32.ofInt a ≤ Int32.ofInt b ↔ jw a ≤ jw b := by rw [Int32.le_iff_toInt_le, j_toInt, j_toInt]
theorem jw0 : jw 0 = 0 := by decide
theorem j_z : (0 : Int32) = Int32.ofInt 0 := rfl
theorem j_eq0 {a : Int} : Int32.ofInt a = 0 ↔ jw a = 0 := by rw [j_z, j_eq, jw0]
theorem j_ne0 {a : Int} : ¬ Int32.ofInt a = 0 ↔ ¬ jw a = 0 := by rw [j_eq0]
theorem j_lt0 {a : Int} : Int32.ofInt a < 0 ↔ jw a < 0 := by rw [j_z, j_lt, jw0]
theorem j_le0 {a : Int} : Int32.ofInt a ≤ 0 ↔ jw a ≤ 0 := by rw [j_z, j_le, jw0]
theorem j_lt0r {a : Int} : 0 < Int32.ofInt a ↔ 0 < jw a := by rw [j_z, j_lt, jw0]
theorem j_le0r {a : Int} : 0 ≤ Int32.ofInt a ↔ 0 ≤ jw a := by rw [j_z, j_le, jw0]
theorem jne0 {a : Int} (h : jw a ≠ 0) : ¬ Int32.ofInt a = 0 := j_ne0.mpr h
theorem jdiv_eq (a b : Int) : Int32.ofInt a / Int32.ofInt b = Int32.ofInt ((jw a).tdiv (jw b)) := by
  apply Int32.toInt_inj.mp
  rw [Int32.toInt_div, j_toInt, j_toInt, Int32.toInt_ofInt]
theorem j_of (a : Int) : Int32.ofInt (jw a) = Int32.ofInt a := by rw [← j_toInt, Int32.ofInt_toInt]
theorem j_ofl (a : Int) : Int64.ofInt (jwl a) = Int64.ofInt a := by rw [← j_toIntl, Int64.ofInt_toInt]
theorem jrem_eq (a b : Int) : Int32.ofInt a - Int32.ofInt a / Int32.ofInt b * Int32.ofInt b = Int32.ofInt ((jw a).tmod (jw b)) := by
  rw [jdiv_eq, Int.tmod_def, Int32.ofInt_sub, Int32.ofInt_mul, j_of, j_of, Int32.mul_comm]
theorem jw_b (z : Int) : -2147483648 ≤ jw z ∧ jw z ≤ 2147483647 := by
  have h1 := Int.le_bmod (x := z) (m := 4294967296) (by decide)
  have h2 := Int.bmod_lt (x := z) (m := 4294967296) (by decide)
  unfold jw
  omega
theorem jb8_b (z : Int) : -128 ≤ jb8 z ∧ jb8 z ≤ 127 := by
  have h1 := Int.le_bmod (x := z) (m := 256) (by decide)
  have h2 := Int.bmod_lt (x := z) (m := 256) (by decide)
  unfold jb8
  omega
theorem jw_of {z : Int} (h1 : -2147483648 ≤ z) (h2 : z ≤ 2147483647) : jw z = z := by
  unfold jw
  apply Int.bmod_eq_of_le <;> omega
theorem jwl_of {z : Int} (h1 : -9223372036854775808 ≤ z) (h2 : z ≤ 9223372036854775807) : jwl z = z := by
  unfold jwl
  apply Int.bmod_eq_of_le <;> omega
theorem j_i2l (a : Int) : (Int32.ofInt a).toInt64 = Int64.ofInt (jw a) := by
  apply Int64.toInt_inj.mp
  have := jw_b a
  rw [Int32.toInt_toInt64, j_toInt, j_toIntl, jwl_of (by omega) (by omega)]
theorem j_l2i (a : Int) : (Int64.ofInt a).toInt32 = Int32.ofInt a := by
  apply Int32.toInt_inj.mp
  rw [Int64.toInt_toInt32, Int64.toInt_ofInt, Int32.toInt_ofInt]
  exact Int.bmod_bmod_of_dvd (by decide)
theorem j_i2b (a : Int) : (Int32.ofInt a).toInt8.toInt32 = Int32.ofInt (jb8 a) := by
  apply Int32.toInt_inj.mp
  have := jb8_b a
  rw [Int8.toInt_toInt32, Int32.toInt_toInt8, j_toInt, j_toInt, jw_of (z := jb8 a) (by omega) (by omega)]
  unfold jw jb8
  rw [Int.bmod_bmod_of_dvd (by decide)]
theorem j_cat1 (X : jX) {v : jV} (h : v.1 ≠ 3) : (jcv X v).category = 1 := by
  rcases lv_cat (jcv X v) with q | q
  · exact q
  · exact absurd ((jcv_cat X v).mp q) h
theorem j_lcmp {p : Program} {l : Launch} {e : Env} {R : Room} {s : State} {m : MethodId} {args : Array Value} {below : List Frame} {meth : Method} {c : Code} {H : Heap} {locs : List Loc} {Q : State → Prop} {la : Array Slot} {rest : List Value} {a b : Int} (hx : p.tables.exec = Jvm.exec) (hb : c.code = cc) (hd : decode cc pc = .ok (.lcmp, 1)) (k : W p l e R s m args below meth c H locs kc ks Q (F0 m (pc + 1) la (.int (Int32.ofInt (jcmp a b)) :: rest))) : W p l e R s m args below meth c H locs kc ks Q (F0 m pc la (.long (Int64.ofInt b) :: .long (Int64.ofInt a) :: rest)) := by
  refine W.lcmp hx hb hd ?_
  have h1 : lg_cmp (Int64.ofInt a) (Int64.ofInt b) = Int32.ofInt (jcmp a b) := by
    unfold lg_cmp jcmp
    simp only [Int64.lt_iff_toInt_lt, j_toIntl, ← Int64.toInt_inj]
    by_cases q1 : jwl b < jwl a
    · rw [if_pos q1, if_neg (by omega), if_neg (by omega)]; rfl
    · rw [if_neg q1]
      by_cases q2 : jwl a = jwl b
      · rw [if_pos q2, if_neg (by omega), if_pos q2]; rfl
      · rw [if_neg q2, if_pos (by omega)]; rfl
  rw [h1]
  exact k
theorem x_iload_n (hC : jOk C X own cc nL n d) {f : Fin 4} {i : Nat} {z : Int} (hd : decode cc pc = .ok (.iload_n f, 1)) (hi : (f : Nat) = i) (hl : ls[i]? = some (jI z)) (k : jG C X n nL kc ks (pc + 1) ls (jI z :: st) M) : jG C X n nL kc ks pc ls st M := by
  obtain ⟨p, l, e, R, s, m, args, below, meth, c, Q⟩ := C
  obtain ⟨hx, hb, -⟩ := hC
  intro H locs la hH hS hL
  exact lv_iload_n hx hb hd hi (hL.at hl (show (1 : Nat) ≠ 0 by decide)) (k H locs la hH hS hL)
theorem x_iload (hC : jOk C X own cc nL n d) {i : Nat} {z : Int} (hd : decode cc pc = .ok (.iload i, 2)) (hl : ls[i]? = some (jI z)) (k : jG C X n nL kc ks (pc + 2) ls (jI z :: st) M) : jG C X n nL kc ks pc ls st M := by
  obtain ⟨p, l, e, R, s, m, args, below, meth, c, Q⟩ := C
  obtain ⟨hx, hb, -⟩ := hC
  intro H locs la hH hS hL
  exact lv_iload hx hb hd (hL.at hl (show (1 : Nat) ≠ 0 by decide)) (k H locs la hH hS hL)
theorem x_lload_n (hC : jOk C X own cc nL n d) {f : Fin 4} {i : Nat} {z : Int} (hd : decode cc pc = .ok (.lload_n f, 1)) (hi : (f : Nat) = i) (hl : ls[i]? = some (jJ z)) (k : jG C X n nL kc ks (pc + 1) ls (jJ z :: st) M) : jG C X n nL kc ks pc ls st M := by
  obtain ⟨p, l, e, R, s, m, args, below, meth, c, Q⟩ := C
  obtain ⟨hx, hb, -⟩ := hC
  intro H locs la hH hS hL
  exact lv_lload_n hx hb hd hi (hL.at hl (show (3 : Nat) ≠ 0 by decide)) (k H locs la hH hS hL)
theorem x_lload (hC : jOk C X own cc nL n d) {i : Nat} {z : Int} (hd : decode cc pc = .ok (.lload i, 2)) (hl : ls[i]? = some (jJ z)) (k : jG C X n nL kc ks (pc + 2) ls (jJ z :: st) M) : jG C X n nL kc ks pc ls st M := by
  obtain ⟨p, l, e, R, s, m, args, below, meth, c, Q⟩ := C
  obtain ⟨hx, hb, -⟩ := hC
  intro H locs la hH hS hL
  exact lv_lload hx hb hd (hL.at hl (show (3 : Nat) ≠ 0 by decide)) (k H locs la hH hS hL)
theorem x_aload_n (hC : jOk C X own cc nL n d) {f : Fin 4} {i : Nat} {v : jV} {q : Nat} (hd : decode cc pc = .ok (.aload_n f, 1)) (hi : (f : Nat) = i) (hl : ls[i]? = some v) (hv : v.1 ≠ 0) (hq : jcv X v = .ref q) (k : jG C X n nL kc ks (pc + 1) ls (v :: st) M) : jG C X n nL kc ks pc ls st M := by
  obtain ⟨p, l, e, R, s, m, args, below, meth, c, Q⟩ := C
  obtain ⟨hx, hb, -⟩ := hC
  intro H locs la hH hS hL
  have h1 := hL.at hl hv
  rw [hq] at h1
  have h2 := k H locs la hH hS hL
  rw [List.map_cons, hq] at h2
  exact lv_aload_n hx hb hd hi h1 h2
theorem x_aload (hC : jOk C X own cc nL n d) {i : Nat} {v : jV} {q : Nat} (hd : decode cc pc = .ok (.aload i, 2)) (hl : ls[i]? = some v) (hv : v.1 ≠ 0) (hq : jcv X v = .ref q) (k : jG C X n nL kc ks (pc + 2) ls (v :: st) M) : jG C X n nL kc ks pc ls st M := by
  obtain ⟨p, l, e, R, s, m, args, below, meth, c, Q⟩ := C
  obtain ⟨hx, hb, -⟩ := hC
  intro H locs la hH hS hL
  have h1 := hL.at hl hv
  rw [hq] at h1
  have h2 := k H locs la hH hS hL
  rw [List.map_cons, hq] at h2
  exact lv_aload hx hb hd h1 h2
theorem x_istore_n (hC : jOk C X own cc nL n d) {f : Fin 4} {i : Nat} {z y : Int} {ls2 : List jV} (hd : decode cc pc = .ok (.istore_n f, 1)) (hf : (f : Nat) = i) (hi : i < nL) (hn : jnl ls i = true) (hy : y = z) (hls : ls.set i (jI y) = ls2) (k : jG C X n nL kc ks (pc + 1) ls2 st M) : jG C X n nL kc ks pc ls (jI z :: st) M := by
  obtain ⟨p, l, e, R, s, m, args, below, meth, c, Q⟩ := C
  obtain ⟨hx, hb, -⟩ := hC
  intro H locs la hH hS hL
  subst hf hy hls
  have hL0 := lv_istore_n (x := Int32.ofInt y) (lv' := (f.val, Value.int (Int32.ofInt y)) :: (jal X 0 ls).filter (fun q => !(q.1 == f.val) && !(q.1 + 1 == f.val && q.2.category == 2))) hx hb hd rfl hL hi rfl (rest := st.map (jcv X)) (p := p) (l := l) (e := e) (R := R) (s := s) (m := m) (args := args) (below := below) (meth := meth) (c := c) (H := H) (locs := locs) (cells := kc) (slots := ks) (Q := Q)
  exact hL0 (fun la' h' => k H locs la' hH hS (jLo.ofStore (v := (1, y)) h' hn (show (1 : Nat) ≠ 3 by decide)))
theorem x_istore (hC : jOk C X own cc nL n d) {i : Nat} {z y : Int} {ls2 : List jV} (hd : decode cc pc = .ok (.istore i, 2)) (hi : i < nL) (hn : jnl ls i = true) (hy : y = z) (hls : ls.set i (jI y) = ls2) (k : jG C X n nL kc ks (pc + 2) ls2 st M) : jG C X n nL kc ks pc ls (jI z :: st) M := by
  obtain ⟨p, l, e, R, s, m, args, below, meth, c, Q⟩ := C
  obtain ⟨hx, hb, -⟩ := hC
  intro H locs la hH hS hL
  subst hy hls
  exact lv_istore (x := Int32.ofInt y) hx hb hd hL hi rfl (fun la' h' => k H locs la' hH hS (jLo.ofStore (v := (1, y)) h' hn (show (1 : Nat) ≠ 3 by decide)))
theorem x_lstore_n (hC : jOk C X own cc nL n d) {f : Fin 4} {i : Nat} {z y : Int} {ls2 : List jV} (hd : decode cc pc = .ok (.lstore_n f, 1)) (hf : (f : Nat) = i) (hi : i + 1 < nL) (hn : jnl ls i = true) (hy : y = z) (hls : (ls.set i (jJ y)).set (i + 1) jN = ls2) (k : jG C X n nL kc ks (pc + 1) ls2 st M) : jG C X n nL kc ks pc ls (jJ z :: st) M := by
  obtain ⟨p, l, e, R, s, m, args, below, meth, c, Q⟩ := C
  obtain ⟨hx, hb, -⟩ := hC
  intro H locs la hH hS hL
  subst hf hy hls
  exact lv_lstore_n (x := Int64.ofInt y) hx hb hd rfl hL hi rfl (fun la' h' => k H locs la' hH hS (jLo.ofStore2 h' hn))
theorem x_lstore (hC : jOk C X own cc nL n d) {i : Nat} {z y : Int} {ls2 : List jV} (hd : decode cc pc = .ok (.lstore i, 2)) (hi : i + 1 < nL) (hn : jnl ls i = true) (hy : y = z) (hls : (ls.set i (jJ y)).set (i + 1) jN = ls2) (k : jG C X n nL kc ks (pc + 2) ls2 st M) : jG C X n nL kc ks pc ls (jJ z :: st) M := by
  obtain ⟨p, l, e, R, s, m, args, below, meth, c, Q⟩ := C
  obtain ⟨hx, hb, -⟩ := hC
  intro H locs la hH hS hL
  subst hy hls
  exact lv_lstore (x := Int64.ofInt y) hx hb hd hL hi rfl (fun la' h' => k H locs la' hH hS (jLo.ofStore2 h' hn))
theorem x_astore_n (hC : jOk C X own cc nL n d) {f : Fin 4} {i : Nat} {v : jV} {q : Nat} (hd : decode cc pc = .ok (.astore_n f, 1)) (hf : (f : Nat) = i) (hi : i < nL) (hn : jnl ls i = true) (hv : v.1 ≠ 3) (hq : jcv X v = .ref q) {ls2 : List jV} (hls : ls.set i v = ls2) (k : jG C X n nL kc ks (pc + 1) ls2 st M) : jG C X n nL kc ks pc ls (v :: st) M := by
  obtain ⟨p, l, e, R, s, m, args, below, meth, c, Q⟩ := C
  obtain ⟨hx, hb, -⟩ := hC
  intro H locs la hH hS hL
  subst hf hls
  rw [List.map_cons, hq]
  exact lv_astore_n (x := q) hx hb hd rfl hL hi rfl (fun la' h' => k H locs la' hH hS (jLo.ofStore (v := v) (by rw [hq]; exact h') hn hv))
theorem x_astore (hC : jOk C X own cc nL n d) {i : Nat} {v : jV} {q : Nat} (hd : decode cc pc = .ok (.astore i, 2)) (hi : i < nL) (hn : jnl ls i = true) (hv : v.1 ≠ 3) (hq : jcv X v = .ref q) {ls2 : List jV} (hls : ls.set i v = ls2) (k : jG C X n nL kc ks (pc + 2) ls2 st M) : jG C X n nL kc ks pc ls (v :: st) M := by
  obtain ⟨p, l, e, R, s, m, args, below, meth, c, Q⟩ := C
  obtain ⟨hx, hb, -⟩ := hC
  intro H locs la hH hS hL
  subst hls
  rw [List.map_cons, hq]
  exact lv_astore (x := q) hx hb hd hL hi rfl (fun la' h' => k H locs la' hH hS (jLo.ofStore (v := v) (by rw [hq]; exact h') hn hv))
theorem x_iinc (hC : jOk C X own cc nL n d) {i : Nat} {z y dz : Int} (hd : decode cc pc = .ok (.iinc i dz, 3)) (hl : ls[i]? = some (jI z)) (hi : i < nL) (hn : jnl ls i = true) (hy : y = z + dz) {ls2 : List jV} (hls : ls.set i (jI y) = ls2) (k : jG C X n nL kc ks (pc + 3) ls2 st M) : jG C X n nL kc ks pc ls st M := by
  obtain ⟨p, l, e, R, s, m, args, below, meth, c, Q⟩ := C
  obtain ⟨hx, hb, -⟩ := hC
  intro H locs la hH hS hL
  subst hy hls
  have hm : ((i, jcv X (1, z)) : Nat × Value) ∈ jal X 0 ls := jal_mem.mpr ⟨i, _, hl, show (1 : Nat) ≠ 0 by decide, by rw [Nat.zero_add]⟩
  obtain ⟨q, hq⟩ := List.getElem?_of_mem hm
  exact lv_iinc (x := Int32.ofInt z) (v := Int32.ofInt (z + dz)) hx hb hd hL hq (Int32.ofInt_add z dz).symm hi rfl (fun la' h' => k H locs la' hH hS (jLo.ofStore (v := (1, z + dz)) h' hn (show (1 : Nat) ≠ 3 by decide)))
theorem x_iadd (hC : jOk C X own cc nL n d) {a b : Int} (hd : decode cc pc = .ok (.iadd, 1)) (k : jG C X n nL kc ks (pc + 1) ls (jI (a + b) :: st) M) : jG C X n nL kc ks pc ls (jI b :: jI a :: st) M := by
  obtain ⟨p, l, e, R, s, m, args, below, meth, c, Q⟩ := C
  obtain ⟨hx, hb, -⟩ := hC
  intro H locs la hH hS hL
  have h2 := k H locs la hH hS hL
  rw [List.map_cons, jcv_i, Int32.ofInt_add] at h2
  exact lv_iadd hx hb hd  h2
theorem x_isub (hC : jOk C X own cc nL n d) {a b : Int} (hd : decode cc pc = .ok (.isub, 1)) (k : jG C X n nL kc ks (pc + 1) ls (jI (a - b) :: st) M) : jG C X n nL kc ks pc ls (jI b :: jI a :: st) M := by
  obtain ⟨p, l, e, R, s, m, args, below, meth, c, Q⟩ := C
  obtain ⟨hx, hb, -⟩ := hC
  intro H locs la hH hS hL
  have h2 := k H locs la hH hS hL
  rw [List.map_cons, jcv_i, Int32.ofInt_sub] at h2
  exact lv_isub hx hb hd  h2
theorem x_imul (hC : jOk C X own cc nL n d) {a b : Int} (hd : decode cc pc = .ok (.imul, 1)) (k : jG C X n nL kc ks (pc + 1) ls (jI (a * b) :: st) M) : jG C X n nL kc ks pc ls (jI b :: jI a :: st) M := by
  obtain ⟨p, l, e, R, s, m, args, below, meth, c, Q⟩ := C
  obtain ⟨hx, hb, -⟩ := hC
  intro H locs la hH hS hL
  have h2 := k H locs la hH hS hL
  rw [List.map_cons, jcv_i, Int32.ofInt_mul] at h2
  exact lv_imul hx hb hd  h2
theorem x_ladd (hC : jOk C X own cc nL n d) {a b : Int} (hd : decode cc pc = .ok (.ladd, 1)) (k : jG C X n nL kc ks (pc + 1) ls (jJ (a + b) :: st) M) : jG C X n nL kc ks pc ls (jJ b :: jJ a :: st) M := by
  obtain ⟨p, l, e, R, s, m, args, below, meth, c, Q⟩ := C
  obtain ⟨hx, hb, -⟩ := hC
  intro H locs la hH hS hL
  have h2 := k H locs la hH hS hL
  rw [List.map_cons, jcv_l, Int64.ofInt_add] at h2
  exact lv_ladd hx hb hd  h2
theorem x_lsub (hC : jOk C X own cc nL n d) {a b : Int} (hd : decode cc pc = .ok (.lsub, 1)) (k : jG C X n nL kc ks (pc + 1) ls (jJ (a - b) :: st) M) : jG C X n nL kc ks pc ls (jJ b :: jJ a :: st) M := by
  obtain ⟨p, l, e, R, s, m, args, below, meth, c, Q⟩ := C
  obtain ⟨hx, hb, -⟩ := hC
  intro H locs la hH hS hL
  have h2 := k H locs la hH hS hL
  rw [List.map_cons, jcv_l, Int64.ofInt_sub] at h2
  exact lv_lsub hx hb hd  h2
theorem x_lmul (hC : jOk C X own cc nL n d) {a b : Int} (hd : decode cc pc = .ok (.lmul, 1)) (k : jG C X n nL kc ks (pc + 1) ls (jJ (a * b) :: st) M) : jG C X n nL kc ks pc ls (jJ b :: jJ a :: st) M := by
  obtain ⟨p, l, e, R, s, m, args, below, meth, c, Q⟩ := C
  obtain ⟨hx, hb, -⟩ := hC
  intro H locs la hH hS hL
  have h2 := k H locs la hH hS hL
  rw [List.map_cons, jcv_l, Int64.ofInt_mul] at h2
  exact lv_lmul hx hb hd  h2
theorem x_iand (hC : jOk C X own cc nL n d) {a b : Int} (hd : decode cc pc = .ok (.iand, 1)) (k : jG C X n nL kc ks (pc + 1) ls (jI (jnd a b) :: st) M) : jG C X n nL kc ks pc ls (jI b :: jI a :: st) M := by
  obtain ⟨p, l, e, R, s, m, args, below, meth, c, Q⟩ := C
  obtain ⟨hx, hb, -⟩ := hC
  intro H locs la hH hS hL
  have h2 := k H locs la hH hS hL
  rw [List.map_cons, jcv_i, jnd, Int32.ofInt_toInt] at h2
  exact lv_iand hx hb hd  h2
theorem x_ior (hC : jOk C X own cc nL n d) {a b : Int} (hd : decode cc pc = .ok (.ior, 1)) (k : jG C X n nL kc ks (pc + 1) ls (jI (jor a b) :: st) M) : jG C X n nL kc ks pc ls (jI b :: jI a :: st) M := by
  obtain ⟨p, l, e, R, s, m, args, below, meth, c, Q⟩ := C
  obtain ⟨hx, hb, -⟩ := hC
  intro H locs la hH hS hL
  have h2 := k H locs la hH hS hL
  rw [List.map_cons, jcv_i, jor, Int32.ofInt_toInt] at h2
  exact lv_ior hx hb hd  h2
theorem x_ixor (hC : jOk C X own cc nL n d) {a b : Int} (hd : decode cc pc = .ok (.ixor, 1)) (k : jG C X n nL kc ks (pc + 1) ls (jI (jxr a b) :: st) M) : jG C X n nL kc ks pc ls (jI b :: jI a :: st) M := by
  obtain ⟨p, l, e, R, s, m, args, below, meth, c, Q⟩ := C
  obtain ⟨hx, hb, -⟩ := hC
  intro H locs la hH hS hL
  have h2 := k H locs la hH hS hL
  rw [List.map_cons, jcv_i, jxr, Int32.ofInt_toInt] at h2
  exact lv_ixor hx hb hd  h2
theorem x_ishl (hC : jOk C X own cc nL n d) {a b : Int} (hd : decode cc pc = .ok (.ishl, 1)) (k : jG C X n nL kc ks (pc + 1) ls (jI (jsl a b) :: st) M) : jG C X n nL kc ks pc ls (jI b :: jI a :: st) M := by
  obtain ⟨p, l, e, R, s, m, args, below, meth, c, Q⟩ := C
  obtain ⟨hx, hb, -⟩ := hC
  intro H locs la hH hS hL
  have h2 := k H locs la hH hS hL
  rw [List.map_cons, jcv_i, jsl, Int32.ofInt_toInt] at h2
  exact lv_ishl hx hb hd  h2
theorem x_ishr (hC : jOk C X own cc nL n d) {a b : Int} (hd : decode cc pc = .ok (.ishr, 1)) (k : jG C X n nL kc ks (pc + 1) ls (jI (jsr a b) :: st) M) : jG C X n nL kc ks pc ls (jI b :: jI a :: st) M := by
  obtain ⟨p, l, e, R, s, m, args, below, meth, c, Q⟩ := C
  obtain ⟨hx, hb, -⟩ := hC
  intro H locs la hH hS hL
  have h2 := k H locs la hH hS hL
  rw [List.map_cons, jcv_i, jsr, Int32.ofInt_toInt] at h2
  exact lv_ishr hx hb hd  h2
theorem x_land (hC : jOk C X own cc nL n d) {a b : Int} (hd : decode cc pc = .ok (.land, 1)) (k : jG C X n nL kc ks (pc + 1) ls (jJ (jlnd a b) :: st) M) : jG C X n nL kc ks pc ls (jJ b :: jJ a :: st) M := by
  obtain ⟨p, l, e, R, s, m, args, below, meth, c, Q⟩ := C
  obtain ⟨hx, hb, -⟩ := hC
  intro H locs la hH hS hL
  have h2 := k H locs la hH hS hL
  rw [List.map_cons, jcv_l, jlnd, Int64.ofInt_toInt] at h2
  exact lv_land hx hb hd  h2
theorem x_lor (hC : jOk C X own cc nL n d) {a b : Int} (hd : decode cc pc = .ok (.lor, 1)) (k : jG C X n nL kc ks (pc + 1) ls (jJ (jlor a b) :: st) M) : jG C X n nL kc ks pc ls (jJ b :: jJ a :: st) M := by
  obtain ⟨p, l, e, R, s, m, args, below, meth, c, Q⟩ := C
  obtain ⟨hx, hb, -⟩ := hC
  intro H locs la hH hS hL
  have h2 := k H locs la hH hS hL
  rw [List.map_cons, jcv_l, jlor, Int64.ofInt_toInt] at h2
  exact lv_lor hx hb hd  h2
theorem x_iushr (hC : jOk C X own cc nL n d) {a b : Int} (hd : decode cc pc = .ok (.iushr, 1)) (k : jG C X n nL kc ks (pc + 1) ls (jI (jus a b) :: st) M) : jG C X n nL kc ks pc ls (jI b :: jI a :: st) M := by
  obtain ⟨p, l, e, R, s, m, args, below, meth, c, Q⟩ := C
  obtain ⟨hx, hb, -⟩ := hC
  intro H locs la hH hS hL
  have h2 := k H locs la hH hS hL
  rw [List.map_cons, jcv_i, jus, Int32.ofInt_toInt] at h2
  exact lv_iushr hx hb hd rfl h2
theorem x_lshl (hC : jOk C X own cc nL n d) {a b : Int} (hd : decode cc pc = .ok (.lshl, 1)) (k : jG C X n nL kc ks (pc + 1) ls (jJ (jlsl a b) :: st) M) : jG C X n nL kc ks pc ls (jI b :: jJ a :: st) M := by
  obtain ⟨p, l, e, R, s, m, args, below, meth, c, Q⟩ := C
  obtain ⟨hx, hb, -⟩ := hC
  intro H locs la hH hS hL
  have h2 := k H locs la hH hS hL
  rw [List.map_cons, jcv_l, jlsl, Int64.ofInt_toInt] at h2
  exact lv_lshl hx hb hd rfl h2
theorem x_lshr (hC : jOk C X own cc nL n d) {a b : Int} (hd : decode cc pc = .ok (.lshr, 1)) (k : jG C X n nL kc ks (pc + 1) ls (jJ (jlsr a b) :: st) M) : jG C X n nL kc ks pc ls (jI b :: jJ a :: st) M := by
  obtain ⟨p, l, e, R, s, m, args, below, meth, c, Q⟩ := C
  obtain ⟨hx, hb, -⟩ := hC
  intro H locs la hH hS hL
  have h2 := k H locs la hH hS hL
  rw [List.map_cons, jcv_l, jlsr, Int64.ofInt_toInt] at h2
  exact lv_lshr hx hb hd rfl h2
theorem x_idiv (hC : jOk C X own cc nL n d) {a b : Int} (hd : decode cc pc = .ok (.idiv, 1)) (hz : jw b ≠ 0) (k : jG C X n nL kc ks (pc + 1) ls (jI ((jw a).tdiv (jw b)) :: st) M) : jG C X n nL kc ks pc ls (jI b :: jI a :: st) M := by
  obtain ⟨p, l, e, R, s, m, args, below, meth, c, Q⟩ := C
  obtain ⟨hx, hb, -⟩ := hC
  intro H locs la hH hS hL
  have h2 := k H locs la hH hS hL
  rw [List.map_cons, jcv_i, ← jdiv_eq] at h2
  exact lv_idiv hx hb hd (jne0 hz) h2
theorem x_irem (hC : jOk C X own cc nL n d) {a b : Int} (hd : decode cc pc = .ok (.irem, 1)) (hz : jw b ≠ 0) (k : jG C X n nL kc ks (pc + 1) ls (jI ((jw a).tmod (jw b)) :: st) M) : jG C X n nL kc ks pc ls (jI b :: jI a :: st) M := by
  obtain ⟨p, l, e, R, s, m, args, below, meth, c, Q⟩ := C
  obtain ⟨hx, hb, -⟩ := hC
  intro H locs la hH hS hL
  have h2 := k H locs la hH hS hL
  rw [List.map_cons, jcv_i, ← jrem_eq] at h2
  exact lv_irem hx hb hd (jne0 hz) h2
theorem x_ineg (hC : jOk C X own cc nL n d) {a : Int} (hd : decode cc pc = .ok (.ineg, 1)) (k : jG C X n nL kc ks (pc + 1) ls (jI (-a) :: st) M) : jG C X n nL kc ks pc ls (jI a :: st) M := by
  obtain ⟨p, l, e, R, s, m, args, below, meth, c, Q⟩ := C
  obtain ⟨hx, hb, -⟩ := hC
  intro H locs la hH hS hL
  have h2 := k H locs la hH hS hL
  rw [List.map_cons, jcv_i, Int32.ofInt_neg] at h2
  exact lv_ineg hx hb hd (by first | exact h2 | simpa using h2)
theorem x_i2l (hC : jOk C X own cc nL n d) {a : Int} (hd : decode cc pc = .ok (.i2l, 1)) (k : jG C X n nL kc ks (pc + 1) ls (jJ (jw a) :: st) M) : jG C X n nL kc ks pc ls (jI a :: st) M := by
  obtain ⟨p, l, e, R, s, m, args, below, meth, c, Q⟩ := C
  obtain ⟨hx, hb, -⟩ := hC
  intro H locs la hH hS hL
  have h2 := k H locs la hH hS hL
  exact lv_i2l hx hb hd (j_i2l a) h2
theorem x_l2i (hC : jOk C X own cc nL n d) {a : Int} (hd : decode cc pc = .ok (.l2i, 1)) (k : jG C X n nL kc ks (pc + 1) ls (jI a :: st) M) : jG C X n nL kc ks pc ls (jJ a :: st) M := by
  obtain ⟨p, l, e, R, s, m, args, below, meth, c, Q⟩ := C
  obtain ⟨hx, hb, -⟩ := hC
  intro H locs la hH hS hL
  have h2 := k H locs la hH hS hL
  exact lv_l2i hx hb hd (j_l2i a) h2
theorem x_i2b (hC : jOk C X own cc nL n d) {a : Int} (hd : decode cc pc = .ok (.i2b, 1)) (k : jG C X n nL kc ks (pc + 1) ls (jI (jb8 a) :: st) M) : jG C X n nL kc ks pc ls (jI a :: st) M := by
  obtain ⟨p, l, e, R, s, m, args, below, meth, c, Q⟩ := C
  obtain ⟨hx, hb, -⟩ := hC
  intro H locs la hH hS hL
  have h2 := k H locs la hH hS hL
  exact lv_i2b hx hb hd (j_i2b a) h2
theorem x_dup (hC : jOk C X own cc nL n d) {v : jV} (hd : decode cc pc = .ok (.dup, 1)) (hv : v.1 ≠ 3) (k : jG C X n nL kc ks (pc + 1) ls (v :: v :: st) M) : jG C X n nL kc ks pc ls (v :: st) M := by
  obtain ⟨p, l, e, R, s, m, args, below, meth, c, Q⟩ := C
  obtain ⟨hx, hb, -⟩ := hC
  intro H locs la hH hS hL
  have h2 := k H locs la hH hS hL
  exact lv_dup hx hb hd (j_cat1 X hv) h2
theorem x_dup2 (hC : jOk C X own cc nL n d) {v w : jV} (hd : decode cc pc = .ok (.dup2, 1)) (hv : v.1 ≠ 3) (hw : w.1 ≠ 3) (k : jG C X n nL kc ks (pc + 1) ls (v :: w :: v :: w :: st) M) : jG C X n nL kc ks pc ls (v :: w :: st) M := by
  obtain ⟨p, l, e, R, s, m, args, below, meth, c, Q⟩ := C
  obtain ⟨hx, hb, -⟩ := hC
  intro H locs la hH hS hL
  have h2 := k H locs la hH hS hL
  exact lv_dup2_11 hx hb hd (j_cat1 X hv) (j_cat1 X hw) h2
theorem x_pop (hC : jOk C X own cc nL n d) {v : jV} (hd : decode cc pc = .ok (.pop, 1)) (hv : v.1 ≠ 3) (k : jG C X n nL kc ks (pc + 1) ls st M) : jG C X n nL kc ks pc ls (v :: st) M := by
  obtain ⟨p, l, e, R, s, m, args, below, meth, c, Q⟩ := C
  obtain ⟨hx, hb, -⟩ := hC
  intro H locs la hH hS hL
  have h2 := k H locs la hH hS hL
  exact lv_pop hx hb hd (j_cat1 X hv) h2
theorem x_lcmp (hC : jOk C X own cc nL n d) {a b : Int} (hd : decode cc pc = .ok (.lcmp, 1)) (k : jG C X n nL kc ks (pc + 1) ls (jI (jcmp a b) :: st) M) : jG C X n nL kc ks pc ls (jJ b :: jJ a :: st) M := by
  obtain ⟨p, l, e, R, s, m, args, below, meth, c, Q⟩ := C
  obtain ⟨hx, hb, -⟩ := hC
  intro H locs la hH hS hL
  have h2 := k H locs la hH hS hL
  exact j_lcmp hx hb hd h2
theorem x_goto (hC : jOk C X own cc nL n d) {off : Int} {tgt : Nat} (hd : decode cc pc = .ok (.goto off, 3)) (ht : (pc : Int) + off = (tgt : Int)) (k : jG C X n nL kc ks tgt ls st M) : jG C X n nL kc ks pc ls st M := by
  obtain ⟨p, l, e, R, s, m, args, below, meth, c, Q⟩ := C
  obtain ⟨hx, hb, -⟩ := hC
  intro H locs la hH hS hL
  exact lv_goto hx hb hd ht (k H locs la hH hS hL)
theorem x_icmp_eq (hC : jOk C X own cc nL n d) {a b off : Int} {tgt : Nat} (hd : decode cc pc = .ok (.if_icmp .eq off, 3)) (ht : (pc : Int) + off = (tgt : Int)) (kt : jw a = jw b → jG C X n nL kc ks tgt ls st M) (kf : ¬ (jw a = jw b) → jG C X n nL kc ks (pc + 3) ls st M) : jG C X n nL kc ks pc ls (jI b :: jI a :: st) M := by
  obtain ⟨p, l, e, R, s, m, args, below, meth, c, Q⟩ := C
  obtain ⟨hx, hb, -⟩ := hC
  intro H locs la hH hS hL
  exact lv_icmp_eq hx hb hd ht (fun h => kt (j_eq.mp h) H locs la hH hS hL) (fun h => kf (fun q => h (j_eq.mpr q)) H locs la hH hS hL)
theorem x_if_eq (hC : jOk C X own cc nL n d) {a off : Int} {tgt : Nat} (hd : decode cc pc = .ok (.ifCond .eq off, 3)) (ht : (pc : Int) + off = (tgt : Int)) (kt : jw a = 0 → jG C X n nL kc ks tgt ls st M) (kf : ¬ (jw a = 0) → jG C X n nL kc ks (pc + 3) ls st M) : jG C X n nL kc ks pc ls (jI a :: st) M := by
  obtain ⟨p, l, e, R, s, m, args, below, meth, c, Q⟩ := C
  obtain ⟨hx, hb, -⟩ := hC
  intro H locs la hH hS hL
  exact lv_if_eq hx hb hd ht (fun h => kt (j_eq0.mp h) H locs la hH hS hL) (fun h => kf (fun q => h (j_eq0.mpr q)) H locs la hH hS hL)
theorem x_icmp_lt (hC : jOk C X own cc nL n d) {a b off : Int} {tgt : Nat} (hd : decode cc pc = .ok (.if_icmp .lt off, 3)) (ht : (pc : Int) + off = (tgt : Int)) (kt : jw a < jw b → jG C X n nL kc ks tgt ls st M) (kf : ¬ (jw a < jw b) → jG C X n nL kc ks (pc + 3) ls st M) : jG C X n nL kc ks pc ls (jI b :: jI a :: st) M := by
  obtain ⟨p, l, e, R, s, m, args, below, meth, c, Q⟩ := C
  obtain ⟨hx, hb, -⟩ := hC
  intro H locs la hH hS hL
  exact lv_icmp_lt hx hb hd ht (fun h => kt (j_lt.mp h) H locs la hH hS hL) (fun h => kf (fun q => h (j_lt.mpr q)) H locs la hH hS hL)
theorem x_if_lt (hC : jOk C X own cc nL n d) {a off : Int} {tgt : Nat} (hd : decode cc pc = .ok (.ifCond .lt off, 3)) (ht : (pc : Int) + off = (tgt : Int)) (kt : jw a < 0 → jG C X n nL kc ks tgt ls st M) (kf : ¬ (jw a < 0) → jG C X n nL kc ks (pc + 3) ls st M) : jG C X n nL kc ks pc ls (jI a :: st) M := by
  obtain ⟨p, l, e, R, s, m, args, below, meth, c, Q⟩ := C
  obtain ⟨hx, hb, -⟩ := hC
  intro H locs la hH hS hL
  exact lv_if_lt hx hb hd ht (fun h => kt (j_lt0.mp h) H locs la hH hS hL) (fun h => kf (fun q => h (j_lt0.mpr q)) H locs la hH hS hL)
theorem x_icmp_ge (hC : jOk C X own cc nL n d) {a b off : Int} {tgt : Nat} (hd : decode cc pc = .ok (.if_icmp .ge off, 3)) (ht : (pc : Int) + off = (tgt : Int)) (kt : jw b ≤ jw a → jG C X n nL kc ks tgt ls st M) (kf : ¬ (jw b ≤ jw a) → jG C X n nL kc ks (pc + 3) ls st M) : jG C X n nL kc ks pc ls (jI b :: jI a :: st) M := by
  obtain ⟨p, l, e, R, s, m, args, below, meth, c, Q⟩ := C
  obtain ⟨hx, hb, -⟩ := hC
  intro H locs la hH hS hL
  exact lv_icmp_ge hx hb hd ht (fun h => kt (j_le.mp h) H locs la hH hS hL) (fun h => kf (fun q => h (j_le.mpr q)) H locs la hH hS hL)
theorem x_if_ge (hC : jOk C X own cc nL n d) {a off : Int} {tgt : Nat} (hd : decode cc pc = .ok (.ifCond .ge off, 3)) (ht : (pc : Int) + off = (tgt : Int)) (kt : 0 ≤ jw a → jG C X n nL kc ks tgt ls st M) (kf : ¬ (0 ≤ jw a) → jG C X n nL kc ks (pc + 3) ls st M) : jG C X n nL kc ks pc ls (jI a :: st) M := by
  obtain ⟨p, l, e, R, s, m, args, below, meth, c, Q⟩ := C
  obtain ⟨hx, hb, -⟩ := hC
  intro H locs la hH hS hL
  exact lv_if_ge hx hb hd ht (fun h => kt (j_le0r.mp h) H locs la hH hS hL) (fun h => kf (fun q => h (j_le0r.mpr q)) H locs la hH hS hL)
theorem x_icmp_gt (hC : jOk C X own cc nL n d) {a b off : Int} {tgt : Nat} (hd : decode cc pc = .ok (.if_icmp .gt off, 3)) (ht : (pc : Int) + off = (tgt : Int)) (kt : jw b < jw a → jG C X n nL kc ks tgt ls st M) (kf : ¬ (jw b < jw a) → jG C X n nL kc ks (pc + 3) ls st M) : jG C X n nL kc ks pc ls (jI b :: jI a :: st) M := by
  obtain ⟨p, l, e, R, s, m, args, below, meth, c, Q⟩ := C
  obtain ⟨hx, hb, -⟩ := hC
  intro H locs la hH hS hL
  exact lv_icmp_gt hx hb hd ht (fun h => kt (j_lt.mp h) H locs la hH hS hL) (fun h => kf (fun q => h (j_lt.mpr q)) H locs la hH hS hL)
theorem x_if_gt (hC : jOk C X own cc nL n d) {a off : Int} {tgt : Nat} (hd : decode cc pc = .ok (.ifCond .gt off, 3)) (ht : (pc : Int) + off = (tgt : Int)) (kt : 0 < jw a → jG C X n nL kc ks tgt ls st M) (kf : ¬ (0 < jw a) → jG C X n nL kc ks (pc + 3) ls st M) : jG C X n nL kc ks pc ls (jI a :: st) M := by
  obtain ⟨p, l, e, R, s, m, args, below, meth, c, Q⟩ := C
  obtain ⟨hx, hb, -⟩ := hC
  intro H locs la hH hS hL
  exact lv_if_gt hx hb hd ht (fun h => kt (j_lt0r.mp h) H locs la hH hS hL) (fun h => kf (fun q => h (j_lt0r.mpr q)) H locs la hH hS hL)
theorem x_icmp_le (hC : jOk C X own cc nL n d) {a b off : Int} {tgt : Nat} (hd : decode cc pc = .ok (.if_icmp .le off, 3)) (ht : (pc : Int) + off = (tgt : Int)) (kt : jw a ≤ jw b → jG C X n nL kc ks tgt ls st M) (kf : ¬ (jw a ≤ jw b) → jG C X n nL kc ks (pc + 3) ls st M) : jG C X n nL kc ks pc ls (jI b :: jI a :: st) M := by
  obtain ⟨p, l, e, R, s, m, args, below, meth, c, Q⟩ := C
  obtain ⟨hx, hb, -⟩ := hC
  intro H locs la hH hS hL
  exact lv_icmp_le hx hb hd ht (fun h => kt (j_le.mp h) H locs la hH hS hL) (fun h => kf (fun q => h (j_le.mpr q)) H locs la hH hS hL)
theorem x_if_le (hC : jOk C X own cc nL n d) {a off : Int} {tgt : Nat} (hd : decode cc pc = .ok (.ifCond .le off, 3)) (ht : (pc : Int) + off = (tgt : Int)) (kt : jw a ≤ 0 → jG C X n nL kc ks tgt ls st M) (kf : ¬ (jw a ≤ 0) → jG C X n nL kc ks (pc + 3) ls st M) : jG C X n nL kc ks pc ls (jI a :: st) M := by
  obtain ⟨p, l, e, R, s, m, args, below, meth, c, Q⟩ := C
  obtain ⟨hx, hb, -⟩ := hC
  intro H locs la hH hS hL
  exact lv_if_le hx hb hd ht (fun h => kt (j_le0.mp h) H locs la hH hS hL) (fun h => kf (fun q => h (j_le0.mpr q)) H locs la hH hS hL)
theorem x_icmp_ne (hC : jOk C X own cc nL n d) {a b off : Int} {tgt : Nat} (hd : decode cc pc = .ok (.if_icmp .ne off, 3)) (ht : (pc : Int) + off = (tgt : Int)) (kt : ¬ jw a = jw b → jG C X n nL kc ks tgt ls st M) (kf : jw a = jw b → jG C X n nL kc ks (pc + 3) ls st M) : jG C X n nL kc ks pc ls (jI b :: jI a :: st) M := by
  obtain ⟨p, l, e, R, s, m, args, below, meth, c, Q⟩ := C
  obtain ⟨hx, hb, -⟩ := hC
  intro H locs la hH hS hL
  exact lv_icmp_ne hx hb hd ht (fun h => kt (j_ne.mp h) H locs la hH hS hL) (fun h => kf (j_eq.mp h) H locs la hH hS hL)
theorem x_if_ne (hC : jOk C X own cc nL n d) {a off : Int} {tgt : Nat} (hd : decode cc pc = .ok (.ifCond .ne off, 3)) (ht : (pc : Int) + off = (tgt : Int)) (kt : ¬ jw a = 0 → jG C X n nL kc ks tgt ls st M) (kf : jw a = 0 → jG C X n nL kc ks (pc + 3) ls st M) : jG C X n nL kc ks pc ls (jI a :: st) M := by
  obtain ⟨p, l, e, R, s, m, args, below, meth, c, Q⟩ := C
  obtain ⟨hx, hb, -⟩ := hC
  intro H locs la hH hS hL
  exact lv_if_ne hx hb hd ht (fun h => kt (j_ne0.mp h) H locs la hH hS hL) (fun h => kf (j_eq0.mp h) H locs la hH hS hL)
theorem x_tableOut (hC : jOk C X own cc nL n d) {dflt lo hi a : Int} {offs : Array Int} {len tgt : Nat} (hd : decode cc pc = .ok (.tableswitch dflt lo hi offs, len)) (h : jw a < lo ∨ hi < jw a) (ht : (pc : Int) + dflt = (tgt : Int)) (k : jG C X n nL kc ks tgt ls st M) : jG C X n nL kc ks pc ls (jI a :: st) M := by
  obtain ⟨p, l, e, R, s, m, args, below, meth, c, Q⟩ := C
  obtain ⟨hx, hb, -⟩ := hC
  intro H locs la hH hS hL
  exact lv_tableOut hx hb hd (by rw [j_toInt]; exact h) ht (k H locs la hH hS hL)
theorem x_tableIn (hC : jOk C X own cc nL n d) {dflt lo hi a off : Int} {offs : Array Int} {len tgt : Nat} (hd : decode cc pc = .ok (.tableswitch dflt lo hi offs, len)) (h1 : ¬ jw a < lo) (h2 : ¬ hi < jw a) (ho : offs[(jw a - lo).toNat]? = some off) (ht : (pc : Int) + off = (tgt : Int)) (k : jG C X n nL kc ks tgt ls st M) : jG C X n nL kc ks pc ls (jI a :: st) M := by
  obtain ⟨p, l, e, R, s, m, args, below, meth, c, Q⟩ := C
  obtain ⟨hx, hb, -⟩ := hC
  intro H locs la hH hS hL
  exact lv_tableIn hx hb hd (by rw [j_toInt]; exact h1) (by rw [j_toInt]; exact h2) (by rw [j_toInt]; exact ho) ht (k H locs la hH hS hL)
theorem j_pos {a : Int} {k : Nat} (hk : jkd a = k) (h : k ≠ 99) : 1 ≤ a := (jkd_in (a := a) (by rw [hk]; exact h)).1
theorem x_aloadA_n (hC : jOk C X own cc nL n d) {f : Fin 4} {i : Nat} {a : Int} {kk : Nat} (hd : decode cc pc = .ok (.aload_n f, 1)) (hi : (f : Nat) = i) (hl : ls[i]? = some (jA a)) (hk : jkd a = kk) (h99 : kk ≠ 99) (k : jG C X n nL kc ks (pc + 1) ls (jA a :: st) M) : jG C X n nL kc ks pc ls st M := x_aload_n hC hd hi hl (show (2 : Nat) ≠ 0 by decide) (jcv_p X (j_pos hk h99)) k
theorem x_aloadA (hC : jOk C X own cc nL n d) {i : Nat} {a : Int} {kk : Nat} (hd : decode cc pc = .ok (.aload i, 2)) (hl : ls[i]? = some (jA a)) (hk : jkd a = kk) (h99 : kk ≠ 99) (k : jG C X n nL kc ks (pc + 2) ls (jA a :: st) M) : jG C X n nL kc ks pc ls st M := x_aload hC hd hl (show (2 : Nat) ≠ 0 by decide) (jcv_p X (j_pos hk h99)) k
theorem x_astoreA_n (hC : jOk C X own cc nL n d) {f : Fin 4} {i : Nat} {a : Int} {kk : Nat} {ls2 : List jV} (hd : decode cc pc = .ok (.astore_n f, 1)) (hf : (f : Nat) = i) (hi : i < nL) (hn : jnl ls i = true) (hk : jkd a = kk) (h99 : kk ≠ 99) (hls : ls.set i (jA a) = ls2) (k : jG C X n nL kc ks (pc + 1) ls2 st M) : jG C X n nL kc ks pc ls (jA a :: st) M := x_astore_n hC hd hf hi hn (show (2 : Nat) ≠ 3 by decide) (jcv_p X (j_pos hk h99)) hls k
theorem x_astoreA (hC : jOk C X own cc nL n d) {i : Nat} {a : Int} {kk : Nat} {ls2 : List jV} (hd : decode cc pc = .ok (.astore i, 2)) (hi : i < nL) (hn : jnl ls i = true) (hk : jkd a = kk) (h99 : kk ≠ 99) (hls : ls.set i (jA a) = ls2) (k : jG C X n nL kc ks (pc + 2) ls2 st M) : jG C X n nL kc ks pc ls (jA a :: st) M := x_astore hC hd hi hn (show (2 : Nat) ≠ 3 by decide) (jcv_p X (j_pos hk h99)) hls k
theorem x_ldci (hC : jOk C X own cc nL n d) {idx : Nat} {z : Int} (hw : Cond.constant own idx (Int32.ofInt z) ∈ jTB) (hd : decode cc pc = .ok (.ldc idx, 2)) (k : jG C X n nL kc ks (pc + 2) ls (jI z :: st) M) : jG C X n nL kc ks pc ls st M := by
  obtain ⟨p, l, e, R, s, m, args, below, meth, c, Q⟩ := C
  obtain ⟨hx, hb, hml, hown, hts, -⟩ := hC
  intro H locs la hH hS hL
  exact lv_ldc hx hb hown (hts _ hw) hd (k H locs la hH hS hL)
theorem x_ldcwi (hC : jOk C X own cc nL n d) {idx : Nat} {z : Int} (hw : Cond.constant own idx (Int32.ofInt z) ∈ jTB) (hd : decode cc pc = .ok (.ldc_w idx, 3)) (k : jG C X n nL kc ks (pc + 3) ls (jI z :: st) M) : jG C X n nL kc ks pc ls st M := by
  obtain ⟨p, l, e, R, s, m, args, below, meth, c, Q⟩ := C
  obtain ⟨hx, hb, hml, hown, hts, -⟩ := hC
  intro H locs la hH hS hL
  exact lv_ldcw hx hb hown (hts _ hw) hd (k H locs la hH hS hL)
theorem x_ldc2 (hC : jOk C X own cc nL n d) {idx : Nat} {z : Int} (hw : Cond.constantLong own idx (Int64.ofInt z) ∈ jTB) (hd : decode cc pc = .ok (.ldc2_w idx, 3)) (k : jG C X n nL kc ks (pc + 3) ls (jJ z :: st) M) : jG C X n nL kc ks pc ls st M := by
  obtain ⟨p, l, e, R, s, m, args, below, meth, c, Q⟩ := C
  obtain ⟨hx, hb, hml, hown, hts, -⟩ := hC
  intro H locs la hH hS hL
  exact lv_ldc2 hx hb hown (hts _ hw) hd (k H locs la hH hS hL)
end JR
