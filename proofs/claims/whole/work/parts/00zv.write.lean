/-! ===== write ===== -/
/-- a page holds a text: its length at (c, j), its octets in d -/
def pg (c j d : Int) (M : jM) (L : List Int) : Prop := M c j = (L.length : Int) ∧ ∀ i : Nat, i < L.length → M d (i : Int) = L.getD i 0 ∧ 0 ≤ L.getD i 0 ∧ L.getD i 0 ≤ 127
theorem pg_keep {c j d : Int} {M M' : jM} {L : List Int} (h : pg c j d M L) (h1 : M' c j = M c j) (h2 : M' d = M d) : pg c j d M' L := by
  unfold pg
  rw [h1, h2]
  exact h
theorem pg_put {c j d : Int} {M : jM} {L : List Int} (h : pg c j d M L) (hcd : c ≠ d) {x : Int} (hx : 0 ≤ x ∧ x ≤ 127) : pg c j d (jst (jst M d (L.length : Int) x) c j ((L.length : Int) + 1)) (L ++ [x]) := by
  refine ⟨?_, fun i hi => ?_⟩
  · rw [pst_s, List.length_append]
    rfl
  · rw [pst_f (fun q => hcd q.symm)]
    rw [List.length_append] at hi
    by_cases ci : i = L.length
    · subst ci
      rw [pst_s]
      have : (L ++ [x]).getD L.length 0 = x := by simp
      rw [this]
      exact ⟨rfl, hx⟩
    · have hi' : i < L.length := by
        have : ([x] : List Int).length = 1 := rfl
        omega
      have : (L ++ [x]).getD i 0 = L.getD i 0 := by
        rw [List.getD_eq_getElem?_getD, List.getD_eq_getElem?_getD, List.getElem?_append_left hi']
      rw [this, pst_i (by omega)]
      exact h.2 i hi'
def fW (M M' : jM) : Prop := ∀ a, a ≠ 164 → a ≠ 165 → M' a = M a
theorem fW_t {M M1 M2 : jM} (h1 : fW M M1) (h2 : fW M1 M2) : fW M M2 := fun a q0 q1 => by rw [h2 a q0 q1, h1 a q0 q1]
def cW (M : jM) (L l : List Int) (M' : jM) : Prop := pg 164 1 165 M' (L ++ l) ∧ fW M M'
theorem c_put {M : jM} {L : List Int} (h : pg 164 1 165 M L) (hl : L.length < 420) {x : Int} (hx : 0 ≤ x ∧ x ≤ 127) : jT (f_X3_put x M) (cW M L [x]) := by
  unfold f_X3_put
  rw [h.1, pw_of (z := 420) (by omega) (by omega), pw_of (z := (L.length : Int)) (by omega) (by omega)]
  refine t_neg (by omega) ?_
  refine t_ck (by omega) ?_
  refine t_let ?_
  rw [pst_f (by decide), h.1]
  refine t_let ?_
  exact t_some ⟨pg_put h (by decide) hx, fun a q0 q1 => by rw [pst_f q0, pst_f q1]⟩
def fR (M M' : jM) : Prop := (∀ a, a ≠ 166 → (a < 173 ∨ 177 < a) → a ≠ 179 → M' a = M a) ∧ ∀ j, j ≠ 31 → M' 166 j = M 166 j
theorem fR_t {M M1 M2 : jM} (h1 : fR M M1) (h2 : fR M1 M2) : fR M M2 := ⟨fun a q0 q1 q2 => by rw [h2.1 a q0 q1 q2, h1.1 a q0 q1 q2], fun j q => by rw [h2.2 j q, h1.2 j q]⟩
theorem fR_34 {M M' : jM} (h : fr34 M M') : fR M M' := ⟨fun a q0 q1 q2 => h a (by omega) (by omega), fun j _ => by rw [h 166 (by decide) (by decide)]⟩
theorem fR_3 {M M' : jM} (h : fr3 M M') : fR M M' := ⟨fun a q0 q1 q2 => h a (by omega), fun j _ => by rw [h 166 (by decide)]⟩
def rW (M : jM) (L l : List Int) (M' : jM) : Prop := pg 166 31 179 M' (L ++ l) ∧ fR M M'
theorem pb8_of {x : Int} (h : -128 ≤ x ∧ x ≤ 127) : jb8 x = x := by
  unfold jb8 Int.bmod
  dsimp only
  split <;> omega
theorem e_says {M : jM} {L : List Int} (h : pg 166 31 179 M L) (hl : L.length < 1200) {x : Int} (hx : 0 ≤ x ∧ x ≤ 127) : jT (f_X10_says x M) (rW M L [x]) := by
  unfold f_X10_says
  rw [h.1, pw_of (z := (L.length : Int)) (by omega) (by omega), pb8_of (x := x) (by omega), pb8_of (x := x) (by omega)]
  refine t_ck (by omega) ?_
  refine t_let ?_
  rw [pst_f (by decide), h.1]
  refine t_let ?_
  exact t_some ⟨pg_put h (by decide) hx, fun a q0 q1 q2 => by rw [pst_f q0, pst_f q2], fun j q => by rw [pst_i q, pst_f (by decide)]⟩
/-- the letters of a name -/
def nmL (f : Int → Int) : Nat → List Int
  | 0 => []
  | n + 1 => if f (n : Int) = 0 then nmL f n else nmL f n ++ [f (n : Int)]
theorem nmL_s {f : Int → Int} {i : Int} (h : 0 ≤ i) : nmL f (i + 1).toNat = if f i = 0 then nmL f i.toNat else nmL f i.toNat ++ [f i] := by
  rw [show (i + 1).toNat = i.toNat + 1 from by omega]
  show (if f ((i.toNat : Nat) : Int) = 0 then _ else _) = _
  rw [← pn_nat h]
theorem nmL_len (f : Int → Int) : ∀ n, (nmL f n).length ≤ n := by
  intro n
  induction n with
  | zero => exact Nat.le_refl _
  | succ n ih =>
    unfold nmL
    split
    · omega
    · rw [List.length_append]
      have : ([f (n : Int)] : List Int).length = 1 := rfl
      omega
theorem nmL_z {f : Int → Int} {n : Nat} : ∀ d : Nat, (∀ i : Int, (n : Int) ≤ i → i < n + d → f i = 0) → nmL f (n + d) = nmL f n := by
  intro d
  induction d with
  | zero => intro _; rfl
  | succ d ih =>
    intro h
    show (if f ((n + d : Nat) : Int) = 0 then nmL f (n + d) else _) = _
    rw [if_pos (h _ (by omega) (by omega))]
    exact ih (fun i q0 q1 => h i q0 (by omega))
theorem e_saysName {M : jM} {L : List Int} {b : Int} (h : pg 166 31 179 M L) (hl : L.length ≤ 1100) (hb : 0 ≤ b ∧ b ≤ 500) (hf : ∀ i, 0 ≤ i → i < 6 → 0 ≤ M 169 (b + i) ∧ M 169 (b + i) ≤ 127) : jT (f_X10_saysName b M) (rW M L (nmL (fun i => M 169 (b + i)) 6)) := by
  unfold f_X10_saysName
  refine t_lp2 (fun i M2 => 0 ≤ i ∧ i ≤ 6 ∧ rW M L (nmL (fun i => M 169 (b + i)) i.toNat) M2) (fun i _ => (6 - i).toNat) ?_ jfuel 0 M (by rw [jfuel_eq]; omega) ⟨by omega, by omega, by
    refine ⟨?_, fun _ _ _ _ => rfl, fun _ _ => rfl⟩
    show pg 166 31 179 M (L ++ [])
    rw [List.append_nil]
    exact h⟩
  rintro self i M2 ⟨hi1, hi2, hp, hfr⟩ hself
  have e9 : M2 169 = M 169 := hfr.1 169 (by decide) (by decide) (by decide)
  rw [pw_of (z := 6) (by omega) (by omega), pw_of (z := i) (by omega) (by omega)]
  refine t_if (fun c => ?_) (fun c => ?_)
  · refine t_some ?_
    rw [show i = 6 from by omega] at hp
    exact ⟨hp, hfr⟩
  · have hv := hf i hi1 (by omega)
    have hs := nmL_s (f := fun i => M 169 (b + i)) hi1
    rw [e9, pw_of (z := b + i) (by omega) (by omega), pw_of (z := M 169 (b + i)) (by omega) (by omega)]
    refine t_ck (by omega) ?_
    refine t_if (fun c1 => ?_) (fun c1 => ?_)
    · refine t_let ?_
      rw [if_pos c1] at hs
      exact hself _ _ ⟨by omega, by omega, by rw [hs]; exact ⟨hp, hfr⟩⟩ (by omega)
    · rw [if_neg c1] at hs
      have hll := nmL_len (fun i => M 169 (b + i)) i.toNat
      refine t_ck (by omega) ?_
      refine t_V (t_mono (e_says hp (by rw [List.length_append]; omega) hv) (fun M3 h3 => ?_))
      refine t_let ?_
      refine hself _ _ ⟨by omega, by omega, ?_, fR_t hfr h3.2⟩ (by omega)
      rw [hs, ← List.append_assoc]
      exact h3.1
theorem c_putName {t i n base m : Int} {M : jM} {T : Int → Int} {L : List Int} (h : pg 164 1 165 M L) (hl : L.length + 6 ≤ 420) (ht : t + 2 < 164) (hl2 : jln (t + 2) = n) (hl1 : jln (t + 1) = 6 * n) (hn : 6 ≤ n ∧ n ≤ 10) (hm : m ≤ n) (hR : rNm (M (t + 1)) (M (t + 2)) T base m) (hi : 0 ≤ i ∧ i < m) : jT (f_X3_putLetters t i M) (cW M L (nmL (fun k => T (base + 6 * i + k)) 6)) := by
  obtain ⟨⟨z1, z2⟩, z3⟩ := hR i hi.1 hi.2
  unfold f_X3_putLetters
  refine t_lp2 (fun k M2 => 0 ≤ k ∧ k ≤ M (t + 2) i ∧ cW M L (nmL (fun k => T (base + 6 * i + k)) k.toNat) M2) (fun k _ => (6 - k).toNat) ?_ jfuel 0 M (by rw [jfuel_eq]; omega) ⟨by omega, by omega, by
    refine ⟨?_, fun _ _ _ => rfl⟩
    show pg 164 1 165 M (L ++ [])
    rw [List.append_nil]
    exact h⟩
  rintro self k M2 ⟨hk1, hk2, hp, hfr⟩ hself
  have e1 : M2 (t + 1) = M (t + 1) := hfr _ (by omega) (by omega)
  have e2 : M2 (t + 2) = M (t + 2) := hfr _ (by omega) (by omega)
  have hlet := c_letter (M := M2) (k := k) hl2 hl1 hn hm (by rw [e1, e2]; exact hR) hi ⟨by omega, by omega⟩
  have hend : k = M (t + 2) i → nmL (fun k => T (base + 6 * i + k)) k.toNat = nmL (fun k => T (base + 6 * i + k)) 6 := fun hk => by
    have := nmL_z (f := fun k => T (base + 6 * i + k)) (n := k.toNat) (6 - k.toNat) (fun x q0 q1 => by
      have := (z3 x (by omega) (by omega)).2
      rw [if_neg (by omega)] at this
      exact this)
    rw [show k.toNat + (6 - k.toNat) = 6 from by omega] at this
    exact this.symm
  rw [pw_of (z := 6) (by omega) (by omega), pw_of (z := k) (by omega) (by omega)]
  refine t_if (fun c => ?_) (fun c => ?_)
  · refine t_some ?_
    rw [hend (by omega)] at hp
    exact ⟨hp, hfr⟩
  · have hz := z3 k hk1 (by omega)
    have hs := nmL_s (f := fun k => T (base + 6 * i + k)) hk1
    by_cases ck : k < M (t + 2) i
    · have hz1 := hz.1 ck
      have hz2 := hz.2
      rw [if_pos ck] at hz2
      rw [if_pos (by omega)] at hlet
      refine t_Re hlet ?_
      rw [pw_of (z := T (base + 6 * i + k)) (by omega) (by omega), pw_of (z := -1) (by omega) (by omega)]
      refine t_neg (by omega) ?_
      refine t_Re hlet ?_
      have hll := nmL_len (fun k => T (base + 6 * i + k)) k.toNat
      rw [if_neg (by omega)] at hs
      refine t_V (t_mono (c_put hp (by rw [List.length_append]; omega) (by omega)) (fun M3 h3 => ?_))
      refine t_let ?_
      refine hself _ _ ⟨by omega, by omega, ?_, fW_t hfr h3.2⟩ (by omega)
      rw [hs, ← List.append_assoc]
      exact h3.1
    · have hz2 := hz.2
      rw [if_neg ck] at hz2
      rw [if_neg (by omega)] at hlet
      refine t_Re hlet ?_
      refine t_pos rfl ?_
      refine t_some ?_
      rw [hend (by omega)] at hp
      exact ⟨hp, hfr⟩
/-- a number, a number of hundredths -/
def dgL : Nat → Int → List Int
  | 0, _ => []
  | f + 1, n => (if n ≤ 9 then [] else dgL f (n / 10)) ++ [48 + n % 10]
def hdL (v : Int) : List Int := (if 0 ≤ v then [] else [45]) ++ (dgL 12 ((if 0 ≤ v then v else -v) / 100) ++ [46] ++ [48 + (if 0 ≤ v then v else -v) / 10 % 10] ++ [48 + (if 0 ≤ v then v else -v) % 10])
theorem dgL_f : ∀ (f g : Nat) (n : Int), 0 ≤ n → n < 10 ^ f → n < 10 ^ g → 1 ≤ f → 1 ≤ g → dgL f n = dgL g n := by
  intro f
  induction f with
  | zero => intro g n _ _ _ h; omega
  | succ f ih =>
    intro g n h0 h1 h2 _ hg
    obtain ⟨g, rfl⟩ : ∃ g', g = g' + 1 := ⟨g - 1, by omega⟩
    unfold dgL
    by_cases c : n ≤ 9
    · rw [if_pos c, if_pos c]
    · rw [if_neg c, if_neg c]
      rw [Int.pow_succ] at h1 h2
      have hf : 1 ≤ f := by
        rcases f with _ | f
        · simp at h1; omega
        · omega
      have hg' : 1 ≤ g := by
        rcases g with _ | g
        · simp at h2; omega
        · omega
      rw [ih g (n / 10) (by omega) (by omega) (by omega) hf hg']
theorem dgL_len : ∀ (f : Nat) (n : Int), n < 10 ^ f → (dgL f n).length ≤ f := by
  intro f
  induction f with
  | zero => intro n _; exact Nat.le_refl _
  | succ f ih =>
    intro n h
    unfold dgL
    rw [List.length_append]
    have h1 : ([48 + n % 10] : List Int).length = 1 := rfl
    by_cases c : n ≤ 9
    · rw [if_pos c]
      have : ([] : List Int).length = 0 := rfl
      omega
    · rw [if_neg c]
      rw [Int.pow_succ] at h
      have := ih (n / 10) (by omega)
      omega
theorem e_sn : ∀ (f : Nat) (k : Nat) (n : Int) (M : jM) (L : List Int), pg 166 31 179 M L → L.length + f ≤ 1200 → 0 ≤ n → n ≤ 2147483647 → n < 10 ^ f → 1 ≤ f → jT (f_X10_sn f k n M) (rW M L (dgL f n)) := by
  intro f
  induction f with
  | zero => intro k n M L _ _ _ _ _ h; omega
  | succ f ih =>
    intro k n M L h hl h0 hb h1 _
    unfold f_X10_sn g_X10_saysNumber
    have hdg : dgL (f + 1) n = (if n ≤ 9 then [] else dgL f (n / 10)) ++ [48 + n % 10] := rfl
    refine t_k ?_
    rw [pw_of (z := n) (by omega) (by omega), pw_of (z := 9) (by omega) (by omega), pw_of (z := 10) (by omega) (by omega), Int.tdiv_eq_ediv_of_nonneg h0, Int.tmod_eq_emod_of_nonneg h0]
    refine t_if (fun c => ?_) (fun c => ?_)
    · rw [if_pos c] at hdg
      rw [hdg]
      refine t_V (t_mono (e_says h (by omega) (by omega)) (fun M3 h3 => ?_))
      exact t_some h3
    · rw [if_neg c] at hdg
      have h1' := h1
      rw [Int.pow_succ] at h1'
      have hf : 1 ≤ f := by
        rcases f with _ | f
        · simp at h1'; omega
        · omega
      have hlen := dgL_len f (n / 10) (by omega)
      refine t_V (t_mono (ih 0 (n / 10) M L h (by omega) (by omega) (by omega) (by omega) hf) (fun M2 h2 => ?_))
      refine t_V (t_mono (e_says h2.1 (by rw [List.length_append]; omega) (by omega)) (fun M3 h3 => ?_))
      refine t_some ⟨?_, fR_t h2.2 h3.2⟩
      rw [hdg, ← List.append_assoc]
      exact h3.1
theorem hdL_len {v : Int} (h : -999999 ≤ v ∧ v ≤ 999999) : (hdL v).length ≤ 8 := by
  unfold hdL
  have h1 := dgL_len 4 ((if 0 ≤ v then v else -v) / 100) (by
    rw [show (10 : Int) ^ 4 = 10000 from rfl]
    split <;> omega)
  rw [dgL_f 12 4 _ (by split <;> omega) (by rw [show (10 : Int) ^ 12 = 1000000000000 from rfl]; split <;> omega) (by rw [show (10 : Int) ^ 4 = 10000 from rfl]; split <;> omega) (by decide) (by decide)]
  simp only [List.length_append, List.length_singleton]
  have : (if 0 ≤ v then ([] : List Int) else [45]).length ≤ 1 := by split <;> decide
  omega
theorem e_saysHd {M : jM} {L : List Int} {v : Int} (h : pg 166 31 179 M L) (hl : L.length ≤ 1000) (hv : -999999 ≤ v ∧ v ≤ 999999) : jT (f_X10_saysHundredths v M) (rW M L (hdL v)) := by
  have hlen := hdL_len hv
  unfold f_X10_saysHundredths f_X10_saysNumber
  refine t_Re (e_abs (by omega)) ?_
  unfold hdL at hlen ⊢
  have ha : 0 ≤ (if 0 ≤ v then v else -v) ∧ (if 0 ≤ v then v else -v) ≤ 999999 := by split <;> omega
  generalize (if 0 ≤ v then v else -v) = a at ha hlen ⊢
  have hd := dgL_len 12 (a / 100) (by rw [show (10 : Int) ^ 12 = 1000000000000 from rfl]; omega)
  rw [pw_of (z := a) (by omega) (by omega), pw_of (z := 100) (by omega) (by omega), pw_of (z := 10) (by omega) (by omega), Int.tdiv_eq_ediv_of_nonneg ha.1, Int.tdiv_eq_ediv_of_nonneg ha.1, pw_of (z := a / 10) (by omega) (by omega), Int.tmod_eq_emod_of_nonneg (by omega), Int.tmod_eq_emod_of_nonneg (by omega)]
  have fin : ∀ (M3 : jM) (l0 : List Int), l0.length ≤ 1 → rW M L l0 M3 → jT (jbV (f_X10_sn 12 0 (a / 100) M3) fun M6 => jbV (f_X10_says 46 M6) fun M8 => jbV (f_X10_says (48 + a / 10 % 10) M8) fun M10 => jbV (f_X10_says (48 + a % 10) M10) fun M12 => some M12) (rW M L (l0 ++ (dgL 12 (a / 100) ++ [46] ++ [48 + a / 10 % 10] ++ [48 + a % 10]))) := fun M3 l0 hl0 h3 => by
    refine t_V (t_mono (e_sn 12 0 (a / 100) M3 _ h3.1 (by rw [List.length_append]; omega) (by omega) (by omega) (by rw [show (10 : Int) ^ 12 = 1000000000000 from rfl]; omega) (by decide)) (fun M4 h4 => ?_))
    refine t_V (t_mono (e_says h4.1 (by simp only [List.length_append]; omega) (by decide)) (fun M5 h5 => ?_))
    refine t_V (t_mono (e_says h5.1 (by simp only [List.length_append, List.length_singleton]; omega) (by omega)) (fun M6 h6 => ?_))
    refine t_V (t_mono (e_says h6.1 (by simp only [List.length_append, List.length_singleton]; omega) (by omega)) (fun M7 h7 => ?_))
    refine t_some ⟨?_, fR_t h3.2 (fR_t h4.2 (fR_t h5.2 (fR_t h6.2 h7.2)))⟩
    have := h7.1
    simp only [List.append_assoc] at this ⊢
    exact this
  refine t_k ?_
  rw [pw_of (z := v) (by omega) (by omega)]
  refine t_if (fun c => ?_) (fun c => ?_)
  · rw [if_pos c]
    refine fin M [] (by decide) ⟨?_, fun _ _ _ _ => rfl, fun _ _ => rfl⟩
    rw [List.append_nil]
    exact h
  · rw [if_neg c]
    refine t_V (t_mono (e_says h (by omega) (by decide)) (fun M3 h3 => ?_))
    exact fin M3 [45] (by decide) h3
