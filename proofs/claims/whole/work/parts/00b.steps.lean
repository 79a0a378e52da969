/-! ===== calls of the law, and its steps ===== -/
def jbT3 {R : Type} (o : Option (Int × Int × jM)) (k : Int → Int → jM → Option R) : Option R := match o with
  | some v => k v.1 v.2.1 v.2.2
  | none => none
def jbT2 {R : Type} (o : Option (Int × Int)) (k : Int → Int → Option R) : Option R := match o with
  | some v => k v.1 v.2
  | none => none
theorem jbT3_some {R : Type} {o : Option (Int × Int × jM)} {k : Int → Int → jM → Option R} {r : R} (h : jbT3 o k = some r) : ∃ c v M, o = some (c, v, M) ∧ k c v M = some r := by
  cases o with
  | none => cases h
  | some v => exact ⟨v.1, v.2.1, v.2.2, rfl, h⟩
theorem jbT2_some {R : Type} {o : Option (Int × Int)} {k : Int → Int → Option R} {r : R} (h : jbT2 o k = some r) : ∃ c v, o = some (c, v) ∧ k c v = some r := by
  cases o with
  | none => cases h
  | some v => exact ⟨v.1, v.2, rfl, h⟩
def w_read (M : jM) : Option (Int × jM) := jbT3 (f_X9_read M) fun c v M1 => if c = 0 then some (0, jst M1 180 0 (jw v)) else if c = 1 then some (1, M1) else none
def w_name (l1 : Int) (l2 : Int) (l3 : Int) (M : jM) : Option (Int × jM) := jbT2 (f_X9_name l1 l2 l3 M) fun c v => if c = 0 then some (0, jst M 180 0 (jw v)) else if c = 2 then some (1, M) else none
def w_element (l1 : Int) (l2 : Int) (M : jM) : Option (Int × jM) := jbT2 (f_X9_element l1 l2 M) fun c v => if c = 0 then some (0, jst M 180 0 (jw v)) else if c = 2 then some (1, M) else if c = 3 then some (2, M) else none
def w_attempt (l1 : Int) (l2 : Int) (l3 : Int) (M : jM) : Option (Int × jM) := jbT3 (f_X9_attempt l1 l2 l3 M) fun c v M1 => if c = 0 then some (0, jst M1 180 0 (jw v)) else if c = 2 then some (1, M1) else if c = 3 then some (2, M1) else none
def w_grade (l1 : Int) (l2 : Int) (l3 : Int) (M : jM) : Option (Int × jM) := jbT2 (f_X9_grade l1 l2 l3 M) fun c v => if c = 0 then some (0, jst M 180 0 (jw v)) else if c = 2 then some (1, M) else none
def w_mean (l1 : Int) (l2 : Int) (M : jM) : Option (Int × jM) := jbT3 (f_X9_mean l1 l2 M) fun c v M1 => if c = 0 then some (0, jst M1 180 0 (jw v)) else if c = 2 then some (1, M1) else none
def w_mark (l1 : Int) (l2 : Int) (l3 : Int) (M : jM) : Option (Int × jM) := jbT2 (f_X9_mark l1 l2 l3 M) fun c v => if c = 0 then some (0, jst M 180 0 (jw v)) else if c = 2 then some (1, M) else none
def w_component (l1 : Int) (l2 : Int) (M : jM) : Option (Int × jM) := jbT3 (f_X9_component l1 l2 M) fun c v M1 => if c = 0 then some (0, jst M1 180 0 (jw v)) else if c = 2 then some (1, M1) else none
def w_total (l1 : Int) (l2 : Int) (M : jM) : Option (Int × jM) := jbT3 (f_X9_total l1 l2 M) fun c v M1 => if c = 0 then some (0, jst M1 180 0 (jw v)) else if c = 2 then some (1, M1) else if c = 3 then some (2, M1) else none
def w_rule (l1 : Int) (l2 : Int) (M : jM) : Option (Int × jM) := jbT3 (f_X9_rule l1 l2 M) fun c v M1 => if c = 0 then some (0, jst M1 180 0 (jw v)) else if c = 2 then some (1, M1) else if c = 3 then some (2, M1) else none
def w_rank (l1 : Int) (M : jM) : Option (Int × jM) := jbT3 (f_X9_rank l1 M) fun c v M1 => if c = 0 then some (0, jst M1 180 0 (jw v)) else if c = 2 then some (1, M1) else none
def w_tell (l1 : Int) (l2 : Int) (l3 : Int) (l4 : Int) (M : jM) : Option (Int × jM) := jbT3 (f_X9_tell l1 l2 l3 l4 M) fun c v M1 => if c = 0 then some (0, jst M1 180 0 (jw v)) else if c = 2 then some (1, M1) else if c = 1 then some (2, M1) else none
def w_show (l1 : Int) (l2 : Int) (l3 : Int) (l4 : Int) (M : jM) : Option (Int × jM) := jbT3 (f_X9_show l1 l2 l3 l4 M) fun c v M1 => if c = 0 then some (0, jst M1 180 0 (jw v)) else if c = 2 then some (1, M1) else if c = 1 then some (2, M1) else none
def w_call (l1 : Int) (l2 : Int) (l3 : Int) (l4 : Int) (M : jM) : Option (Int × jM) := jbT3 (f_X9_call l1 l2 l3 l4 M) fun c v M1 => if c = 0 then (if jw v = 0 then some (0, jst M1 180 0 0) else some (0, jst M1 180 0 1)) else if c = 2 then some (1, M1) else if c = 1 then some (2, M1) else none
def w_base (l1 : Int) (l2 : Int) (M : jM) : Option (Int × jM) := jbT3 (f_X9_base l1 l2 M) fun c v M1 => if c = 0 then some (0, jst M1 180 0 (jw v)) else if c = 2 then some (1, M1) else if c = 1 then some (2, M1) else none
def w_set (l1 : Int) (l2 : Int) (M : jM) : Option (Int × jM) := jbT3 (f_X9_set l1 l2 M) fun c v M1 => if c = 0 then some (0, jst M1 180 0 (jw v)) else if c = 3 then some (1, M1) else if c = 1 then some (2, M1) else none
def w_scratch (l1 : Int) (l2 : Int) (M : jM) : Option (Int × jM) := jbT3 (f_X9_scratch l1 l2 M) fun c v M1 => if c = 0 then some (0, jst M1 180 0 (jw v)) else if c = 2 then some (1, M1) else none
def w_bias (l1 : Int) (M : jM) : Option (Int × jM) := jbT3 (f_X9_bias l1 M) fun c v M1 => if c = 0 then some (0, jst M1 180 0 (jw v)) else if c = 2 then some (1, M1) else none
def w_without (l1 : Int) (l2 : Int) (M : jM) : Option (Int × jM) := jbT3 (f_X9_without l1 l2 M) fun c v M1 => if c = 0 then some (0, jst M1 180 0 (jw v)) else if c = 2 then some (1, M1) else if c = 4 then some (2, M1) else none
def w_sways (l1 : Int) (M : jM) : Option (Int × jM) := jbT3 (f_X9_sways l1 M) fun c v M1 => if c = 0 then some (0, jst M1 180 0 (jw v)) else if c = 2 then some (1, M1) else if c = 4 then some (2, M1) else none
def w_alone (l1 : Int) (l2 : Int) (M : jM) : Option (Int × jM) := jbT3 (f_X9_alone l1 l2 M) fun c v M1 => if c = 0 then some (0, jst M1 180 0 (jw v)) else if c = 2 then some (1, M1) else none
def w_place (l1 : Int) (l2 : Int) (M : jM) : Option (Int × jM) := jbT3 (f_X9_place l1 l2 M) fun c v M1 => if c = 0 then some (0, jst M1 180 0 (jw v)) else if c = 2 then some (1, M1) else none
def w_majority (l1 : Int) (M : jM) : Option (Int × jM) := jbT3 (f_X9_majority l1 M) fun c v M1 => if c = 0 then some (0, jst M1 180 0 (jw v)) else if c = 2 then some (1, M1) else none
def w_panel (l1 : Int) (l2 : Int) (M : jM) : Option (Int × jM) := jbT2 (f_X9_panel l1 l2 M) fun c v => if c = 0 then some (0, jst M 180 0 (jw v)) else if c = 1 then some (1, M) else none
def w_by (l1 : Int) (l2 : Int) (M : jM) : Option (Int × jM) := jbT3 (f_X9_by l1 l2 M) fun c v M1 => if c = 0 then some (0, jst M1 180 0 (jw v)) else if c = 2 then some (1, M1) else if c = 1 then some (2, M1) else none
def w_firsts (l1 : Int) (l2 : Int) (M : jM) : Option (Int × jM) := jbT3 (f_X9_firsts l1 l2 M) fun c v M1 => if c = 0 then some (0, jst M1 180 0 (jw v)) else if c = 2 then some (1, M1) else if c = 1 then some (2, M1) else none
def w_needed (l1 : Int) (l2 : Int) (M : jM) : Option (Int × jM) := jbT3 (f_X9_needed l1 l2 M) fun c v M1 => if c = 0 then some (0, jst M1 180 0 (jw v)) else if c = 2 then some (1, M1) else if c = 1 then some (2, M1) else none
def w_raise (l1 : Int) (l2 : Int) (l3 : Int) (M : jM) : Option (Int × jM) := jbT3 (f_X9_raise l1 l2 l3 M) fun c v M1 => if c = 0 then some (0, jst M1 180 0 (jw v)) else if c = 2 then some (1, M1) else if c = 4 then some (2, M1) else none
def w_prime (l1 : Int) (l2 : Int) (M : jM) : Option (Int × jM) := jbT3 (f_X9_prime l1 l2 M) fun c v M1 => if c = 0 then some (0, jst M1 180 0 (jw v)) else if c = 2 then some (1, M1) else if c = 1 then some (2, M1) else none
def w_led (l1 : Int) (M : jM) : Option (Int × jM) := jbT3 (f_X9_led l1 M) fun c v M1 => if c = 0 then some (0, jst M1 180 0 (jw v)) else if c = 1 then some (1, M1) else none
def w_doubt (l1 : Int) (M : jM) : Option (Int × jM) := jbT2 (f_X9_doubt l1 M) fun c v => if c = 0 then some (0, jst M 180 0 (jw v)) else if c = 2 then some (1, M) else none
def w_clean (l1 : Int) (M : jM) : Option (Int × jM) := jbT3 (f_X9_clean l1 M) fun c v M1 => if c = 0 then some (0, jst M1 180 0 (jw v)) else if c = 2 then some (1, M1) else none
def w_write (l1 : Int) (M : jM) : Option (Int × jM) := jbT3 (f_X9_write l1 M) fun c v M1 => if c = 0 then some (0, jst M1 180 0 (jw v)) else if c = 2 then some (1, M1) else none
def s_0 (a1 : Int) (a2 : Int) (a3 : Int) (a4 : Int) (a5 : Int) (M : jM) : Option jM :=
  jbW (f_X9_feed a1 a2 a3 a4 a5 M) fun v1 M3 =>
  jbW (f_X10_feed a1 a2 a3 a4 a5 M3) fun v4 M6 =>
  jck (jw v1 = jw v4) <|
  some M6
def s_1 (a1 : Int) (M : jM) : Option jM :=
  jbW (f_X9_end a1 M) fun v1 M3 =>
  jbW (f_X10_end a1 M3) fun v4 M6 =>
  jck (jw v1 = jw v4) <|
  some M6
def s_2 (M : jM) : Option jM :=
  jbW (w_read M) fun v1 M3 =>
  jbW (f_X10_read M3) fun v4 M6 =>
  jbR (f_X10_thrown M6) fun v7 =>
  jck (jw v7 = jw v1) <|
  if jw v1 = 0 then (
    jck (jw (jcmp (M6 180 (jw 0)) (jw v4)) = 0) <|
    some M6)
  else (
    some M6)
def s_3 (M : jM) : Option jM :=
  jbR (f_X9_fault M) fun v1 =>
  jbW (f_X10_fault M) fun v3 M5 =>
  jck (jw v1 = jw v3) <|
  some M5
def s_4 (a1 : Int) (a2 : Int) (a3 : Int) (M : jM) : Option jM :=
  jlet (if jw a1 = 0 then 0 else 1) fun b1 =>
  jbW (w_name b1 a2 a3 M) fun v2 M4 =>
  jlet (if jw a1 = 0 then 0 else 1) fun b5 =>
  jbW (f_X10_name b5 a2 a3 M4) fun v6 M8 =>
  jbR (f_X10_thrown M8) fun v9 =>
  jck (jw v9 = jw v2) <|
  if jw v2 = 0 then (
    jck (jw (jcmp (M8 180 (jw 0)) (jw v6)) = 0) <|
    some M8)
  else (
    some M8)
def s_5 (a1 : Int) (a2 : Int) (M : jM) : Option jM :=
  jbW (w_element a1 a2 M) fun v1 M3 =>
  jbW (f_X10_element a1 a2 M3) fun v4 M6 =>
  jbR (f_X10_thrown M6) fun v7 =>
  jck (jw v7 = jw v1) <|
  if jw v1 = 0 then (
    jck (jw (jcmp (M6 180 (jw 0)) (jw v4)) = 0) <|
    some M6)
  else (
    some M6)
def s_6 (a1 : Int) (a2 : Int) (a3 : Int) (M : jM) : Option jM :=
  jbW (w_attempt a1 a2 a3 M) fun v1 M3 =>
  jbW (f_X10_attempt a1 a2 a3 M3) fun v4 M6 =>
  jbR (f_X10_thrown M6) fun v7 =>
  jck (jw v7 = jw v1) <|
  if jw v1 = 0 then (
    jck (jw (jcmp (M6 180 (jw 0)) (jw v4)) = 0) <|
    some M6)
  else (
    some M6)
def s_7 (a1 : Int) (a2 : Int) (a3 : Int) (M : jM) : Option jM :=
  jbW (w_grade a1 a2 a3 M) fun v1 M3 =>
  jbW (f_X10_grade a1 a2 a3 M3) fun v4 M6 =>
  jbR (f_X10_thrown M6) fun v7 =>
  jck (jw v7 = jw v1) <|
  if jw v1 = 0 then (
    jck (jw (jcmp (M6 180 (jw 0)) (jw v4)) = 0) <|
    some M6)
  else (
    some M6)
def s_8 (a1 : Int) (a2 : Int) (M : jM) : Option jM :=
  jbW (w_mean a1 a2 M) fun v1 M3 =>
  jbW (f_X10_mean a1 a2 M3) fun v4 M6 =>
  jbR (f_X10_thrown M6) fun v7 =>
  jck (jw v7 = jw v1) <|
  if jw v1 = 0 then (
    jck (jw (jcmp (M6 180 (jw 0)) (jw v4)) = 0) <|
    some M6)
  else (
    some M6)
def s_9 (a1 : Int) (a2 : Int) (a3 : Int) (M : jM) : Option jM :=
  jbW (w_mark a1 a2 a3 M) fun v1 M3 =>
  jbW (f_X10_mark a1 a2 a3 M3) fun v4 M6 =>
  jbR (f_X10_thrown M6) fun v7 =>
  jck (jw v7 = jw v1) <|
  if jw v1 = 0 then (
    jck (jw (jcmp (M6 180 (jw 0)) (jw v4)) = 0) <|
    some M6)
  else (
    some M6)
def s_10 (a1 : Int) (a2 : Int) (M : jM) : Option jM :=
  jbW (w_component a1 a2 M) fun v1 M3 =>
  jbW (f_X10_component a1 a2 M3) fun v4 M6 =>
  jbR (f_X10_thrown M6) fun v7 =>
  jck (jw v7 = jw v1) <|
  if jw v1 = 0 then (
    jck (jw (jcmp (M6 180 (jw 0)) (jw v4)) = 0) <|
    some M6)
  else (
    some M6)
def s_11 (a1 : Int) (a2 : Int) (M : jM) : Option jM :=
  jbW (w_total a1 a2 M) fun v1 M3 =>
  jbW (f_X10_total a1 a2 M3) fun v4 M6 =>
  jbR (f_X10_thrown M6) fun v7 =>
  jck (jw v7 = jw v1) <|
  if jw v1 = 0 then (
    jck (jw (jcmp (M6 180 (jw 0)) (jw v4)) = 0) <|
    some M6)
  else (
    some M6)
def s_12 (a1 : Int) (a2 : Int) (M : jM) : Option jM :=
  jbW (w_rule a1 a2 M) fun v1 M3 =>
  jbW (f_X10_rule a1 a2 M3) fun v4 M6 =>
  jbR (f_X10_thrown M6) fun v7 =>
  jck (jw v7 = jw v1) <|
  if jw v1 = 0 then (
    jck (jw (jcmp (M6 180 (jw 0)) (jw v4)) = 0) <|
    some M6)
  else (
    some M6)
def s_13 (a1 : Int) (M : jM) : Option jM :=
  jbW (w_rank a1 M) fun v1 M3 =>
  jbW (f_X10_rank a1 M3) fun v4 M6 =>
  jbR (f_X10_thrown M6) fun v7 =>
  jck (jw v7 = jw v1) <|
  if jw v1 = 0 then (
    jck (jw (jcmp (M6 180 (jw 0)) (jw v4)) = 0) <|
    some M6)
  else (
    some M6)
def s_14 (a1 : Int) (M : jM) : Option jM :=
  jbW (f_X9_ranked a1 M) fun v1 M3 =>
  jbW (f_X10_ranked a1 M3) fun v4 M6 =>
  jck (jw v1 = jw v4) <|
  some M6
def s_15 (a1 : Int) (a2 : Int) (a3 : Int) (a4 : Int) (M : jM) : Option jM :=
  jbW (w_tell a1 a2 a3 a4 M) fun v1 M3 =>
  jbW (f_X10_tell a1 a2 a3 a4 M3) fun v4 M6 =>
  jbR (f_X10_thrown M6) fun v7 =>
  jck (jw v7 = jw v1) <|
  if jw v1 = 0 then (
    jck (jw (jcmp (M6 180 (jw 0)) (jw v4)) = 0) <|
    some M6)
  else (
    some M6)
def s_16 (a1 : Int) (a2 : Int) (a3 : Int) (a4 : Int) (M : jM) : Option jM :=
  jbW (w_show a1 a2 a3 a4 M) fun v1 M3 =>
  jbW (f_X10_show a1 a2 a3 a4 M3) fun v4 M6 =>
  jbR (f_X10_thrown M6) fun v7 =>
  jck (jw v7 = jw v1) <|
  if jw v1 = 0 then (
    jck (jw (jcmp (M6 180 (jw 0)) (jw v4)) = 0) <|
    some M6)
  else (
    some M6)
def s_17 (a1 : Int) (a2 : Int) (a3 : Int) (a4 : Int) (M : jM) : Option jM :=
  jlet (if jw a4 = 0 then 0 else 1) fun b1 =>
  jbW (w_call a1 a2 a3 b1 M) fun v2 M4 =>
  jlet (if jw a4 = 0 then 0 else 1) fun b5 =>
  jbW (f_X10_call a1 a2 a3 b5 M4) fun v6 M8 =>
  jbR (f_X10_thrown M8) fun v9 =>
  jck (jw v9 = jw v2) <|
  if jw v2 = 0 then (
    jlet (if jw v6 = 0 then 0 else 1) fun b12 =>
    jck (jw (jcmp (M8 180 (jw 0)) b12) = 0) <|
    some M8)
  else (
    some M8)
def s_18 (a1 : Int) (a2 : Int) (M : jM) : Option jM :=
  jbW (w_base a1 a2 M) fun v1 M3 =>
  jbW (f_X10_base a1 a2 M3) fun v4 M6 =>
  jbR (f_X10_thrown M6) fun v7 =>
  jck (jw v7 = jw v1) <|
  if jw v1 = 0 then (
    jck (jw (jcmp (M6 180 (jw 0)) (jw v4)) = 0) <|
    some M6)
  else (
    some M6)
def s_19 (a1 : Int) (a2 : Int) (M : jM) : Option jM :=
  jbW (w_set a1 a2 M) fun v1 M3 =>
  jbW (f_X10_set a1 a2 M3) fun v4 M6 =>
  jbR (f_X10_thrown M6) fun v7 =>
  jck (jw v7 = jw v1) <|
  if jw v1 = 0 then (
    jck (jw (jcmp (M6 180 (jw 0)) (jw v4)) = 0) <|
    some M6)
  else (
    some M6)
def s_20 (a1 : Int) (a2 : Int) (M : jM) : Option jM :=
  jbW (w_scratch a1 a2 M) fun v1 M3 =>
  jbW (f_X10_scratch a1 a2 M3) fun v4 M6 =>
  jbR (f_X10_thrown M6) fun v7 =>
  jck (jw v7 = jw v1) <|
  if jw v1 = 0 then (
    jck (jw (jcmp (M6 180 (jw 0)) (jw v4)) = 0) <|
    some M6)
  else (
    some M6)
def s_21 (M : jM) : Option jM :=
  jbW (f_X9_undo M) fun v1 M3 =>
  jbW (f_X10_undo M3) fun v4 M6 =>
  jck (jw v1 = jw v4) <|
  some M6
def s_22 (a1 : Int) (M : jM) : Option jM :=
  jbW (w_bias a1 M) fun v1 M3 =>
  jbW (f_X10_bias a1 M3) fun v4 M6 =>
  jbR (f_X10_thrown M6) fun v7 =>
  jck (jw v7 = jw v1) <|
  if jw v1 = 0 then (
    jck (jw (jcmp (M6 180 (jw 0)) (jw v4)) = 0) <|
    some M6)
  else (
    some M6)
def s_23 (M : jM) : Option jM :=
  jbW (f_X9_odd M) fun v1 M3 =>
  jbW (f_X10_odd M3) fun v4 M6 =>
  jck (jw v1 = jw v4) <|
  some M6
def s_24 (a1 : Int) (a2 : Int) (M : jM) : Option jM :=
  jbW (w_without a1 a2 M) fun v1 M3 =>
  jbW (f_X10_without a1 a2 M3) fun v4 M6 =>
  jbR (f_X10_thrown M6) fun v7 =>
  jck (jw v7 = jw v1) <|
  if jw v1 = 0 then (
    jck (jw (jcmp (M6 180 (jw 0)) (jw v4)) = 0) <|
    some M6)
  else (
    some M6)
def s_25 (a1 : Int) (M : jM) : Option jM :=
  jbW (w_sways a1 M) fun v1 M3 =>
  jbW (f_X10_sways a1 M3) fun v4 M6 =>
  jbR (f_X10_thrown M6) fun v7 =>
  jck (jw v7 = jw v1) <|
  if jw v1 = 0 then (
    jck (jw (jcmp (M6 180 (jw 0)) (jw v4)) = 0) <|
    some M6)
  else (
    some M6)
def s_26 (a1 : Int) (a2 : Int) (M : jM) : Option jM :=
  jbW (w_alone a1 a2 M) fun v1 M3 =>
  jbW (f_X10_alone a1 a2 M3) fun v4 M6 =>
  jbR (f_X10_thrown M6) fun v7 =>
  jck (jw v7 = jw v1) <|
  if jw v1 = 0 then (
    jck (jw (jcmp (M6 180 (jw 0)) (jw v4)) = 0) <|
    some M6)
  else (
    some M6)
def s_27 (a1 : Int) (a2 : Int) (M : jM) : Option jM :=
  jbW (w_place a1 a2 M) fun v1 M3 =>
  jbW (f_X10_place a1 a2 M3) fun v4 M6 =>
  jbR (f_X10_thrown M6) fun v7 =>
  jck (jw v7 = jw v1) <|
  if jw v1 = 0 then (
    jck (jw (jcmp (M6 180 (jw 0)) (jw v4)) = 0) <|
    some M6)
  else (
    some M6)
def s_28 (a1 : Int) (M : jM) : Option jM :=
  jbW (w_majority a1 M) fun v1 M3 =>
  jbW (f_X10_majority a1 M3) fun v4 M6 =>
  jbR (f_X10_thrown M6) fun v7 =>
  jck (jw v7 = jw v1) <|
  if jw v1 = 0 then (
    jck (jw (jcmp (M6 180 (jw 0)) (jw v4)) = 0) <|
    some M6)
  else (
    some M6)
def s_29 (a1 : Int) (M : jM) : Option jM :=
  jbW (f_X9_major a1 M) fun v1 M3 =>
  jbW (f_X10_major a1 M3) fun v4 M6 =>
  jck (jw v1 = jw v4) <|
  some M6
def s_30 (a1 : Int) (a2 : Int) (M : jM) : Option jM :=
  jbW (w_panel a1 a2 M) fun v1 M3 =>
  jbW (f_X10_panel a1 a2 M3) fun v4 M6 =>
  jbR (f_X10_thrown M6) fun v7 =>
  jck (jw v7 = jw v1) <|
  if jw v1 = 0 then (
    jck (jw (jcmp (M6 180 (jw 0)) (jw v4)) = 0) <|
    some M6)
  else (
    some M6)
def s_31 (a1 : Int) (a2 : Int) (M : jM) : Option jM :=
  jbW (w_by a1 a2 M) fun v1 M3 =>
  jbW (f_X10_by a1 a2 M3) fun v4 M6 =>
  jbR (f_X10_thrown M6) fun v7 =>
  jck (jw v7 = jw v1) <|
  if jw v1 = 0 then (
    jck (jw (jcmp (M6 180 (jw 0)) (jw v4)) = 0) <|
    some M6)
  else (
    some M6)
def s_32 (a1 : Int) (a2 : Int) (M : jM) : Option jM :=
  jbW (w_firsts a1 a2 M) fun v1 M3 =>
  jbW (f_X10_firsts a1 a2 M3) fun v4 M6 =>
  jbR (f_X10_thrown M6) fun v7 =>
  jck (jw v7 = jw v1) <|
  if jw v1 = 0 then (
    jck (jw (jcmp (M6 180 (jw 0)) (jw v4)) = 0) <|
    some M6)
  else (
    some M6)
def s_33 (a1 : Int) (a2 : Int) (M : jM) : Option jM :=
  jbW (w_needed a1 a2 M) fun v1 M3 =>
  jbW (f_X10_needed a1 a2 M3) fun v4 M6 =>
  jbR (f_X10_thrown M6) fun v7 =>
  jck (jw v7 = jw v1) <|
  if jw v1 = 0 then (
    jck (jw (jcmp (M6 180 (jw 0)) (jw v4)) = 0) <|
    some M6)
  else (
    some M6)
def s_34 (a1 : Int) (a2 : Int) (a3 : Int) (M : jM) : Option jM :=
  jbW (w_raise a1 a2 a3 M) fun v1 M3 =>
  jbW (f_X10_raise a1 a2 a3 M3) fun v4 M6 =>
  jbR (f_X10_thrown M6) fun v7 =>
  jck (jw v7 = jw v1) <|
  if jw v1 = 0 then (
    jck (jw (jcmp (M6 180 (jw 0)) (jw v4)) = 0) <|
    some M6)
  else (
    some M6)
def s_35 (a1 : Int) (a2 : Int) (M : jM) : Option jM :=
  jbW (w_prime a1 a2 M) fun v1 M3 =>
  jbW (f_X10_prime a1 a2 M3) fun v4 M6 =>
  jbR (f_X10_thrown M6) fun v7 =>
  jck (jw v7 = jw v1) <|
  if jw v1 = 0 then (
    jck (jw (jcmp (M6 180 (jw 0)) (jw v4)) = 0) <|
    some M6)
  else (
    some M6)
def s_36 (a1 : Int) (M : jM) : Option jM :=
  jbW (w_led a1 M) fun v1 M3 =>
  jbW (f_X10_led a1 M3) fun v4 M6 =>
  jbR (f_X10_thrown M6) fun v7 =>
  jck (jw v7 = jw v1) <|
  if jw v1 = 0 then (
    jck (jw (jcmp (M6 180 (jw 0)) (jw v4)) = 0) <|
    some M6)
  else (
    some M6)
def s_37 (a1 : Int) (M : jM) : Option jM :=
  jbW (w_doubt a1 M) fun v1 M3 =>
  jbW (f_X10_doubt a1 M3) fun v4 M6 =>
  jbR (f_X10_thrown M6) fun v7 =>
  jck (jw v7 = jw v1) <|
  if jw v1 = 0 then (
    jck (jw (jcmp (M6 180 (jw 0)) (jw v4)) = 0) <|
    some M6)
  else (
    some M6)
def s_38 (a1 : Int) (M : jM) : Option jM :=
  jbW (w_clean a1 M) fun v1 M3 =>
  jbW (f_X10_clean a1 M3) fun v4 M6 =>
  jbR (f_X10_thrown M6) fun v7 =>
  jck (jw v7 = jw v1) <|
  if jw v1 = 0 then (
    jck (jw (jcmp (M6 180 (jw 0)) (jw v4)) = 0) <|
    some M6)
  else (
    some M6)
def s_39 (a1 : Int) (M : jM) : Option jM :=
  jbW (w_write a1 M) fun v1 M3 =>
  jbW (f_X10_write a1 M3) fun v4 M6 =>
  jbR (f_X10_thrown M6) fun v7 =>
  jck (jw v7 = jw v1) <|
  if jw v1 = 0 then (
    jck (jw (jcmp (M6 180 (jw 0)) (jw v4)) = 0) <|
    some M6)
  else (
    some M6)
def s_40 (a1 : Int) (M : jM) : Option jM :=
  jbR (f_X9_octet a1 M) fun v1 =>
  jbW (f_X10_octet a1 M) fun v3 M5 =>
  jck (jw v1 = jw v3) <|
  some M5
def s_41 (a1 : Int) (M : jM) : Option jM :=
  jbR (f_X9_count a1 M) fun v1 =>
  jbW (f_X10_count a1 M) fun v3 M5 =>
  jck (jw v1 = jw v3) <|
  some M5
def s_all (t a1 a2 a3 a4 a5 : Int) (M : jM) : Option jM :=
  if t < 0 ∨ 41 < t then some M
  else if t = 0 then s_0 a1 a2 a3 a4 a5 M
  else if t = 1 then s_1 a1 M
  else if t = 2 then s_2 M
  else if t = 3 then s_3 M
  else if t = 4 then s_4 a1 a2 a3 M
  else if t = 5 then s_5 a1 a2 M
  else if t = 6 then s_6 a1 a2 a3 M
  else if t = 7 then s_7 a1 a2 a3 M
  else if t = 8 then s_8 a1 a2 M
  else if t = 9 then s_9 a1 a2 a3 M
  else if t = 10 then s_10 a1 a2 M
  else if t = 11 then s_11 a1 a2 M
  else if t = 12 then s_12 a1 a2 M
  else if t = 13 then s_13 a1 M
  else if t = 14 then s_14 a1 M
  else if t = 15 then s_15 a1 a2 a3 a4 M
  else if t = 16 then s_16 a1 a2 a3 a4 M
  else if t = 17 then s_17 a1 a2 a3 a4 M
  else if t = 18 then s_18 a1 a2 M
  else if t = 19 then s_19 a1 a2 M
  else if t = 20 then s_20 a1 a2 M
  else if t = 21 then s_21 M
  else if t = 22 then s_22 a1 M
  else if t = 23 then s_23 M
  else if t = 24 then s_24 a1 a2 M
  else if t = 25 then s_25 a1 M
  else if t = 26 then s_26 a1 a2 M
  else if t = 27 then s_27 a1 a2 M
  else if t = 28 then s_28 a1 M
  else if t = 29 then s_29 a1 M
  else if t = 30 then s_30 a1 a2 M
  else if t = 31 then s_31 a1 a2 M
  else if t = 32 then s_32 a1 a2 M
  else if t = 33 then s_33 a1 a2 M
  else if t = 34 then s_34 a1 a2 a3 M
  else if t = 35 then s_35 a1 a2 M
  else if t = 36 then s_36 a1 M
  else if t = 37 then s_37 a1 M
  else if t = 38 then s_38 a1 M
  else if t = 39 then s_39 a1 M
  else if t = 40 then s_40 a1 M
  else s_41 a1 M
def jin (a : Int) : Prop := -2147483648 ≤ a ∧ a < 2147483648
