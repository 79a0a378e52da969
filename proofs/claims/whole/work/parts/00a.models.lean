/-! ===== what the methods do, as plain functions; by program out of the bytecode ===== -/
def f_X0_forget (M : jM) : Option (jM) :=
  jlet (jst M 159 0 0) fun M1 =>
  some M1
def f_J9_min_7cf53 (l0 : Int) (l1 : Int) : Option (Int) :=
  if jw l1 < jw l0 then (
    some l1)
  else (
    some l0)
def f_X0_keep (l1 : Int) (l2 : Int) (l3 : Int) (l4 : Int) (M : jM) : Option (jM) :=
  jck (0 ≤ jw (M 159 1) ∧ jw (M 159 1) < 16) <|
  jlet (jst M 160 (jw (M 159 1)) l1) fun M2 =>
  jck (0 ≤ jw (M2 159 1) ∧ jw (M2 159 1) < 16) <|
  jlet (jst M2 161 (jw (M2 159 1)) l2) fun M4 =>
  jck (0 ≤ jw (M4 159 1) ∧ jw (M4 159 1) < 16) <|
  jlet (jst M4 162 (jw (M4 159 1)) l3) fun M6 =>
  jck (0 ≤ jw (M6 159 1) ∧ jw (M6 159 1) < 16) <|
  jlet (jst M6 163 (jw (M6 159 1)) l4) fun M8 =>
  jlet (jst M8 159 1 ((jw ((M8 159 1) + 1)).tmod (jw 16))) fun M9 =>
  jbR (f_J9_min_7cf53 ((M9 159 0) + 1) 16) fun v11 =>
  jlet (jst M9 159 0 v11) fun M12 =>
  some M12
def f_X0_takeBack (l1 : Int) (M : jM) : Option (Int × jM) :=
  if jw (M 159 0) = 0 then (
    some (0, M))
  else (
    jlet (jst M 159 0 ((M 159 0) - 1)) fun M1 =>
    jlet (jst M1 159 1 ((jw (((M1 159 1) + 16) - 1)).tmod (jw 16))) fun M2 =>
    jck (0 ≤ jw (M2 159 1) ∧ jw (M2 159 1) < 16) <|
    jck (0 ≤ jw (M2 161 (jw (M2 159 1))) ∧ jw (M2 161 (jw (M2 159 1))) < 6) <|
    jck (0 ≤ jw (M2 159 1) ∧ jw (M2 159 1) < 16) <|
    jlet ((M2 162 (jw (M2 159 1)))) fun l3_6 =>
    jck (0 ≤ jw (M2 159 1) ∧ jw (M2 159 1) < 16) <|
    jlet ((M2 163 (jw (M2 159 1)))) fun l4_8 =>
    jck (0 ≤ jw (M2 159 1) ∧ jw (M2 159 1) < 16) <|
    if jw (M2 160 (jw (M2 159 1))) < 0 ∨ 3 < jw (M2 160 (jw (M2 159 1))) then (
      jlet (jst M2 ((l1 + 16) + 1 + 6 * jw (M2 161 (jw (M2 159 1)))) 1 l4_8) fun M10 =>
      some (1, M10))
    else if jw (M2 160 (jw (M2 159 1))) = 0 then (
      jck (0 ≤ jw l3_6 ∧ jw l3_6 < 135) <|
      jlet (jst M2 (((l1 + 16) + 1 + 6 * jw (M2 161 (jw (M2 159 1)))) + 5) (jw l3_6) l4_8) fun M12 =>
      some (1, M12))
    else if jw (M2 160 (jw (M2 159 1))) = 1 then (
      jck (0 ≤ jw l3_6 ∧ jw l3_6 < 12) <|
      jlet (jst M2 (((l1 + 16) + 1 + 6 * jw (M2 161 (jw (M2 159 1)))) + 4) (jw l3_6) l4_8) fun M14 =>
      some (1, M14))
    else if jw (M2 160 (jw (M2 159 1))) = 2 then (
      jck (0 ≤ jw l3_6 ∧ jw l3_6 < 10) <|
      jlet (jst M2 (l1 + 5) (jw l3_6) l4_8) fun M16 =>
      some (1, M16))
    else (
      jck (0 ≤ jw l3_6 ∧ jw l3_6 < 7) <|
      jlet (jst M2 (l1 + 1) (jw l3_6) l4_8) fun M18 =>
      some (1, M18)))
def f_X1_everyJudge (t : Int) (M : jM) : Option (Int) :=
  some ((jsl 1 (M t 0)) - 1)
def f_X2_forget (t : Int) (M : jM) : Option (jM) :=
  jlet (jst M t 3 0) fun M1 =>
  some M1
def f_X5_forget (t : Int) (M : jM) : Option (jM) :=
  jlet (jst M t 0 0) fun M1 =>
  jlet (jst M1 t 1 0) fun M2 =>
  some M2
def f_J7_fill_53178 (l0 : Int) (l1 : Int) (M : jM) : Option (jM) :=
  jlet ((jln l0)) fun l3_1 =>
  jlp2 (fun (self4 : Int → jM → Option (jM)) (l2_2 : Int) (M3 : jM) =>
    if jw l3_1 ≤ jw l2_2 then (
      some M3)
    else (
      jck (0 ≤ jw l2_2 ∧ jw l2_2 < jln l0) <|
      jlet (jst M3 l0 (jw l2_2) l1) fun M6 =>
      jlet (l2_2 + 1) fun l2_7 =>
      self4 l2_7 M6)) jfuel 0 M
def f_X6_forget (t : Int) (M : jM) : Option (jM) :=
  jlet (jst M t 0 0) fun M1 =>
  jlet (jst M1 t 1 0) fun M2 =>
  jlet (jst M2 t 2 0) fun M3 =>
  jbV (f_J7_fill_53178 (t + 5) 0 M3) fun M5 =>
  some M5
def f_X1_forget (t : Int) (M : jM) : Option (jM) :=
  jlet (jst M t 0 5) fun M1 =>
  jlet (jcpT M1 2 (t + 1)) fun M2 =>
  jbV (f_X2_forget (t + 2) M2) fun M4 =>
  jbV (f_X5_forget (t + 7) M4) fun M6 =>
  jbV (f_X2_forget (t + 13) M6) fun M8 =>
  jlp2 (fun (self11 : Int → jM → Option (jM)) (l1_9 : Int) (M10 : jM) =>
    if jw 6 ≤ jw l1_9 then (
      some M10)
    else (
      jck (0 ≤ jw l1_9 ∧ jw l1_9 < 6) <|
      jbV (f_X6_forget ((t + 16) + 1 + 6 * jw l1_9) M10) fun M14 =>
      jlet (l1_9 + 1) fun l1_15 =>
      self11 l1_15 M14)) jfuel 0 M8
def f_X2_isFull (t : Int) (M : jM) : Option (Int) :=
  if jw (M t 3) < jw (M t 0) then (
    some 0)
  else (
    some 1)
def f_X2_add (t : Int) (l1 : Int) (l2 : Int) (l3 : Int) (M : jM) : Option (jM) :=
  jbR (f_X2_isFull t M) fun v2 =>
  if jw v2 = 0 then (
    if jw l3 ≤ jw 6 then (
      jck (0 ≤ jw l2 ∧ 0 ≤ jw ((M t 3) * 6) ∧ 0 ≤ jw l3 ∧ jw l2 + jw l3 ≤ jln l1 ∧ jw ((M t 3) * 6) + jw l3 ≤ jln (t + 1)) <|
      jlet (jcp M l1 (jw l2) (t + 1) (jw ((M t 3) * 6)) (jw l3)) fun M3 =>
      jck (0 ≤ jw (M3 t 3) ∧ jw (M3 t 3) < jln (t + 2)) <|
      jlet (jst M3 (t + 2) (jw (M3 t 3)) l3) fun M5 =>
      jlet (jst M5 t 3 ((M5 t 3) + 1)) fun M6 =>
      some M6)
    else (
      some M))
  else (
    some M)
def f_X2_isLike (t : Int) (l1 : Int) (l2 : Int) (l3 : Int) (M : jM) : Option (Int) :=
  jlp1 (fun (self2 : Int → Option (Int)) (l4_1 : Int) =>
    jck (0 ≤ jw l1 ∧ jw l1 < jln (t + 2)) <|
    if jw (M (t + 2) (jw l1)) ≤ jw l4_1 then (
      some 1)
    else (
      jck (0 ≤ jw ((l1 * 6) + l4_1) ∧ jw ((l1 * 6) + l4_1) < jln (t + 1)) <|
      jck (0 ≤ jw (l3 + l4_1) ∧ jw (l3 + l4_1) < jln l2) <|
      if jw (M (t + 1) (jw ((l1 * 6) + l4_1))) = jw (M l2 (jw (l3 + l4_1))) then (
        jlet (l4_1 + 1) fun l4_6 =>
        self2 l4_6)
      else (
        some 0))) jfuel 0
def f_X2_find (t : Int) (l1 : Int) (l2 : Int) (l3 : Int) (M : jM) : Option (Int) :=
  jlp1 (fun (self2 : Int → Option (Int)) (l4_1 : Int) =>
    if jw (M t 3) ≤ jw l4_1 then (
      some (-1))
    else (
      jck (0 ≤ jw l4_1 ∧ jw l4_1 < jln (t + 2)) <|
      if jw (M (t + 2) (jw l4_1)) = jw l3 then (
        jbR (f_X2_isLike t l4_1 l1 l2 M) fun v6 =>
        if jw v6 = 0 then (
          jlet (l4_1 + 1) fun l4_7 =>
          self2 l4_7)
        else (
          some l4_1))
      else (
        jlet (l4_1 + 1) fun l4_4 =>
        self2 l4_4))) jfuel 0
def f_X2_letter (t : Int) (l1 : Int) (l2 : Int) (M : jM) : Option (Int) :=
  if jw l2 < 0 then (
    some (-1))
  else (
    jck (0 ≤ jw l1 ∧ jw l1 < jln (t + 2)) <|
    if jw (M (t + 2) (jw l1)) ≤ jw l2 then (
      some (-1))
    else (
      jck (0 ≤ jw ((l1 * 6) + l2) ∧ jw ((l1 * 6) + l2) < jln (t + 1)) <|
      some (M (t + 1) (jw ((l1 * 6) + l2)))))
def f_X3_put (l1 : Int) (M : jM) : Option (jM) :=
  if jw 420 ≤ jw (M 164 1) then (
    some M)
  else (
    jck (0 ≤ jw (M 164 1) ∧ jw (M 164 1) < 420) <|
    jlet (jst M 165 (jw (M 164 1)) l1) fun M2 =>
    jlet (jst M2 164 1 ((M2 164 1) + 1)) fun M3 =>
    some M3)
def f_X3_putLetters (l1 : Int) (l2 : Int) (M : jM) : Option (jM) :=
  jlp2 (fun (self3 : Int → jM → Option (jM)) (l3_1 : Int) (M2 : jM) =>
    if jw 6 ≤ jw l3_1 then (
      some M2)
    else (
      jbR (f_X2_letter l1 l2 l3_1 M2) fun v5 =>
      if jw v5 = jw (-1) then (
        some M2)
      else (
        jbR (f_X2_letter l1 l2 l3_1 M2) fun v7 =>
        jbV (f_X3_put v7 M2) fun M9 =>
        jlet (l3_1 + 1) fun l3_10 =>
        self3 l3_10 M9))) jfuel 0 M
def f_J9_abs_0f7a4 (l0 : Int) : Option (Int) :=
  if 0 ≤ jw l0 then (
    some l0)
  else (
    some (-l0))
def f_X3_putHundredths (l1 : Int) (M : jM) : Option (jM) :=
  jk (fun (M1 : jM) =>
    jbR (f_J9_abs_0f7a4 l1) fun v4 =>
    jlp3 (fun (self8 : Int → Int → jM → Option (jM)) (l3_5 : Int) (l4_6 : Int) (M7 : jM) =>
      if jw l4_6 ≤ 0 then (
        some M7)
      else (
        jk (fun (s0_9 : Int) =>
          jk (fun (M11 : jM) =>
            jk (fun (M13 : jM) =>
              jlet (((jw l4_6).tdiv (jw 10))) fun l4_15 =>
              self8 s0_9 l4_15 M13) fun (k14 : jM → Option (jM)) =>
            if jw l4_6 = jw 100 then (
              jbV (f_X3_put 46 M11) fun M17 =>
              k14 M17)
            else (
              k14 M11)) fun (k12 : jM → Option (jM)) =>
          if jw s0_9 = 0 then (
            k12 M7)
          else (
            jck (jw l4_6 ≠ 0) <|
            jbV (f_X3_put (48 + ((jw ((jw v4).tdiv (jw l4_6))).tmod (jw 10))) M7) fun M20 =>
            k12 M20)) fun (k10 : Int → Option (jM)) =>
        jk (
          k10 1) fun (k21 : Option (jM)) =>
        if jw l3_5 = 0 then (
          if jw l4_6 ≤ jw 100 then (
            k21)
          else (
            if jw v4 < jw l4_6 then (
              k10 0)
            else (
              k21)))
        else (
          k21))) jfuel 0 10000000 M1) fun (k2 : jM → Option (jM)) =>
  if 0 ≤ jw l1 then (
    k2 M)
  else (
    jbV (f_X3_put 45 M) fun M23 =>
    k2 M23)
def f_X6_has (t : Int) (l1 : Int) (M : jM) : Option (Int) :=
  if jw l1 < 0 then (
    some 0)
  else (
    if jw (M t 0) ≤ jw l1 then (
      some 0)
    else (
      if jw (jnd (jsr (M t 1) l1) 1) = 0 then (
        some 1)
      else (
        some 0)))
def f_X8_isLate (t : Int) (l1 : Int) (M : jM) : Option (Int) :=
  if jw (jnd (jsr (M t 3) l1) 1) = 0 then (
    some 0)
  else (
    some 1)
def f_X8_bonusOf (t : Int) (l1 : Int) (M : jM) : Option (Int) :=
  jck (0 ≤ jw l1 ∧ jw l1 < 12) <|
  jck (jkd (M t 0) = 1) <|
  jck (0 ≤ jw 2 ∧ jw 2 < 7) <|
  some ((jw ((M (t + 2) (jw l1)) * (M ((M t 0) + 1) (jw 2)))).tdiv (jw 100))
def f_X8_worthOf (t : Int) (l1 : Int) (M : jM) : Option (Int) :=
  jbR (f_X8_isLate t l1 M) fun v2 =>
  if jw v2 = 0 then (
    jck (0 ≤ jw l1 ∧ jw l1 < 12) <|
    some (M (t + 2) (jw l1)))
  else (
    jck (0 ≤ jw l1 ∧ jw l1 < 12) <|
    jbR (f_X8_bonusOf t l1 M) fun v6 =>
    some ((M (t + 2) (jw l1)) + v6))
def f_J6_bitCount_0f7a4 (l0 : Int) : Option (Int) :=
  jlet ((l0 - (jnd (jus l0 1) 1431655765))) fun l0_1 =>
  jlet (((jnd l0_1 858993459) + (jnd (jus l0_1 2) 858993459))) fun l0_2 =>
  jlet ((jnd (l0_2 + (jus l0_2 4)) 252645135)) fun l0_3 =>
  jlet ((l0_3 + (jus l0_3 8))) fun l0_4 =>
  jlet ((l0_4 + (jus l0_4 16))) fun l0_5 =>
  some (jnd l0_5 63)
def f_J9_floorDiv_7cf53 (l0 : Int) (l1 : Int) : Option (Int) :=
  jck (jw l1 ≠ 0) <|
  jlet (((jw l0).tdiv (jw l1))) fun l2_2 =>
  if 0 ≤ jw (jxr l0 l1) then (
    some l2_2)
  else (
    if jw (l2_2 * l1) = jw l0 then (
      some l2_2)
    else (
      some (l2_2 - 1)))
def f_X8_trimmed (t : Int) (l1 : Int) (l2 : Int) (M : jM) : Option (Int) :=
  jbR (f_J6_bitCount_0f7a4 l2) fun v2 =>
  jck (jkd (M t 0) = 1) <|
  jck (0 ≤ jw 0 ∧ jw 0 < 7) <|
  jbR (f_J9_min_7cf53 (M ((M t 0) + 1) (jw 0)) ((jw (v2 - 1)).tdiv (jw 2))) fun v6 =>
  jlet ((v2 - (2 * v6))) fun l5_7 =>
  if jw 1 ≤ jw l5_7 then (
    jlet ((l1 * 9)) fun l6_8 =>
    jlp3 (fun (self12 : Int → Int → Int → Option (Int)) (l7_9 : Int) (l8_10 : Int) (l9_11 : Int) =>
      if jw (l6_8 + (M (M t 0) 0)) ≤ jw l9_11 then (
        jbR (f_J9_floorDiv_7cf53 (100 * l8_10) l5_7) fun v14 =>
        some v14)
      else (
        jck (0 ≤ jw l9_11 ∧ jw l9_11 < 135) <|
        jlet ((M (t + 6) (jw l9_11))) fun l10_16 =>
        if jw (jnd (jsr l2 l10_16) 1) = 0 then (
          jlet (l9_11 + 1) fun l9_17 =>
          self12 l7_9 l8_10 l9_17)
        else (
          jk (fun (l8_18 : Int) =>
            jlet (l7_9 + 1) fun l7_20 =>
            jlet (l9_11 + 1) fun l9_21 =>
            self12 l7_20 l8_18 l9_21) fun (k19 : Int → Option (Int)) =>
          if jw l7_9 < jw v6 then (
            k19 l8_10)
          else (
            if jw (v2 - v6) ≤ jw l7_9 then (
              k19 l8_10)
            else (
              jck (jkd (M t 1) = 6) <|
              jck (0 ≤ jw (l6_8 + l10_16) ∧ jw (l6_8 + l10_16) < 135) <|
              jlet ((l8_10 + (M ((M t 1) + 5) (jw (l6_8 + l10_16))))) fun l8_24 =>
              k19 l8_24))))) jfuel 0 0 l6_8)
  else (
    some 0)
def f_X8_gainBy (t : Int) (l1 : Int) (l2 : Int) (M : jM) : Option (Int) :=
  jck (0 ≤ jw l1 ∧ jw l1 < 12) <|
  jbR (f_J9_floorDiv_7cf53 ((M (t + 3) (jw l1)) * l2) 1000) fun v3 =>
  some v3
def f_X8_gainOf (t : Int) (l1 : Int) (l2 : Int) (M : jM) : Option (Int) :=
  jbR (f_X8_trimmed t l1 l2 M) fun v2 =>
  jbR (f_X8_gainBy t l1 v2 M) fun v4 =>
  some v4
def f_X8_pointsOf (t : Int) (l1 : Int) (l2 : Int) (M : jM) : Option (Int) :=
  jbR (f_X8_worthOf t l1 M) fun v2 =>
  jbR (f_X8_gainOf t l1 l2 M) fun v4 =>
  some (v2 + v4)
def f_X3_putAttempt (l1 : Int) (l2 : Int) (l3 : Int) (l4 : Int) (M : jM) : Option (jM) :=
  jbV (f_X3_put 10 M) fun M2 =>
  jlp2 (fun (self5 : Int → jM → Option (jM)) (l5_3 : Int) (M4 : jM) =>
    jck (0 ≤ jw l3 ∧ jw l3 < 12) <|
    if jw (M4 (l2 + 2) (jw l3)) ≤ jw l5_3 then (
      jck (0 ≤ jw l3 ∧ jw l3 < 12) <|
      jk (fun (M8 : jM) =>
        jck (0 ≤ jw l3 ∧ jw l3 < 12) <|
        jk (fun (M11 : jM) =>
          jbR (f_X8_isLate l4 l3 M11) fun v14 =>
          jk (fun (M15 : jM) =>
            jbV (f_X3_put 32 M15) fun M18 =>
            jbR (f_X1_everyJudge l1 M18) fun v20 =>
            jbR (f_X8_pointsOf l4 l3 v20 M18) fun v22 =>
            jbV (f_X3_putHundredths v22 M18) fun M24 =>
            some M24) fun (k16 : jM → Option (jM)) =>
          if jw v14 = 0 then (
            k16 M11)
          else (
            jbV (f_X3_put 120 M11) fun M26 =>
            k16 M26)) fun (k12 : jM → Option (jM)) =>
        if jw (jnd (M8 (l2 + 4) (jw l3)) 2) = 0 then (
          k12 M8)
        else (
          jbV (f_X3_put 33 M8) fun M28 =>
          k12 M28)) fun (k9 : jM → Option (jM)) =>
      if jw (jnd (M4 (l2 + 4) (jw l3)) 1) = 0 then (
        k9 M4)
      else (
        jbV (f_X3_put 60 M4) fun M30 =>
        k9 M30))
    else (
      jk (fun (M31 : jM) =>
        jck (0 ≤ jw ((l3 * 3) + l5_3) ∧ jw ((l3 * 3) + l5_3) < 36) <|
        jbV (f_X3_putLetters (l1 + 2) (M31 (l2 + 3) (jw ((l3 * 3) + l5_3))) M31) fun M35 =>
        jlet (l5_3 + 1) fun l5_36 =>
        self5 l5_36 M35) fun (k32 : jM → Option (jM)) =>
      if jw l5_3 ≤ 0 then (
        k32 M4)
      else (
        jbV (f_X3_put 43 M4) fun M38 =>
        k32 M38))) jfuel 0 M2
def f_X3_putSkater (l1 : Int) (l2 : Int) (l3 : Int) (M : jM) : Option (jM) :=
  jck (0 ≤ jw l2 ∧ jw l2 < 6) <|
  jlet (jst M 164 1 0) fun M2 =>
  jbV (f_X3_putLetters (l1 + 13) l2 M2) fun M4 =>
  jbV (f_X3_put 32 M4) fun M6 =>
  jbV (f_X3_putHundredths (M6 l3 8) M6) fun M8 =>
  jlp2 (fun (self11 : Int → jM → Option (jM)) (l5_9 : Int) (M10 : jM) =>
    if jw (M10 ((l1 + 16) + 1 + 6 * jw l2) 0) ≤ jw l5_9 then (
      some M10)
    else (
      jbR (f_X6_has ((l1 + 16) + 1 + 6 * jw l2) l5_9 M10) fun v13 =>
      if jw v13 = 0 then (
        jlet (l5_9 + 1) fun l5_14 =>
        self11 l5_14 M10)
      else (
        jbV (f_X3_putAttempt l1 ((l1 + 16) + 1 + 6 * jw l2) l5_9 l3 M10) fun M16 =>
        jlet (l5_9 + 1) fun l5_17 =>
        self11 l5_17 M16))) jfuel 0 M8
def f_X4_advance (M : jM) : Option (jM) :=
  jlet (((M 109 4) + (M 109 5))) fun l1_1 =>
  jlp1 (fun (self3 : Int → Option (jM)) (l1_2 : Int) =>
    jk (
      jlet (jst M 109 4 l1_2) fun M5 =>
      jk (fun (s1_6 : Int) =>
        jlet (jst M5 109 3 s1_6) fun M8 =>
        jk (fun (l1_9 : Int) (M10 : jM) =>
          jlet (jst M10 109 5 (l1_9 - (M10 109 4))) fun M12 =>
          some M12) fun (k11 : Int → jM → Option (jM)) =>
        jk (
          jk (
            if jw (M8 109 3) = jw (-1) then (
              k11 l1_2 M8)
            else (
              jlet (l1_2 + 1) fun l1_15 =>
              k11 l1_15 M8)) fun (k14 : Option (jM)) =>
          if jw (M8 109 3) < jw 48 then (
            k14)
          else (
            if jw 57 < jw (M8 109 3) then (
              k14)
            else (
              jlet (jst M8 109 3 48) fun M16 =>
              jlp1 (fun (self18 : Int → Option (jM)) (l1_17 : Int) =>
                if jw (M16 109 2) ≤ jw l1_17 then (
                  k11 l1_17 M16)
                else (
                  jck (0 ≤ jw l1_17 ∧ jw l1_17 < 600) <|
                  if jw (M16 2 (jw l1_17)) < jw 48 then (
                    k11 l1_17 M16)
                  else (
                    jck (0 ≤ jw l1_17 ∧ jw l1_17 < 600) <|
                    if jw 57 < jw (M16 2 (jw l1_17)) then (
                      k11 l1_17 M16)
                    else (
                      jlet (l1_17 + 1) fun l1_21 =>
                      self18 l1_21)))) jfuel l1_2))) fun (k13 : Option (jM)) =>
        if jw (M8 109 3) < jw 97 then (
          k13)
        else (
          if jw 122 < jw (M8 109 3) then (
            k13)
          else (
            jlet (jst M8 109 3 97) fun M22 =>
            jlp1 (fun (self24 : Int → Option (jM)) (l1_23 : Int) =>
              if jw (M22 109 2) ≤ jw l1_23 then (
                k11 l1_23 M22)
              else (
                jck (0 ≤ jw l1_23 ∧ jw l1_23 < 600) <|
                if jw (M22 2 (jw l1_23)) < jw 97 then (
                  k11 l1_23 M22)
                else (
                  jck (0 ≤ jw l1_23 ∧ jw l1_23 < 600) <|
                  if jw 122 < jw (M22 2 (jw l1_23)) then (
                    k11 l1_23 M22)
                  else (
                    jlet (l1_23 + 1) fun l1_27 =>
                    self24 l1_27)))) jfuel l1_2))) fun (k7 : Int → Option (jM)) =>
      if jw (M5 109 2) ≤ jw l1_2 then (
        k7 (-1))
      else (
        jck (0 ≤ jw l1_2 ∧ jw l1_2 < 600) <|
        k7 (M5 2 (jw l1_2)))) fun (k4 : Option (jM)) =>
    if jw (M 109 2) ≤ jw l1_2 then (
      k4)
    else (
      jck (0 ≤ jw l1_2 ∧ jw l1_2 < 600) <|
      if jw (M 2 (jw l1_2)) = jw 9 then (
        jlet (l1_2 + 1) fun l1_30 =>
        self3 l1_30)
      else (
        jck (0 ≤ jw l1_2 ∧ jw l1_2 < 600) <|
        if jw (M 2 (jw l1_2)) = jw 10 then (
          jlet (l1_2 + 1) fun l1_32 =>
          self3 l1_32)
        else (
          jck (0 ≤ jw l1_2 ∧ jw l1_2 < 600) <|
          if jw (M 2 (jw l1_2)) = jw 32 then (
            jlet (l1_2 + 1) fun l1_34 =>
            self3 l1_34)
          else (
            k4))))) jfuel l1_1
def f_X4_start (l1 : Int) (l2 : Int) (M : jM) : Option (jM) :=
  jlet (jst M 109 1 l2) fun M1 =>
  jck (jkd (M1 109 1) = 1) <|
  jbV (f_X1_forget (M1 109 1) M1) fun M4 =>
  jbR (f_J9_min_7cf53 l1 600) fun v6 =>
  jlet (jst M4 109 2 v6) fun M7 =>
  jlet (jst M7 109 4 0) fun M8 =>
  jlet (jst M8 109 5 0) fun M9 =>
  jlet (jst M9 109 7 (-1)) fun M10 =>
  jlet (jst M10 109 8 0) fun M11 =>
  jbV (f_X4_advance M11) fun M13 =>
  some M13
def f_X4_among (l1 : Int) (M : jM) : Option (Int) :=
  jlp3 (fun (self4 : Int → Int → Int → Option (Int)) (l2_1 : Int) (l3_2 : Int) (l4_3 : Int) =>
    if jw (jsln l1) ≤ jw l4_3 then (
      some (-1))
    else (
      if jw (M 109 3) = jw 97 then (
        jck (0 ≤ jw l4_3 ∧ jw l4_3 < jsln l1) <|
        jlet ((jsch l1 (jw l4_3))) fun l5_6 =>
        if jw l5_6 = jw 32 then (
          if jw l3_2 = jw (M 109 5) then (
            some l2_1)
          else (
            jlet (l2_1 + 1) fun l2_12 =>
            jlet (l4_3 + 1) fun l4_13 =>
            self4 l2_12 0 l4_13))
        else (
          jk (
            jlet (l4_3 + 1) fun l4_8 =>
            self4 l2_1 (-1) l4_8) fun (k7 : Option (Int)) =>
          if jw l3_2 = jw (-1) then (
            k7)
          else (
            if jw (M 109 5) ≤ jw l3_2 then (
              k7)
            else (
              jck (0 ≤ jw ((M 109 4) + l3_2) ∧ jw ((M 109 4) + l3_2) < 600) <|
              if jw (M 2 (jw ((M 109 4) + l3_2))) = jw l5_6 then (
                jlet (l3_2 + 1) fun l3_10 =>
                jlet (l4_3 + 1) fun l4_11 =>
                self4 l2_1 l3_10 l4_11)
              else (
                k7)))))
      else (
        some (-1)))) jfuel 0 0 0
def f_X4_refuse (M : jM) : Option (Int × jM) :=
  jlet (jst M 109 7 (M 109 4)) fun M1 =>
  some (0, M1)
def f_X4_number (l1 : Int) (l2 : Int) (M : jM) : Option (Int × jM) :=
  jk (
    jbW (f_X4_refuse M) fun v4 M3 =>
    jck (jw v4 = 0 ∨ jw v4 = 1) <| some (v4, M3)) fun (k1 : Option (Int × jM)) =>
  if jw (M 109 3) = jw 48 then (
    if jw (M 109 5) ≤ jw 4 then (
      jlet (jst M 109 6 0) fun M6 =>
      jlp2 (fun (self9 : Int → jM → Option (Int × jM)) (l3_7 : Int) (M8 : jM) =>
        if jw (M8 109 5) ≤ jw l3_7 then (
          jk (
            jbW (f_X4_refuse M8) fun v13 M12 =>
            jck (jw v13 = 0 ∨ jw v13 = 1) <| some (v13, M12)) fun (k10 : Option (Int × jM)) =>
          if jw (M8 109 6) < jw l1 then (
            k10)
          else (
            if jw (M8 109 6) ≤ jw l2 then (
              jbV (f_X4_advance M8) fun M16 =>
              some (1, M16))
            else (
              k10)))
        else (
          jck (0 ≤ jw ((M8 109 4) + l3_7) ∧ jw ((M8 109 4) + l3_7) < 600) <|
          jlet (jst M8 109 6 (((10 * (M8 109 6)) + (M8 2 (jw ((M8 109 4) + l3_7)))) - 48)) fun M18 =>
          jlet (l3_7 + 1) fun l3_19 =>
          self9 l3_19 M18)) jfuel 0 M6)
    else (
      k1))
  else (
    k1)
def f_X4_lastsLine (M : jM) : Option (Int × jM) :=
  jck (jkd (M 109 1) = 1) <|
  jlet (((M ((M 109 1) + 13) 3) - 1)) fun l1_2 =>
  if 0 ≤ jw l1_2 then (
    jbV (f_X4_advance M) fun M4 =>
    jbW (f_X4_number 0 600 M4) fun v7 M6 =>
    if jw v7 = 0 then (
      some (0, M6))
    else (
      jck (jkd (M6 109 1) = 1) <|
      jck (0 ≤ jw l1_2 ∧ jw l1_2 < 6) <|
      jlet (jst M6 (((M6 109 1) + 16) + 1 + 6 * jw l1_2) 2 (M6 109 6)) fun M10 =>
      some (1, M10)))
  else (
    jbW (f_X4_refuse M) fun v13 M12 =>
    jck (jw v13 = 0 ∨ jw v13 = 1) <| some (v13, M12))
def f_X4_votes (l1 : Int) (l2 : Int) (l3 : Int) (M : jM) : Option (Int × jM) :=
  jk (
    jbW (f_X4_refuse M) fun v4 M3 =>
    jck (jw v4 = 0 ∨ jw v4 = 1) <| some (v4, M3)) fun (k1 : Option (Int × jM)) =>
  if jw (M 109 3) = jw 97 then (
    jck (jkd (M 109 1) = 1) <|
    if jw (M 109 5) = jw (M (M 109 1) 0) then (
      jlp2 (fun (self9 : Int → jM → Option (Int × jM)) (l4_7 : Int) (M8 : jM) =>
        jk (
          jbV (f_X4_advance M8) fun M12 =>
          some (1, M12)) fun (k10 : Option (Int × jM)) =>
        if jw (M8 109 5) ≤ jw l4_7 then (
          k10)
        else (
          if jw 9 ≤ jw l4_7 then (
            k10)
          else (
            jck (0 ≤ jw ((M8 109 4) + l4_7) ∧ jw ((M8 109 4) + l4_7) < 600) <|
            jlet (((M8 2 (jw ((M8 109 4) + l4_7))) - 97)) fun l5_14 =>
            if jw l5_14 ≤ jw 10 then (
              jck (0 ≤ jw ((l2 * 9) + l4_7) ∧ jw ((l2 * 9) + l4_7) < 135) <|
              jlet (jst M8 (l1 + 5) (jw ((l2 * 9) + l4_7)) (l3 + l5_14)) fun M16 =>
              jlet (l4_7 + 1) fun l4_17 =>
              self9 l4_17 M16)
            else (
              jbW (f_X4_refuse M8) fun v20 M19 =>
              jck (jw v20 = 0 ∨ jw v20 = 1) <| some (v20, M19))))) jfuel 0 M)
    else (
      k1))
  else (
    k1)
def f_X4_showLine (M : jM) : Option (Int × jM) :=
  jck (jkd (M 109 1) = 1) <|
  jlet (((M ((M 109 1) + 13) 3) - 1)) fun l1_2 =>
  if 0 ≤ jw l1_2 then (
    jlet (jst M 109 8 1) fun M3 =>
    jbV (f_X4_advance M3) fun M5 =>
    jlp2 (fun (self8 : Int → jM → Option (Int × jM)) (l2_6 : Int) (M7 : jM) =>
      if jw 3 ≤ jw l2_6 then (
        some (1, M7))
      else (
        jck (jkd (M7 109 1) = 1) <|
        jck (0 ≤ jw l1_2 ∧ jw l1_2 < 6) <|
        jbW (f_X4_votes (((M7 109 1) + 16) + 1 + 6 * jw l1_2) (12 + l2_6) 0 M7) fun v13 M12 =>
        if jw v13 = 0 then (
          some (0, M12))
        else (
          jlet (l2_6 + 1) fun l2_14 =>
          self8 l2_14 M12))) jfuel 0 M5)
  else (
    jbW (f_X4_refuse M) fun v17 M16 =>
    jck (jw v17 = 0 ∨ jw v17 = 1) <| some (v17, M16))
def f_X4_elements (l1 : Int) (l2 : Int) (M : jM) : Option (Int × jM) :=
  jlp2 (fun (self3 : Int → jM → Option (Int × jM)) (l3_1 : Int) (M2 : jM) =>
    if jw 3 ≤ jw l3_1 then (
      jbW (f_X4_refuse M2) fun v6 M5 =>
      jck (jw v6 = 0 ∨ jw v6 = 1) <| some (v6, M5))
    else (
      jk (fun (s0_8 : Int) =>
        jk (
          jbW (f_X4_refuse M2) fun v13 M12 =>
          jck (jw v13 = 0 ∨ jw v13 = 1) <| some (v13, M12)) fun (k10 : Option (Int × jM)) =>
        if jw s0_8 = jw (-1) then (
          k10)
        else (
          jk (
            jck (0 ≤ jw ((l2 * 3) + l3_1) ∧ jw ((l2 * 3) + l3_1) < 36) <|
            jlet (jst M2 (l1 + 3) (jw ((l2 * 3) + l3_1)) s0_8) fun M17 =>
            jck (0 ≤ jw l2 ∧ jw l2 < 12) <|
            jlet (jst M17 (l1 + 2) (jw l2) (l3_1 + 1)) fun M19 =>
            jbV (f_X4_advance M19) fun M21 =>
            if jw (M21 109 3) = jw 43 then (
              jck (jkd (M21 109 1) = 1) <|
              jck (0 ≤ jw s0_8 ∧ jw s0_8 < 10) <|
              jk (
                jbW (f_X4_refuse M21) fun v27 M26 =>
                jck (jw v27 = 0 ∨ jw v27 = 1) <| some (v27, M26)) fun (k24 : Option (Int × jM)) =>
              if jw (M21 ((M21 109 1) + 6) (jw s0_8)) = 0 then (
                if jw (l3_1 + 1) < jw 3 then (
                  jbV (f_X4_advance M21) fun M30 =>
                  jlet (l3_1 + 1) fun l3_31 =>
                  self3 l3_31 M30)
                else (
                  k24))
              else (
                k24))
            else (
              some (1, M21))) fun (k15 : Option (Int × jM)) =>
          if jw l3_1 ≤ 0 then (
            k15)
          else (
            jck (jkd (M2 109 1) = 1) <|
            jck (0 ≤ jw s0_8 ∧ jw s0_8 < 10) <|
            if jw (M2 ((M2 109 1) + 6) (jw s0_8)) = 0 then (
              k15)
            else (
              k10)))) fun (k9 : Int → Option (Int × jM)) =>
      if jw (M2 109 3) = jw 97 then (
        jck (jkd (M2 109 1) = 1) <|
        jbR (f_X2_find ((M2 109 1) + 2) 2 (M2 109 4) (M2 109 5) M2) fun v36 =>
        k9 v36)
      else (
        k9 (-1)))) jfuel 0 M
def f_X4_calls (l1 : Int) (l2 : Int) (M : jM) : Option (Int × jM) :=
  jlp3 (fun (self4 : Int → Int → jM → Option (Int × jM)) (l3_1 : Int) (l4_2 : Int) (M3 : jM) =>
    jk (
      jck (0 ≤ jw l2 ∧ jw l2 < 12) <|
      jlet (jst M3 (l1 + 4) (jw l2) l3_1) fun M7 =>
      some (1, M7)) fun (k5 : Option (Int × jM)) =>
    if jw 3 < jw l4_2 then (
      k5)
    else (
      if jw (M3 109 3) = jw 97 then (
        jbR (f_X4_among 5 M3) fun v9 =>
        jk (
          jbW (f_X4_refuse M3) fun v13 M12 =>
          jck (jw v13 = 0 ∨ jw v13 = 1) <| some (v13, M12)) fun (k10 : Option (Int × jM)) =>
        if jw v9 = jw (-1) then (
          k10)
        else (
          if jw (jnd (jsr l3_1 v9) 1) = 0 then (
            jlet ((jor l3_1 (jsl 1 v9))) fun l3_15 =>
            jbV (f_X4_advance M3) fun M17 =>
            jlet (l4_2 + 1) fun l4_18 =>
            self4 l3_15 l4_18 M17)
          else (
            k10)))
      else (
        k5))) jfuel 0 0 M
def f_X4_doLine (M : jM) : Option (Int × jM) :=
  jck (jkd (M 109 1) = 1) <|
  jlet (((M ((M 109 1) + 13) 3) - 1)) fun l1_2 =>
  jk (
    jbW (f_X4_refuse M) fun v6 M5 =>
    jck (jw v6 = 0 ∨ jw v6 = 1) <| some (v6, M5)) fun (k3 : Option (Int × jM)) =>
  if jw l1_2 < 0 then (
    k3)
  else (
    jck (0 ≤ jw l1_2 ∧ jw l1_2 < 6) <|
    if jw (M (((M 109 1) + 16) + 1 + 6 * jw l1_2) 0) < jw 12 then (
      jlet (jst M 109 8 1) fun M9 =>
      jck (jkd (M9 109 1) = 1) <|
      jck (0 ≤ jw l1_2 ∧ jw l1_2 < 6) <|
      jlet ((M9 (((M9 109 1) + 16) + 1 + 6 * jw l1_2) 0)) fun l3_12 =>
      jbV (f_X4_advance M9) fun M14 =>
      jbW (f_X4_elements (((M9 109 1) + 16) + 1 + 6 * jw l1_2) l3_12 M14) fun v17 M16 =>
      if jw v17 = 0 then (
        some (0, M16))
      else (
        jk (fun (s1_18 : Int) =>
          jbW (f_X4_number s1_18 600 M16) fun v22 M21 =>
          if jw v22 = 0 then (
            some (0, M21))
          else (
            jck (0 ≤ jw l3_12 ∧ jw l3_12 < 12) <|
            jlet (jst M21 ((((M9 109 1) + 16) + 1 + 6 * jw l1_2) + 1) (jw l3_12) (M21 109 6)) fun M24 =>
            jbW (f_X4_votes (((M9 109 1) + 16) + 1 + 6 * jw l1_2) l3_12 (-5) M24) fun v27 M26 =>
            if jw v27 = 0 then (
              some (0, M26))
            else (
              jbW (f_X4_calls (((M9 109 1) + 16) + 1 + 6 * jw l1_2) l3_12 M26) fun v30 M29 =>
              if jw v30 = 0 then (
                some (0, M29))
              else (
                jlet (jst M29 (((M9 109 1) + 16) + 1 + 6 * jw l1_2) 0 ((M29 (((M9 109 1) + 16) + 1 + 6 * jw l1_2) 0) + 1)) fun M31 =>
                some (1, M31))))) fun (k19 : Int → Option (Int × jM)) =>
        if jw l3_12 ≤ 0 then (
          k19 0)
        else (
          jck (0 ≤ jw (l3_12 - 1) ∧ jw (l3_12 - 1) < 12) <|
          k19 (M16 ((((M9 109 1) + 16) + 1 + 6 * jw l1_2) + 1) (jw (l3_12 - 1))))))
    else (
      k3))
def f_X4_newName (l1 : Int) (M : jM) : Option (Int × jM) :=
  jk (
    jbW (f_X4_refuse M) fun v4 M3 =>
    jck (jw v4 = 0 ∨ jw v4 = 1) <| some (v4, M3)) fun (k1 : Option (Int × jM)) =>
  if jw (M 109 3) = jw 97 then (
    if jw 6 < jw (M 109 5) then (
      k1)
    else (
      jbR (f_X2_find l1 2 (M 109 4) (M 109 5) M) fun v7 =>
      if jw v7 = jw (-1) then (
        jbV (f_X2_add l1 2 (M 109 4) (M 109 5) M) fun M9 =>
        jbV (f_X4_advance M9) fun M11 =>
        some (1, M11))
      else (
        k1)))
  else (
    k1)
def f_X4_skaterLine (M : jM) : Option (Int × jM) :=
  jck (jkd (M 109 1) = 1) <|
  jbR (f_X2_isFull ((M 109 1) + 13) M) fun v3 =>
  if jw v3 = 0 then (
    jbV (f_X4_advance M) fun M5 =>
    jck (jkd (M5 109 1) = 1) <|
    jbW (f_X4_newName ((M5 109 1) + 13) M5) fun v9 M8 =>
    jck (jw v9 = 0 ∨ jw v9 = 1) <| some (v9, M8))
  else (
    jbW (f_X4_refuse M) fun v13 M12 =>
    jck (jw v13 = 0 ∨ jw v13 = 1) <| some (v13, M12))
def f_X5_isFull (t : Int) (M : jM) : Option (Int) :=
  if jw (M t 0) < jw 6 then (
    some 0)
  else (
    some 1)
def f_X4_sign (l1 : Int) (M : jM) : Option (Int × jM) :=
  if jw (M 109 3) = jw l1 then (
    jbV (f_X4_advance M) fun M2 =>
    some (1, M2))
  else (
    jbW (f_X4_refuse M) fun v5 M4 =>
    jck (jw v5 = 0 ∨ jw v5 = 1) <| some (v5, M4))
def f_X5_add (t : Int) (l1 : Int) (M : jM) : Option (jM) :=
  if jw (jln (t + 1)) ≤ jw (M t 1) then (
    some M)
  else (
    jck (0 ≤ jw (M t 1) ∧ jw (M t 1) < 600) <|
    jlet (jst M (t + 1) (jw (M t 1)) l1) fun M2 =>
    jlet (jst M2 t 1 ((M2 t 1) + 1)) fun M3 =>
    some M3)
def f_X4_relation (M : jM) : Option (Int) :=
  if jw (M 109 3) < 60 ∨ 62 < jw (M 109 3) then (
    some (-1))
  else if jw (M 109 3) = 60 then (
    some (-4))
  else if jw (M 109 3) = 61 then (
    some (-5))
  else (
    some (-6))
def f_X5_close (t : Int) (l1 : Int) (l2 : Int) (M : jM) : Option (jM) :=
  jbR (f_X5_isFull t M) fun v2 =>
  if jw v2 = 0 then (
    jck (0 ≤ jw (M t 0) ∧ jw (M t 0) < 6) <|
    jlet (jst M (t + 2) (jw (M t 0)) l1) fun M4 =>
    jck (0 ≤ jw (M4 t 0) ∧ jw (M4 t 0) < 6) <|
    jlet (jst M4 (t + 3) (jw (M4 t 0)) l2) fun M6 =>
    jck (0 ≤ jw (M6 t 0) ∧ jw (M6 t 0) < 6) <|
    jlet (jst M6 (t + 4) (jw (M6 t 0)) (M6 t 1)) fun M8 =>
    jlet (jst M8 t 0 ((M8 t 0) + 1)) fun M9 =>
    some M9)
  else (
    some M)
def f_X4_judgesLine (M : jM) : Option (Int × jM) :=
  if jw (M 109 8) = 0 then (
    jbV (f_X4_advance M) fun M2 =>
    jbW (f_X4_number 1 9 M2) fun v5 M4 =>
    if jw v5 = 0 then (
      some (0, M4))
    else (
      jck (jkd (M4 109 1) = 1) <|
      jlet (jst M4 (M4 109 1) 0 (M4 109 6)) fun M7 =>
      some (1, M7)))
  else (
    jbW (f_X4_refuse M) fun v10 M9 =>
    jck (jw v10 = 0 ∨ jw v10 = 1) <| some (v10, M9))
def f_X4_elementLine (M : jM) : Option (Int × jM) :=
  jck (jkd (M 109 1) = 1) <|
  jlet ((M ((M 109 1) + 2) 3)) fun l1_2 =>
  jbR (f_X2_isFull ((M 109 1) + 2) M) fun v4 =>
  if jw v4 = 0 then (
    jbV (f_X4_advance M) fun M6 =>
    jck (jkd (M6 109 1) = 1) <|
    jbW (f_X4_newName ((M6 109 1) + 2) M6) fun v10 M9 =>
    if jw v10 = 0 then (
      some (0, M9))
    else (
      jbR (f_X4_among 1 M9) fun v12 =>
      if jw v12 = jw (-1) then (
        jbW (f_X4_refuse M9) fun v26 M25 =>
        jck (jw v26 = 0 ∨ jw v26 = 1) <| some (v26, M25))
      else (
        jbV (f_X4_advance M9) fun M14 =>
        jbW (f_X4_number 0 2000 M14) fun v17 M16 =>
        if jw v17 = 0 then (
          some (0, M16))
        else (
          jck (jkd (M16 109 1) = 1) <|
          jck (0 ≤ jw l1_2 ∧ jw l1_2 < 10) <|
          jlet (jst M16 ((M16 109 1) + 6) (jw l1_2) v12) fun M20 =>
          jck (jkd (M20 109 1) = 1) <|
          jck (0 ≤ jw l1_2 ∧ jw l1_2 < 10) <|
          jlet (jst M20 ((M20 109 1) + 5) (jw l1_2) (M20 109 6)) fun M23 =>
          some (1, M23)))))
  else (
    jbW (f_X4_refuse M) fun v30 M29 =>
    jck (jw v30 = 0 ∨ jw v30 = 1) <| some (v30, M29))
def f_X4_settingLine (l1 : Int) (M : jM) : Option (Int × jM) :=
  jk (fun (s0_1 : Int) =>
    jbV (f_X4_advance M) fun M4 =>
    jlp2 (fun (self7 : Int → jM → Option (Int × jM)) (l3_5 : Int) (M6 : jM) =>
      if jw (l1 + s0_1) ≤ jw l3_5 then (
        some (1, M6))
      else (
        if jw 7 ≤ jw l3_5 then (
          some (1, M6))
        else (
          jck (0 ≤ jw l3_5 ∧ jw l3_5 < 7) <|
          jck (0 ≤ jw l3_5 ∧ jw l3_5 < 7) <|
          jbW (f_X4_number (jstt 0 (jw l3_5)) (jstt 1 (jw l3_5)) M6) fun v12 M11 =>
          if jw v12 = 0 then (
            some (0, M11))
          else (
            jck (jkd (M11 109 1) = 1) <|
            jck (0 ≤ jw l3_5 ∧ jw l3_5 < 7) <|
            jlet (jst M11 ((M11 109 1) + 1) (jw l3_5) (M11 109 6)) fun M15 =>
            jlet (l3_5 + 1) fun l3_16 =>
            self7 l3_16 M15)))) jfuel l1 M4) fun (k2 : Int → Option (Int × jM)) =>
  if jw l1 = jw 4 then (
    k2 3)
  else (
    k2 1)
def f_X5_valueOf (l0 : Int) (l1 : Int) (M : jM) : Option (Int) :=
  jlet ((l0 - 10000)) fun l2_1 =>
  if jw l2_1 < 0 then (
    some l0)
  else (
    if jw (jln l1) ≤ jw l2_1 then (
      some l0)
    else (
      jck (0 ≤ jw l2_1 ∧ jw l2_1 < jln l1) <|
      some (M l1 (jw l2_1))))
def f_J9_min_f86c9 (l0 : Int) (l2 : Int) : Option (Int) :=
  if 0 < jw (jcmp l0 l2) then (
    some l2)
  else (
    some l0)
def f_J9_max_f86c9 (l0 : Int) (l2 : Int) : Option (Int) :=
  if jw (jcmp l0 l2) < 0 then (
    some l2)
  else (
    some l0)
def f_X5_joined (l0 : Int) (l1 : Int) (l3 : Int) : Option (Int) :=
  if jw l0 < (-8) ∨ (-4) < jw l0 then (
    jk (fun (s0_1 : Int) =>
      jbR (f_J9_min_f86c9 1000000 s0_1) fun v4 =>
      jbR (f_J9_max_f86c9 (-1000000) v4) fun v6 =>
      some v6) fun (k2 : Int → Option (Int)) =>
    if jw l0 = jw (-1) then (
      k2 (l1 + l3))
    else (
      if jw l0 = jw (-2) then (
        k2 (l1 - l3))
      else (
        k2 (l1 * l3))))
  else if jw l0 = (-8) then (
    if jw (jcmp l1 0) = 0 then (
      if jw (jcmp l3 0) = 0 then (
        some 0)
      else (
        some 1))
    else (
      some 1))
  else if jw l0 = (-7) then (
    if jw (jcmp l1 0) = 0 then (
      some 0)
    else (
      if jw (jcmp l3 0) = 0 then (
        some 0)
      else (
        some 1)))
  else if jw l0 = (-6) then (
    if jw (jcmp l1 l3) ≤ 0 then (
      some 0)
    else (
      some 1))
  else if jw l0 = (-5) then (
    if jw (jcmp l1 l3) = 0 then (
      some 1)
    else (
      some 0))
  else (
    if 0 ≤ jw (jcmp l1 l3) then (
      some 0)
    else (
      some 1))
def f_X5_workOut (t : Int) (l1 : Int) (l2 : Int) (l3 : Int) (M : jM) : Option (Int × jM) :=
  jlp3 (fun (self4 : Int → Int → jM → Option (Int × jM)) (l4_1 : Int) (l5_2 : Int) (M3 : jM) =>
    if jw l2 ≤ jw l5_2 then (
      jck (0 ≤ jw 0 ∧ jw 0 < 16) <|
      some ((M3 (t + 5) (jw 0)), M3))
    else (
      jck (0 ≤ jw l5_2 ∧ jw l5_2 < 600) <|
      jlet ((M3 (t + 1) (jw l5_2))) fun l6_7 =>
      if jw l6_7 < 0 then (
        if jw 2 ≤ jw l4_1 then (
          jlet (l4_1 + (-1)) fun l4_8 =>
          jck (0 ≤ jw (l4_8 - 1) ∧ jw (l4_8 - 1) < 16) <|
          jck (0 ≤ jw l4_8 ∧ jw l4_8 < 16) <|
          jbR (f_X5_joined l6_7 (jw (M3 (t + 5) (jw (l4_8 - 1)))) (jw (M3 (t + 5) (jw l4_8)))) fun v12 =>
          jck (0 ≤ jw (l4_8 - 1) ∧ jw (l4_8 - 1) < 16) <|
          jlet (jst M3 (t + 5) (jw (l4_8 - 1)) v12) fun M14 =>
          jlet (l5_2 + 1) fun l5_15 =>
          self4 l4_8 l5_15 M14)
        else (
          some (0, M3)))
      else (
        if jw l4_1 < jw 16 then (
          jbR (f_X5_valueOf l6_7 l3 M3) fun v17 =>
          jck (0 ≤ jw l4_1 ∧ jw l4_1 < 16) <|
          jlet (jst M3 (t + 5) (jw l4_1) v17) fun M19 =>
          jlet (l4_1 + 1) fun l4_20 =>
          jlet (l5_2 + 1) fun l5_21 =>
          self4 l4_20 l5_21 M19)
        else (
          some (0, M3))))) jfuel 0 l1 M
def f_J9_max_7cf53 (l0 : Int) (l1 : Int) : Option (Int) :=
  if jw l0 < jw l1 then (
    some l1)
  else (
    some l0)
def f_X5_amount (t : Int) (l1 : Int) (l2 : Int) (M : jM) : Option (Int × jM) :=
  jck (0 ≤ jw l1 ∧ jw l1 < 6) <|
  jck (0 ≤ jw l1 ∧ jw l1 < 6) <|
  jk (fun (s0_3 : Int) =>
    jk (fun (M5 : jM) =>
      jck (0 ≤ jw l1 ∧ jw l1 < 6) <|
      jck (0 ≤ jw l1 ∧ jw l1 < 6) <|
      jbW (f_X5_workOut t (M5 (t + 2) (jw l1)) (M5 (t + 3) (jw l1)) l2 M5) fun v11 M10 =>
      jbR (f_J9_min_7cf53 9999 v11) fun v13 =>
      jbR (f_J9_max_7cf53 0 v13) fun v15 =>
      some (v15, M10)) fun (k6 : jM → Option (Int × jM)) =>
    if jw s0_3 = 0 then (
      k6 M)
    else (
      jck (0 ≤ jw l1 ∧ jw l1 < 6) <|
      jck (0 ≤ jw l1 ∧ jw l1 < 6) <|
      jbW (f_X5_workOut t (M (t + 3) (jw l1)) (M (t + 4) (jw l1)) l2 M) fun v20 M19 =>
      if jw v20 = 0 then (
        some (0, M19))
      else (
        k6 M19))) fun (k4 : Int → Option (Int × jM)) =>
  if jw (M (t + 4) (jw l1)) ≤ jw (M (t + 3) (jw l1)) then (
    k4 0)
  else (
    k4 1)
def f_X6_left (t : Int) (M : jM) : Option (Int) :=
  jbR (f_J6_bitCount_0f7a4 (M t 1)) fun v2 =>
  some ((M t 0) - v2)
def f_X6_last (t : Int) (M : jM) : Option (Int) :=
  jlet (((M t 0) - 1)) fun l1_1 =>
  jlp1 (fun (self3 : Int → Option (Int)) (l1_2 : Int) =>
    if jw l1_2 < 0 then (
      some (-1))
    else (
      jbR (f_X6_has t l1_2 M) fun v5 =>
      if jw v5 = 0 then (
        jlet (l1_2 + (-1)) fun l1_6 =>
        self3 l1_6)
      else (
        some l1_2))) jfuel l1_1
def f_X6_elementAt (t : Int) (l1 : Int) (l2 : Int) (M : jM) : Option (Int) :=
  jck (0 ≤ jw l1 ∧ jw l1 < 12) <|
  if jw (M (t + 2) (jw l1)) ≤ jw l2 then (
    some (-1))
  else (
    jck (0 ≤ jw ((l1 * 3) + l2) ∧ jw ((l1 * 3) + l2) < 36) <|
    some (M (t + 3) (jw ((l1 * 3) + l2))))
def f_X9_voteOfGrade (l0 : Int) (l1 : Int) : Option (Int) :=
  some ((l0 * 9) + l1)
def f_X6_spanOf (t : Int) (l1 : Int) (l2 : Int) (M : jM) : Option (Int) :=
  jlp3 (fun (self4 : Int → Int → Int → Option (Int)) (l3_1 : Int) (l4_2 : Int) (l5_3 : Int) =>
    if jw l2 ≤ jw l5_3 then (
      some (l4_2 - l3_1))
    else (
      jbR (f_X9_voteOfGrade l1 l5_3) fun v6 =>
      jck (0 ≤ jw v6 ∧ jw v6 < 135) <|
      jlet ((M (t + 5) (jw v6))) fun l6_8 =>
      jbR (f_J9_min_7cf53 l3_1 l6_8) fun v10 =>
      jbR (f_J9_max_7cf53 l4_2 l6_8) fun v12 =>
      jlet (l5_3 + 1) fun l5_13 =>
      self4 v10 v12 l5_13)) jfuel 5 (-5) 0
def f_X6_widest (t : Int) (l1 : Int) (M : jM) : Option (Int) :=
  jlp3 (fun (self4 : Int → Int → Int → Option (Int)) (l2_1 : Int) (l3_2 : Int) (l4_3 : Int) =>
    if jw (M t 0) ≤ jw l4_3 then (
      some l2_1)
    else (
      jbR (f_X6_has t l4_3 M) fun v6 =>
      jk (fun (s0_7 : Int) =>
        if jw s0_7 ≤ jw l3_2 then (
          jlet (l4_3 + 1) fun l4_9 =>
          self4 l2_1 l3_2 l4_9)
        else (
          jlet (l4_3 + 1) fun l4_10 =>
          self4 l4_3 s0_7 l4_10)) fun (k8 : Int → Option (Int)) =>
      if jw v6 = 0 then (
        k8 (-1))
      else (
        jbR (f_X6_spanOf t l4_3 l1 M) fun v12 =>
        k8 v12))) jfuel (-1) (-1) 0
def f_X7_skaters (M : jM) : Option (Int) :=
  jck (jkd (M 110 0) = 1) <|
  some (M ((M 110 0) + 13) 3)
def f_X8_unstruckBases (t : Int) (l1 : Int) (M : jM) : Option (Int × jM) :=
  jck (0 ≤ jw l1 ∧ jw l1 < 12) <|
  jlet (jst M (t + 3) (jw l1) 0) fun M2 =>
  jck (0 ≤ jw l1 ∧ jw l1 < 12) <|
  jlet (jst M2 (t + 1) (jw l1) 0) fun M4 =>
  jlp3 (fun (self8 : Int → Int → jM → Option (Int × jM)) (l2_5 : Int) (l3_6 : Int) (M7 : jM) =>
    jck (jkd (M7 t 1) = 6) <|
    jck (0 ≤ jw l1 ∧ jw l1 < 12) <|
    if jw (M7 ((M7 t 1) + 2) (jw l1)) ≤ jw l3_6 then (
      some (l2_5, M7))
    else (
      jck (0 ≤ jw ((l1 * 3) + l3_6) ∧ jw ((l1 * 3) + l3_6) < 36) <|
      jlet ((M7 ((M7 t 1) + 3) (jw ((l1 * 3) + l3_6)))) fun l4_12 =>
      jck (jkd (M7 t 0) = 1) <|
      jck (0 ≤ jw l4_12 ∧ jw l4_12 < 10) <|
      jlet ((M7 ((M7 t 0) + 6) (jw l4_12))) fun l5_15 =>
      jk (fun (s0_16 : Int) =>
        jck (0 ≤ jw (3 + l5_15) ∧ jw (3 + l5_15) < 10) <|
        jck (0 ≤ jw (3 + l5_15) ∧ jw (3 + l5_15) < 10) <|
        jlet (jst M7 (t + 4) (jw (3 + l5_15)) ((M7 (t + 4) (jw (3 + l5_15))) + 1)) fun M20 =>
        jck (0 ≤ jw l4_12 ∧ jw l4_12 < 10) <|
        jk (fun (l2_22 : Int) (M23 : jM) =>
          jck (0 ≤ jw l4_12 ∧ jw l4_12 < 10) <|
          jck (0 ≤ jw l4_12 ∧ jw l4_12 < 10) <|
          jlet (jst M23 (t + 5) (jw l4_12) ((M23 (t + 5) (jw l4_12)) + 1)) fun M27 =>
          jlet (l3_6 + 1) fun l3_28 =>
          self8 l2_22 l3_28 M27) fun (k24 : Int → jM → Option (Int × jM)) =>
        if jw (M20 (t + 5) (jw l4_12)) < jw s0_16 then (
          jck (jkd (M20 t 0) = 1) <|
          jck (0 ≤ jw l4_12 ∧ jw l4_12 < 10) <|
          jlet ((l2_5 + (M20 ((M20 t 0) + 5) (jw l4_12)))) fun l2_31 =>
          jck (0 ≤ jw l1 ∧ jw l1 < 12) <|
          jck (0 ≤ jw l4_12 ∧ jw l4_12 < 10) <|
          jbR (f_J9_max_7cf53 (M20 (t + 3) (jw l1)) (M20 ((M20 t 0) + 5) (jw l4_12))) fun v35 =>
          jck (0 ≤ jw l1 ∧ jw l1 < 12) <|
          jlet (jst M20 (t + 3) (jw l1) v35) fun M37 =>
          k24 l2_31 M37)
        else (
          jck (0 ≤ jw l1 ∧ jw l1 < 12) <|
          jck (0 ≤ jw l1 ∧ jw l1 < 12) <|
          jlet (jst M20 (t + 1) (jw l1) (jor (M20 (t + 1) (jw l1)) (jsl 1 l3_6))) fun M40 =>
          jck (0 ≤ jw 7 ∧ jw 7 < 10) <|
          jck (0 ≤ jw 7 ∧ jw 7 < 10) <|
          jlet (jst M40 (t + 4) (jw 7) ((M40 (t + 4) (jw 7)) + 1)) fun M43 =>
          k24 l2_5 M43)) fun (k17 : Int → Option (Int × jM)) =>
      if jw l5_15 = 0 then (
        jck (0 ≤ jw 3 ∧ jw 3 < 7) <|
        k17 (M7 ((M7 t 0) + 1) (jw 3)))
      else (
        k17 1))) jfuel 0 0 M4
def f_X8_beginsWithJump (t : Int) (l1 : Int) (M : jM) : Option (Int) :=
  jck (jkd (M t 0) = 1) <|
  jck (jkd (M t 1) = 6) <|
  jck (0 ≤ jw (l1 * 3) ∧ jw (l1 * 3) < 36) <|
  jck (0 ≤ jw (M ((M t 1) + 3) (jw (l1 * 3))) ∧ jw (M ((M t 1) + 3) (jw (l1 * 3))) < 10) <|
  if jw (M ((M t 0) + 6) (jw (M ((M t 1) + 3) (jw (l1 * 3))))) = 0 then (
    some 1)
  else (
    some 0)
def f_X8_weighAttempt (t : Int) (l1 : Int) (l2 : Int) (M : jM) : Option (jM) :=
  jbW (f_X8_unstruckBases t l1 M) fun v3 M2 =>
  jk (fun (l3_4 : Int) (M5 : jM) =>
    jk (fun (l3_7 : Int) (M8 : jM) =>
      jk (fun (M10 : jM) =>
        jck (0 ≤ jw l1 ∧ jw l1 < 12) <|
        jlet (jst M10 (t + 2) (jw l1) l3_7) fun M13 =>
        jbR (f_X8_beginsWithJump t l1 M13) fun v15 =>
        jk (fun (M16 : jM) =>
          jck (0 ≤ jw 2 ∧ jw 2 < 10) <|
          jck (0 ≤ jw 2 ∧ jw 2 < 10) <|
          jlet (jst M16 (t + 4) (jw 2) ((M16 (t + 4) (jw 2)) + 1)) fun M20 =>
          jbR (f_X8_worthOf t l1 M20) fun v22 =>
          jlet (jst M20 t 4 ((M20 t 4) + v22)) fun M23 =>
          some M23) fun (k17 : jM → Option (jM)) =>
        if jw v15 = 0 then (
          k17 M13)
        else (
          jck (jkd (M13 t 1) = 6) <|
          jck (0 ≤ jw l1 ∧ jw l1 < 12) <|
          jck (jkd (M13 t 0) = 1) <|
          jck (0 ≤ jw 1 ∧ jw 1 < 7) <|
          if jw (M13 ((M13 t 1) + 1) (jw l1)) < jw (M13 ((M13 t 0) + 1) (jw 1)) then (
            k17 M13)
          else (
            jlet (jst M13 t 3 (jor (M13 t 3) (jsl 1 l1))) fun M28 =>
            jck (0 ≤ jw 6 ∧ jw 6 < 10) <|
            jck (0 ≤ jw 6 ∧ jw 6 < 10) <|
            jlet (jst M28 (t + 4) (jw 6) ((M28 (t + 4) (jw 6)) + 1)) fun M31 =>
            k17 M31))) fun (k11 : jM → Option (jM)) =>
      if jw (jnd l2 4) = 0 then (
        k11 M8)
      else (
        jck (0 ≤ jw 0 ∧ jw 0 < 10) <|
        jck (0 ≤ jw 0 ∧ jw 0 < 10) <|
        jlet (jst M8 (t + 4) (jw 0) ((M8 (t + 4) (jw 0)) + 1)) fun M34 =>
        k11 M34)) fun (k9 : Int → jM → Option (jM)) =>
    if jw (jnd l2 2) = 0 then (
      k9 l3_4 M5)
    else (
      jlet (((jw (l3_4 * 7)).tdiv (jw 10))) fun l3_35 =>
      jck (0 ≤ jw 9 ∧ jw 9 < 10) <|
      jck (0 ≤ jw 9 ∧ jw 9 < 10) <|
      jlet (jst M5 (t + 4) (jw 9) ((M5 (t + 4) (jw 9)) + 1)) fun M38 =>
      k9 l3_35 M38)) fun (k6 : Int → jM → Option (jM)) =>
  if jw (jnd l2 1) = 0 then (
    k6 v3 M2)
  else (
    jlet (((jw (v3 * 8)).tdiv (jw 10))) fun l3_39 =>
    jck (0 ≤ jw 8 ∧ jw 8 < 10) <|
    jck (0 ≤ jw 8 ∧ jw 8 < 10) <|
    jlet (jst M2 (t + 4) (jw 8) ((M2 (t + 4) (jw 8)) + 1)) fun M42 =>
    k6 l3_39 M42)
def f_X8_sortJudges (t : Int) (l1 : Int) (M : jM) : Option (jM) :=
  jlet ((l1 * 9)) fun l2_1 =>
  jlp2 (fun (self4 : Int → jM → Option (jM)) (l3_2 : Int) (M3 : jM) =>
    jck (jkd (M3 t 0) = 1) <|
    if jw (M3 (M3 t 0) 0) ≤ jw l3_2 then (
      some M3)
    else (
      jlet ((l2_1 + l3_2)) fun l4_6 =>
      jck (jkd (M3 t 1) = 6) <|
      jck (0 ≤ jw l4_6 ∧ jw l4_6 < 135) <|
      jlet ((M3 ((M3 t 1) + 5) (jw l4_6))) fun l5_9 =>
      jlp2 (fun (self12 : Int → jM → Option (jM)) (l4_10 : Int) (M11 : jM) =>
        jk (
          jck (0 ≤ jw l4_10 ∧ jw l4_10 < 135) <|
          jlet (jst M11 (t + 6) (jw l4_10) l3_2) fun M15 =>
          jlet (l3_2 + 1) fun l3_16 =>
          self4 l3_16 M15) fun (k13 : Option (jM)) =>
        if jw l4_10 ≤ jw l2_1 then (
          k13)
        else (
          jck (jkd (M11 t 1) = 6) <|
          jck (0 ≤ jw (l4_10 - 1) ∧ jw (l4_10 - 1) < 135) <|
          jck (0 ≤ jw (l2_1 + (M11 (t + 6) (jw (l4_10 - 1)))) ∧ jw (l2_1 + (M11 (t + 6) (jw (l4_10 - 1)))) < 135) <|
          if jw (M11 ((M11 t 1) + 5) (jw (l2_1 + (M11 (t + 6) (jw (l4_10 - 1)))))) ≤ jw l5_9 then (
            k13)
          else (
            jck (0 ≤ jw (l4_10 - 1) ∧ jw (l4_10 - 1) < 135) <|
            jck (0 ≤ jw l4_10 ∧ jw l4_10 < 135) <|
            jlet (jst M11 (t + 6) (jw l4_10) (M11 (t + 6) (jw (l4_10 - 1)))) fun M22 =>
            jlet (l4_10 + (-1)) fun l4_23 =>
            self12 l4_23 M22))) jfuel l4_6 M3)) jfuel 0 M
def f_X8_shownOf (t : Int) (l1 : Int) (l2 : Int) (M : jM) : Option (Int) :=
  jbR (f_X8_trimmed t (12 + l1) l2 M) fun v2 =>
  jck (jkd (M t 0) = 1) <|
  jck (0 ≤ jw (4 + l1) ∧ jw (4 + l1) < 7) <|
  some ((jw (v2 * (M ((M t 0) + 1) (jw (4 + l1))))).tdiv (jw 100))
def f_X8_sumUp (t : Int) (M : jM) : Option (jM) :=
  jck (0 ≤ jw 0 ∧ jw 0 < 10) <|
  jbR (f_J9_max_7cf53 0 ((((M t 6) + (M t 7)) - (100 * (M (t + 4) (jw 0)))) - (M t 5))) fun v3 =>
  jlet (jst M t 8 v3) fun M4 =>
  some M4
def f_X8_judgeBy (t : Int) (l1 : Int) (M : jM) : Option (jM) :=
  jlet (jst M t 6 (M t 4)) fun M1 =>
  jlp2 (fun (self4 : Int → jM → Option (jM)) (l2_2 : Int) (M3 : jM) =>
    jck (jkd (M3 t 1) = 6) <|
    if jw (M3 (M3 t 1) 0) ≤ jw l2_2 then (
      jlet (jst M3 t 7 0) fun M6 =>
      jlp2 (fun (self9 : Int → jM → Option (jM)) (l2_7 : Int) (M8 : jM) =>
        if jw 3 ≤ jw l2_7 then (
          jbV (f_X8_sumUp t M8) fun M11 =>
          some M11)
        else (
          jbR (f_X8_shownOf t l2_7 l1 M8) fun v13 =>
          jlet (jst M8 t 7 ((M8 t 7) + v13)) fun M14 =>
          jlet (l2_7 + 1) fun l2_15 =>
          self9 l2_15 M14)) jfuel 0 M6)
    else (
      if jw (jnd (jsr (M3 t 2) l2_2) 1) = 0 then (
        jlet (l2_2 + 1) fun l2_16 =>
        self4 l2_16 M3)
      else (
        jbR (f_X8_gainOf t l2_2 l1 M3) fun v18 =>
        jlet (jst M3 t 6 ((M3 t 6) + v18)) fun M19 =>
        jlet (l2_2 + 1) fun l2_20 =>
        self4 l2_20 M19))) jfuel 0 M1
def f_X8_weigh (t : Int) (l1 : Int) (l2 : Int) (l3 : Int) (l4 : Int) (M : jM) : Option (jM) :=
  jlet (jst M t 0 l1) fun M1 =>
  jck (0 ≤ jw l2 ∧ jw l2 < 6) <|
  jlet (jst M1 t 1 ((l1 + 16) + 1 + 6 * jw l2)) fun M3 =>
  jlet (jst M3 t 2 0) fun M4 =>
  jlet (jst M4 t 3 0) fun M5 =>
  jlet (jst M5 t 4 0) fun M6 =>
  jbV (f_J7_fill_53178 (t + 5) 0 M6) fun M8 =>
  jbV (f_J7_fill_53178 (t + 4) 0 M8) fun M10 =>
  jck (jkd (M10 t 1) = 6) <|
  jck (0 ≤ jw 1 ∧ jw 1 < 10) <|
  jlet (jst M10 (t + 4) (jw 1) (M10 (M10 t 1) 2)) fun M13 =>
  jlp2 (fun (self16 : Int → jM → Option (jM)) (l5_14 : Int) (M15 : jM) =>
    jck (jkd (M15 t 1) = 6) <|
    if jw (M15 (M15 t 1) 0) ≤ jw l5_14 then (
      jlp2 (fun (self20 : Int → jM → Option (jM)) (l5_18 : Int) (M19 : jM) =>
        if jw 3 ≤ jw l5_18 then (
          jlet (jst M19 t 5 0) fun M21 =>
          jlp2 (fun (self24 : Int → jM → Option (jM)) (l5_22 : Int) (M23 : jM) =>
            jck (jkd (M23 t 0) = 1) <|
            if jw (M23 ((M23 t 0) + 7) 0) ≤ jw l5_22 then (
              jbR (f_X1_everyJudge (M23 t 0) M23) fun v27 =>
              jbV (f_X8_judgeBy t v27 M23) fun M29 =>
              some M29)
            else (
              jbW (f_X5_amount ((M23 t 0) + 7) l5_22 (t + 4) M23) fun v32 M31 =>
              jlet (jst M31 t 5 ((M23 t 5) + v32)) fun M33 =>
              jlet (l5_22 + 1) fun l5_34 =>
              self24 l5_34 M33)) jfuel 0 M21)
        else (
          jbV (f_X8_sortJudges t (12 + l5_18) M19) fun M36 =>
          jlet (l5_18 + 1) fun l5_37 =>
          self20 l5_37 M36)) jfuel 0 M15)
    else (
      jbR (f_X6_has (M15 t 1) l5_14 M15) fun v39 =>
      if jw v39 = 0 then (
        jlet (l5_14 + 1) fun l5_40 =>
        self16 l5_40 M15)
      else (
        jck (0 ≤ jw l5_14 ∧ jw l5_14 < 12) <|
        if jw l3 < jw (M15 ((M15 t 1) + 1) (jw l5_14)) then (
          jlet (l5_14 + 1) fun l5_42 =>
          self16 l5_42 M15)
        else (
          jlet (jst M15 t 2 (jor (M15 t 2) (jsl 1 l5_14))) fun M43 =>
          jck (jkd (M43 t 1) = 6) <|
          jck (0 ≤ jw l5_14 ∧ jw l5_14 < 12) <|
          jbV (f_X8_weighAttempt t l5_14 (jnd (M43 ((M43 t 1) + 4) (jw l5_14)) l4) M43) fun M47 =>
          jbV (f_X8_sortJudges t l5_14 M47) fun M49 =>
          jlet (l5_14 + 1) fun l5_50 =>
          self16 l5_50 M49)))) jfuel 0 M13
def f_X7_weigh (l1 : Int) (l2 : Int) (M : jM) : Option (jM) :=
  jlet (jst M 110 0 l1) fun M1 =>
  jlp2 (fun (self4 : Int → jM → Option (jM)) (l3_2 : Int) (M3 : jM) =>
    jbR (f_X7_skaters M3) fun v6 =>
    if jw v6 ≤ jw l3_2 then (
      some M3)
    else (
      jck (0 ≤ jw l3_2 ∧ jw l3_2 < 6) <|
      jbV (f_X8_weigh (111 + 6 + 7 * jw l3_2) l1 l3_2 l2 7 M3) fun M9 =>
      jlet (l3_2 + 1) fun l3_10 =>
      self4 l3_10 M9)) jfuel 0 M1
def f_X7_judgeBy (l1 : Int) (M : jM) : Option (jM) :=
  jlp2 (fun (self3 : Int → jM → Option (jM)) (l2_1 : Int) (M2 : jM) =>
    jbR (f_X7_skaters M2) fun v5 =>
    if jw v5 ≤ jw l2_1 then (
      some M2)
    else (
      jck (0 ≤ jw l2_1 ∧ jw l2_1 < 6) <|
      jbV (f_X8_judgeBy (111 + 6 + 7 * jw l2_1) l1 M2) fun M8 =>
      jlet (l2_1 + 1) fun l2_9 =>
      self3 l2_9 M8)) jfuel 0 M
def f_X7_isAhead (l1 : Int) (l2 : Int) (M : jM) : Option (Int) :=
  jck (0 ≤ jw l1 ∧ jw l1 < 6) <|
  jck (0 ≤ jw l2 ∧ jw l2 < 6) <|
  if jw (M (111 + 6 + 7 * jw l1) 8) = jw (M (111 + 6 + 7 * jw l2) 8) then (
    jck (0 ≤ jw l1 ∧ jw l1 < 6) <|
    jck (0 ≤ jw l2 ∧ jw l2 < 6) <|
    if jw (M (111 + 6 + 7 * jw l1) 6) = jw (M (111 + 6 + 7 * jw l2) 6) then (
      if jw l2 ≤ jw l1 then (
        some 0)
      else (
        some 1))
    else (
      jck (0 ≤ jw l1 ∧ jw l1 < 6) <|
      jck (0 ≤ jw l2 ∧ jw l2 < 6) <|
      if jw (M (111 + 6 + 7 * jw l1) 6) ≤ jw (M (111 + 6 + 7 * jw l2) 6) then (
        some 0)
      else (
        some 1)))
  else (
    jck (0 ≤ jw l1 ∧ jw l1 < 6) <|
    jck (0 ≤ jw l2 ∧ jw l2 < 6) <|
    if jw (M (111 + 6 + 7 * jw l1) 8) ≤ jw (M (111 + 6 + 7 * jw l2) 8) then (
      some 0)
    else (
      some 1))
def f_X7_rankOf (l1 : Int) (M : jM) : Option (Int) :=
  jlp2 (fun (self3 : Int → Int → Option (Int)) (l2_1 : Int) (l3_2 : Int) =>
    jbR (f_X7_skaters M) fun v5 =>
    if jw v5 ≤ jw l3_2 then (
      some l2_1)
    else (
      if jw l3_2 = jw l1 then (
        jlet (l3_2 + 1) fun l3_6 =>
        self3 l2_1 l3_6)
      else (
        jbR (f_X7_isAhead l3_2 l1 M) fun v8 =>
        if jw v8 = 0 then (
          jlet (l3_2 + 1) fun l3_9 =>
          self3 l2_1 l3_9)
        else (
          jlet (l2_1 + 1) fun l2_10 =>
          jlet (l3_2 + 1) fun l3_11 =>
          self3 l2_10 l3_11)))) jfuel 0 0
def f_X7_skaterAt (l1 : Int) (M : jM) : Option (Int) :=
  jlp1 (fun (self2 : Int → Option (Int)) (l2_1 : Int) =>
    jbR (f_X7_skaters M) fun v4 =>
    if jw v4 ≤ jw l2_1 then (
      some (-1))
    else (
      jbR (f_X7_rankOf l2_1 M) fun v6 =>
      if jw v6 = jw l1 then (
        some l2_1)
      else (
        jlet (l2_1 + 1) fun l2_7 =>
        self2 l2_7))) jfuel 0
def f_X7_leadsBy (l1 : Int) (l2 : Int) (M : jM) : Option (Int × jM) :=
  jck (0 ≤ jw l1 ∧ jw l1 < 6) <|
  jbV (f_X8_judgeBy (111 + 6 + 7 * jw l1) l2 M) fun M3 =>
  jlp2 (fun (self6 : Int → jM → Option (Int × jM)) (l3_4 : Int) (M5 : jM) =>
    jbR (f_X7_skaters M5) fun v8 =>
    if jw v8 ≤ jw l3_4 then (
      some (1, M5))
    else (
      if jw l3_4 = jw l1 then (
        jlet (l3_4 + 1) fun l3_9 =>
        self6 l3_9 M5)
      else (
        jck (0 ≤ jw l3_4 ∧ jw l3_4 < 6) <|
        jbV (f_X8_judgeBy (111 + 6 + 7 * jw l3_4) l2 M5) fun M12 =>
        jbR (f_X7_isAhead l3_4 l1 M12) fun v14 =>
        if jw v14 = 0 then (
          jlet (l3_4 + 1) fun l3_15 =>
          self6 l3_15 M12)
        else (
          some (0, M12))))) jfuel 0 M3
def f_X7_leaning (l1 : Int) (M : jM) : Option (Int) :=
  jck (jkd (M 110 0) = 1) <|
  jbR (f_X1_everyJudge (M 110 0) M) fun v3 =>
  jlp2 (fun (self6 : Int → Int → Option (Int)) (l3_4 : Int) (l4_5 : Int) =>
    jbR (f_X7_skaters M) fun v8 =>
    if jw v8 ≤ jw l4_5 then (
      some l3_4)
    else (
      jck (0 ≤ jw l4_5 ∧ jw l4_5 < 6) <|
      jlp2 (fun (self12 : Int → Int → Option (Int)) (l3_10 : Int) (l6_11 : Int) =>
        if jw (M (((M 110 0) + 16) + 1 + 6 * jw l4_5) 0) ≤ jw l6_11 then (
          jlet (l4_5 + 1) fun l4_13 =>
          self6 l3_10 l4_13)
        else (
          jbR (f_X6_has (((M 110 0) + 16) + 1 + 6 * jw l4_5) l6_11 M) fun v15 =>
          if jw v15 = 0 then (
            jlet (l6_11 + 1) fun l6_16 =>
            self12 l3_10 l6_16)
          else (
            jbR (f_X9_voteOfGrade l6_11 l1) fun v18 =>
            jck (0 ≤ jw v18 ∧ jw v18 < 135) <|
            jck (0 ≤ jw l4_5 ∧ jw l4_5 < 6) <|
            jbR (f_X8_trimmed (111 + 6 + 7 * jw l4_5) l6_11 v3 M) fun v22 =>
            jlet ((l3_10 + ((100 * (M ((((M 110 0) + 16) + 1 + 6 * jw l4_5) + 5) (jw v18))) - v22))) fun l3_23 =>
            jlet (l6_11 + 1) fun l6_24 =>
            self12 l3_23 l6_24))) jfuel l3_4 0)) jfuel 0 0
def f_X7_farthestLeaning (M : jM) : Option (Int) :=
  jlp3 (fun (self4 : Int → Int → Int → Option (Int)) (l1_1 : Int) (l2_2 : Int) (l3_3 : Int) =>
    jck (jkd (M 110 0) = 1) <|
    if jw (M (M 110 0) 0) ≤ jw l3_3 then (
      some l1_1)
    else (
      jbR (f_X7_leaning l3_3 M) fun v7 =>
      jbR (f_J9_abs_0f7a4 v7) fun v9 =>
      if jw v9 ≤ jw l2_2 then (
        jlet (l3_3 + 1) fun l3_10 =>
        self4 l1_1 l2_2 l3_10)
      else (
        jlet (l3_3 + 1) fun l3_11 =>
        self4 l3_3 v9 l3_11))) jfuel 0 0 0
def f_X7_turnedPairs (l1 : Int) (M : jM) : Option (Int × jM) :=
  jlp2 (fun (self3 : Int → jM → Option (Int × jM)) (l2_1 : Int) (M2 : jM) =>
    jbR (f_X7_skaters M2) fun v5 =>
    if jw v5 ≤ jw l2_1 then (
      jbV (f_X7_judgeBy l1 M2) fun M7 =>
      jlp2 (fun (self10 : Int → Int → Option (Int × jM)) (l2_8 : Int) (l3_9 : Int) =>
        jbR (f_X7_skaters M7) fun v12 =>
        if jw v12 ≤ jw l3_9 then (
          some (l2_8, M7))
        else (
          jlet ((l3_9 + 1)) fun l4_13 =>
          jlp2 (fun (self16 : Int → Int → Option (Int × jM)) (l2_14 : Int) (l4_15 : Int) =>
            jbR (f_X7_skaters M7) fun v18 =>
            if jw v18 ≤ jw l4_15 then (
              jlet (l3_9 + 1) fun l3_19 =>
              self10 l2_14 l3_19)
            else (
              jck (0 ≤ jw l3_9 ∧ jw l3_9 < 6) <|
              jck (0 ≤ jw l4_15 ∧ jw l4_15 < 6) <|
              jk (fun (s0_22 : Int) =>
                jbR (f_X7_isAhead l3_9 l4_15 M7) fun v25 =>
                if jw s0_22 = jw v25 then (
                  jlet (l4_15 + 1) fun l4_26 =>
                  self16 l2_14 l4_26)
                else (
                  jlet (l2_14 + 1) fun l2_27 =>
                  jlet (l4_15 + 1) fun l4_28 =>
                  self16 l2_27 l4_28)) fun (k23 : Int → Option (Int × jM)) =>
              if jw (M7 112 (jw l4_15)) ≤ jw (M7 112 (jw l3_9)) then (
                k23 0)
              else (
                k23 1))) jfuel l2_8 l4_13)) jfuel 0 0)
    else (
      jbR (f_X7_rankOf l2_1 M2) fun v30 =>
      jck (0 ≤ jw l2_1 ∧ jw l2_1 < 6) <|
      jlet (jst M2 112 (jw l2_1) v30) fun M32 =>
      jlet (l2_1 + 1) fun l2_33 =>
      self3 l2_33 M32)) jfuel 0 M
def f_X7_backersFor (l1 : Int) (l2 : Int) (M : jM) : Option (Int) :=
  jlp2 (fun (self3 : Int → Int → Option (Int)) (l3_1 : Int) (l4_2 : Int) =>
    jck (jkd (M 110 0) = 1) <|
    if jw (M (M 110 0) 0) ≤ jw l4_2 then (
      some l3_1)
    else (
      jck (0 ≤ jw ((l1 * 9) + l4_2) ∧ jw ((l1 * 9) + l4_2) < 54) <|
      if jw l2 < jw (M 113 (jw ((l1 * 9) + l4_2))) then (
        jlet (l4_2 + 1) fun l4_6 =>
        self3 l3_1 l4_6)
      else (
        jlet (l3_1 + 1) fun l3_7 =>
        jlet (l4_2 + 1) fun l4_8 =>
        self3 l3_7 l4_8))) jfuel 0 0
def f_X7_findMajority (l1 : Int) (M : jM) : Option (jM) :=
  jck (0 ≤ jw l1 ∧ jw l1 < 6) <|
  jlet (jst M 116 (jw l1) 0) fun M2 =>
  jlp2 (fun (self5 : Int → jM → Option (jM)) (l2_3 : Int) (M4 : jM) =>
    jck (jkd (M4 110 0) = 1) <|
    if jw (M4 (M4 110 0) 0) ≤ jw l2_3 then (
      jlp1 (fun (self8 : Int → Option (jM)) (l2_7 : Int) =>
        jbR (f_X7_skaters M4) fun v10 =>
        if jw v10 ≤ jw l2_7 then (
          some M4)
        else (
          jbR (f_X7_backersFor l1 l2_7 M4) fun v12 =>
          if jw (2 * v12) ≤ jw (M4 (M4 110 0) 0) then (
            jlet (l2_7 + 1) fun l2_13 =>
            self8 l2_13)
          else (
            jck (0 ≤ jw l1 ∧ jw l1 < 6) <|
            jlet (jst M4 114 (jw l1) l2_7) fun M15 =>
            jck (0 ≤ jw l1 ∧ jw l1 < 6) <|
            jlet (jst M15 115 (jw l1) v12) fun M17 =>
            some M17))) jfuel 0)
    else (
      jck (0 ≤ jw l1 ∧ jw l1 < 6) <|
      jck (0 ≤ jw ((l1 * 9) + l2_3) ∧ jw ((l1 * 9) + l2_3) < 54) <|
      jck (0 ≤ jw l1 ∧ jw l1 < 6) <|
      jlet (jst M4 116 (jw l1) ((M4 116 (jw l1)) + (M4 113 (jw ((l1 * 9) + l2_3))))) fun M21 =>
      jlet (l2_3 + 1) fun l2_22 =>
      self5 l2_22 M21)) jfuel 0 M2
def f_X7_findMajorities (M : jM) : Option (jM) :=
  jlp2 (fun (self3 : Int → jM → Option (jM)) (l1_1 : Int) (M2 : jM) =>
    jck (jkd (M2 110 0) = 1) <|
    if jw (M2 (M2 110 0) 0) ≤ jw l1_1 then (
      jlp2 (fun (self7 : Int → jM → Option (jM)) (l1_5 : Int) (M6 : jM) =>
        jbR (f_X7_skaters M6) fun v9 =>
        if jw v9 ≤ jw l1_5 then (
          some M6)
        else (
          jbV (f_X7_findMajority l1_5 M6) fun M11 =>
          jlet (l1_5 + 1) fun l1_12 =>
          self7 l1_12 M11)) jfuel 0 M2)
    else (
      jbV (f_X7_judgeBy (jsl 1 l1_1) M2) fun M14 =>
      jlp2 (fun (self17 : Int → jM → Option (jM)) (l2_15 : Int) (M16 : jM) =>
        jbR (f_X7_skaters M16) fun v19 =>
        if jw v19 ≤ jw l2_15 then (
          jlet (l1_1 + 1) fun l1_20 =>
          self3 l1_20 M16)
        else (
          jbR (f_X7_rankOf l2_15 M16) fun v22 =>
          jck (0 ≤ jw ((l2_15 * 9) + l1_1) ∧ jw ((l2_15 * 9) + l1_1) < 54) <|
          jlet (jst M16 113 (jw ((l2_15 * 9) + l1_1)) v22) fun M24 =>
          jlet (l2_15 + 1) fun l2_25 =>
          self17 l2_25 M24)) jfuel 0 M14)) jfuel 0 M
def f_X7_isAheadByMajorities (l1 : Int) (l2 : Int) (M : jM) : Option (Int) :=
  jck (0 ≤ jw l1 ∧ jw l1 < 6) <|
  jck (0 ≤ jw l2 ∧ jw l2 < 6) <|
  if jw (M 114 (jw l1)) = jw (M 114 (jw l2)) then (
    jck (0 ≤ jw l1 ∧ jw l1 < 6) <|
    jck (0 ≤ jw l2 ∧ jw l2 < 6) <|
    if jw (M 115 (jw l1)) = jw (M 115 (jw l2)) then (
      jck (0 ≤ jw l1 ∧ jw l1 < 6) <|
      jck (0 ≤ jw l2 ∧ jw l2 < 6) <|
      if jw (M 116 (jw l1)) = jw (M 116 (jw l2)) then (
        if jw l2 ≤ jw l1 then (
          some 0)
        else (
          some 1))
      else (
        jck (0 ≤ jw l1 ∧ jw l1 < 6) <|
        jck (0 ≤ jw l2 ∧ jw l2 < 6) <|
        if jw (M 116 (jw l2)) ≤ jw (M 116 (jw l1)) then (
          some 0)
        else (
          some 1)))
    else (
      jck (0 ≤ jw l1 ∧ jw l1 < 6) <|
      jck (0 ≤ jw l2 ∧ jw l2 < 6) <|
      if jw (M 115 (jw l1)) ≤ jw (M 115 (jw l2)) then (
        some 0)
      else (
        some 1)))
  else (
    jck (0 ≤ jw l1 ∧ jw l1 < 6) <|
    jck (0 ≤ jw l2 ∧ jw l2 < 6) <|
    if jw (M 114 (jw l2)) ≤ jw (M 114 (jw l1)) then (
      some 0)
    else (
      some 1))
def f_X7_skaterByMajorities (l1 : Int) (M : jM) : Option (Int) :=
  jlp1 (fun (self2 : Int → Option (Int)) (l2_1 : Int) =>
    jbR (f_X7_skaters M) fun v4 =>
    if jw v4 ≤ jw l2_1 then (
      some (-1))
    else (
      jlp2 (fun (self7 : Int → Int → Option (Int)) (l3_5 : Int) (l4_6 : Int) =>
        jbR (f_X7_skaters M) fun v9 =>
        if jw v9 ≤ jw l4_6 then (
          if jw l3_5 = jw l1 then (
            some l2_1)
          else (
            jlet (l2_1 + 1) fun l2_10 =>
            self2 l2_10))
        else (
          if jw l4_6 = jw l2_1 then (
            jlet (l4_6 + 1) fun l4_11 =>
            self7 l3_5 l4_11)
          else (
            jbR (f_X7_isAheadByMajorities l4_6 l2_1 M) fun v13 =>
            if jw v13 = 0 then (
              jlet (l4_6 + 1) fun l4_14 =>
              self7 l3_5 l4_14)
            else (
              jlet (l3_5 + 1) fun l3_15 =>
              jlet (l4_6 + 1) fun l4_16 =>
              self7 l3_15 l4_16)))) jfuel 0 0)) jfuel 0
def f_X8_regrade (t : Int) (l1 : Int) (l2 : Int) (l3 : Int) (M : jM) : Option (jM) :=
  jbR (f_X8_gainBy t l1 l3 M) fun v2 =>
  jbR (f_X8_gainBy t l1 l2 M) fun v4 =>
  jlet (jst M t 6 ((M t 6) + (v2 - v4))) fun M5 =>
  jbV (f_X8_sumUp t M5) fun M7 =>
  some M7
def f_X7_leastGradeAhead (l1 : Int) (l2 : Int) (l3 : Int) (M : jM) : Option (Int × jM) :=
  jck (0 ≤ jw l1 ∧ jw l1 < 6) <|
  jck (jkd (M 110 0) = 1) <|
  jbR (f_X1_everyJudge (M 110 0) M) fun v4 =>
  jbR (f_X8_trimmed (111 + 6 + 7 * jw l1) l3 v4 M) fun v6 =>
  jlp3 (fun (self10 : Int → Int → jM → Option (Int × jM)) (l4_7 : Int) (l5_8 : Int) (M9 : jM) =>
    if jw 5 < jw l5_8 then (
      some ((-100), M9))
    else (
      jck (0 ≤ jw l1 ∧ jw l1 < 6) <|
      jbV (f_X8_regrade (111 + 6 + 7 * jw l1) l3 l4_7 (100 * l5_8) M9) fun M13 =>
      jbR (f_X7_isAhead l1 l2 M13) fun v15 =>
      if jw v15 = 0 then (
        jlet ((100 * l5_8)) fun l4_16 =>
        jlet (l5_8 + 1) fun l5_17 =>
        self10 l4_16 l5_17 M13)
      else (
        some (l5_8, M13)))) jfuel v6 (-5) M
def f_X8_greatestBonus (t : Int) (l1 : Int) (M : jM) : Option (Int) :=
  jlp2 (fun (self3 : Int → Int → Option (Int)) (l2_1 : Int) (l3_2 : Int) =>
    jck (jkd (M t 1) = 6) <|
    if jw (M (M t 1) 0) ≤ jw l3_2 then (
      some l2_1)
    else (
      jk (fun (s0_5 : Int) =>
        if jw s0_5 = 0 then (
          jlet (l3_2 + 1) fun l3_7 =>
          self3 l2_1 l3_7)
        else (
          jk (
            jlet (l3_2 + 1) fun l3_9 =>
            self3 l3_2 l3_9) fun (k8 : Option (Int)) =>
          if jw l2_1 = jw (-1) then (
            k8)
          else (
            jbR (f_X8_bonusOf t l3_2 M) fun v11 =>
            jbR (f_X8_bonusOf t l2_1 M) fun v13 =>
            if jw v11 ≤ jw v13 then (
              jlet (l3_2 + 1) fun l3_14 =>
              self3 l2_1 l3_14)
            else (
              k8)))) fun (k6 : Int → Option (Int)) =>
      jk (
        k6 0) fun (k15 : Option (Int)) =>
      if jw (jnd (jsr l1 l3_2) 1) = 0 then (
        k15)
      else (
        jbR (f_X8_beginsWithJump t l3_2 M) fun v17 =>
        if jw v17 = 0 then (
          k15)
        else (
          k6 1)))) jfuel (-1) 0
def f_X8_bestLate (t : Int) (l1 : Int) (M : jM) : Option (Int) :=
  jlp2 (fun (self3 : Int → Int → Option (Int)) (l2_1 : Int) (l3_2 : Int) =>
    if jw l1 ≤ jw l3_2 then (
      some l2_1)
    else (
      jbR (f_X8_greatestBonus t (jnd (M t 2) (jxr l2_1 (-1))) M) fun v5 =>
      if jw v5 = jw (-1) then (
        some l2_1)
      else (
        jlet ((jor l2_1 (jsl 1 v5))) fun l2_6 =>
        jlet (l3_2 + 1) fun l3_7 =>
        self3 l2_6 l3_7))) jfuel 0 0
def f_X9_tapeNumber (l1 : Int) (M : jM) : Option (jM) :=
  jlp2 (fun (self3 : Int → jM → Option (jM)) (l2_1 : Int) (M2 : jM) =>
    if jw l2_1 < 0 then (
      some M2)
    else (
      if jw 600 ≤ jw (M2 1 1) then (
        some M2)
      else (
        jck (0 ≤ jw (M2 1 1) ∧ jw (M2 1 1) < 600) <|
        jlet (jst M2 2 (jw (M2 1 1)) (jnd (jus l1 l2_1) 255)) fun M5 =>
        jlet (jst M5 1 1 ((M5 1 1) + 1)) fun M6 =>
        jlet (l2_1 + (-8)) fun l2_7 =>
        self3 l2_7 M6))) jfuel 24 M
def f_X9_feed (l1 : Int) (l2 : Int) (l3 : Int) (l4 : Int) (l5 : Int) (M : jM) : Option (Int × jM) :=
  if jw ((M 1 1) + 20) ≤ jw 600 then (
    jbV (f_X9_tapeNumber l1 M) fun M2 =>
    jbV (f_X9_tapeNumber l2 M2) fun M4 =>
    jbV (f_X9_tapeNumber l3 M4) fun M6 =>
    jbV (f_X9_tapeNumber l4 M6) fun M8 =>
    jbV (f_X9_tapeNumber l5 M8) fun M10 =>
    some ((M10 1 1), M10))
  else (
    some ((-1), M))
def f_X9_end (l1 : Int) (M : jM) : Option (Int × jM) :=
  if jw l1 < 0 then (
    some (0, M))
  else (
    if jw l1 ≤ jw (M 1 1) then (
      jlet (jst M 1 1 l1) fun M1 =>
      some (1, M1))
    else (
      some (0, M)))
def f_X9_fault (M : jM) : Option (Int) :=
  some (M 1 2)
def f_X9_tallied (l1 : Int) (M : jM) : Option (Int × jM) :=
  jck (0 ≤ jw l1 ∧ jw l1 < 6) <|
  jck (jkd (M 1 3) = 1) <|
  jbV (f_X8_weigh (111 + 6 + 7 * jw l1) (M 1 3) l1 600 7 M) fun M4 =>
  some ((111 + 6 + 7 * jw l1), M4)
def f_X9_everyJudge (M : jM) : Option (Int) :=
  jck (jkd (M 1 3) = 1) <|
  jbR (f_X1_everyJudge (M 1 3) M) fun v3 =>
  some v3
def f_X9_voteOfMark (l0 : Int) (l1 : Int) : Option (Int) :=
  some (((12 + l0) * 9) + l1)
def f_X9_ranked (l1 : Int) (M : jM) : Option (Int × jM) :=
  jck (jkd (M 1 3) = 1) <|
  jbV (f_X7_weigh (M 1 3) 600 M) fun M3 =>
  jbR (f_X7_skaterAt l1 M3) fun v5 =>
  some (v5, M3)
def f_X9_tellVote (l1 : Int) (l2 : Int) (l3 : Int) (M : jM) : Option (Int × jM) :=
  jck (jkd (M 1 3) = 1) <|
  jck (0 ≤ jw l1 ∧ jw l1 < 6) <|
  jck (0 ≤ jw l2 ∧ jw l2 < 135) <|
  jlet ((M ((((M 1 3) + 16) + 1 + 6 * jw l1) + 5) (jw l2))) fun l5_4 =>
  jbV (f_X0_keep 0 l1 l2 l5_4 M) fun M6 =>
  jck (0 ≤ jw l2 ∧ jw l2 < 135) <|
  jlet (jst M6 ((((M 1 3) + 16) + 1 + 6 * jw l1) + 5) (jw l2) l3) fun M8 =>
  some (l5_4, M8)
def f_X9_undo (M : jM) : Option (Int × jM) :=
  jck (jkd (M 1 3) = 1) <|
  jbW (f_X0_takeBack (M 1 3) M) fun v4 M3 =>
  if jw v4 = 0 then (
    some ((-1), M3))
  else (
    some ((M3 159 0), M3))
def f_X9_odd (M : jM) : Option (Int × jM) :=
  jck (jkd (M 1 3) = 1) <|
  jbV (f_X7_weigh (M 1 3) 600 M) fun M3 =>
  jbR (f_X7_farthestLeaning M3) fun v5 =>
  some (v5, M3)
def f_X9_totalBy (l1 : Int) (l2 : Int) (M : jM) : Option (Int × jM) :=
  jbW (f_X9_tallied l1 M) fun v3 M2 =>
  jck (jkd v3 = 8) <|
  jbV (f_X8_judgeBy v3 l2 M2) fun M6 =>
  some ((M6 v3 8), M6)
def f_X9_major (l1 : Int) (M : jM) : Option (Int × jM) :=
  jck (jkd (M 1 3) = 1) <|
  jbV (f_X7_weigh (M 1 3) 600 M) fun M3 =>
  jbV (f_X7_findMajorities M3) fun M5 =>
  jbR (f_X7_skaterByMajorities l1 M5) fun v7 =>
  some (v7, M5)
def f_X9_judgeOutside (l1 : Int) (l2 : Int) (M : jM) : Option (Int) :=
  jlp2 (fun (self3 : Int → Int → Option (Int)) (l3_1 : Int) (l4_2 : Int) =>
    jck (jkd (M 1 3) = 1) <|
    if jw (M (M 1 3) 0) ≤ jw l4_2 then (
      some 0)
    else (
      if jw (jnd (jsr l1 l4_2) 1) = 0 then (
        if jw l3_1 = jw l2 then (
          some l4_2)
        else (
          jlet (l3_1 + 1) fun l3_6 =>
          jlet (l4_2 + 1) fun l4_7 =>
          self3 l3_6 l4_7))
      else (
        jlet (l4_2 + 1) fun l4_5 =>
        self3 l3_1 l4_5))) jfuel 0 0
def f_X9_octet (l1 : Int) (M : jM) : Option (Int) :=
  if jw l1 < 0 then (
    some (-1))
  else (
    if jw (M 164 1) ≤ jw l1 then (
      some (-1))
    else (
      jck (0 ≤ jw l1 ∧ jw l1 < 420) <|
      some (M 165 (jw l1))))
def f_X9_count (l1 : Int) (M : jM) : Option (Int) :=
  if jw l1 < 0 ∨ 12 < jw l1 then (
    jk (
      if jw l1 < jw 20 then (
        some (-1))
      else (
        jck (jkd (M 1 3) = 1) <|
        if jw (20 + (M ((M 1 3) + 13) 3)) ≤ jw l1 then (
          some (-1))
        else (
          jck (0 ≤ jw (l1 - 20) ∧ jw (l1 - 20) < 6) <|
          some (M (((M 1 3) + 16) + 1 + 6 * jw (l1 - 20)) 0)))) fun (k1 : Option (Int)) =>
    if jw l1 < jw 3 then (
      k1)
    else (
      if jw 10 ≤ jw l1 then (
        k1)
      else (
        jck (jkd (M 1 3) = 1) <|
        jck (0 ≤ jw (l1 - 3) ∧ jw (l1 - 3) < 7) <|
        some (M ((M 1 3) + 1) (jw (l1 - 3))))))
  else if jw l1 = 0 then (
    jck (jkd (M 1 3) = 1) <|
    some (M ((M 1 3) + 2) 3))
  else if jw l1 = 1 then (
    jck (jkd (M 1 3) = 1) <|
    some (M ((M 1 3) + 13) 3))
  else if jw l1 = 2 then (
    jck (jkd (M 1 3) = 1) <|
    some (M (M 1 3) 0))
  else if jw l1 = 3 then (
    jk (
      if jw l1 < jw 20 then (
        some (-1))
      else (
        jck (jkd (M 1 3) = 1) <|
        if jw (20 + (M ((M 1 3) + 13) 3)) ≤ jw l1 then (
          some (-1))
        else (
          jck (0 ≤ jw (l1 - 20) ∧ jw (l1 - 20) < 6) <|
          some (M (((M 1 3) + 16) + 1 + 6 * jw (l1 - 20)) 0)))) fun (k9 : Option (Int)) =>
    if jw l1 < jw 3 then (
      k9)
    else (
      if jw 10 ≤ jw l1 then (
        k9)
      else (
        jck (jkd (M 1 3) = 1) <|
        jck (0 ≤ jw (l1 - 3) ∧ jw (l1 - 3) < 7) <|
        some (M ((M 1 3) + 1) (jw (l1 - 3))))))
  else if jw l1 = 4 then (
    jk (
      if jw l1 < jw 20 then (
        some (-1))
      else (
        jck (jkd (M 1 3) = 1) <|
        if jw (20 + (M ((M 1 3) + 13) 3)) ≤ jw l1 then (
          some (-1))
        else (
          jck (0 ≤ jw (l1 - 20) ∧ jw (l1 - 20) < 6) <|
          some (M (((M 1 3) + 16) + 1 + 6 * jw (l1 - 20)) 0)))) fun (k14 : Option (Int)) =>
    if jw l1 < jw 3 then (
      k14)
    else (
      if jw 10 ≤ jw l1 then (
        k14)
      else (
        jck (jkd (M 1 3) = 1) <|
        jck (0 ≤ jw (l1 - 3) ∧ jw (l1 - 3) < 7) <|
        some (M ((M 1 3) + 1) (jw (l1 - 3))))))
  else if jw l1 = 5 then (
    jk (
      if jw l1 < jw 20 then (
        some (-1))
      else (
        jck (jkd (M 1 3) = 1) <|
        if jw (20 + (M ((M 1 3) + 13) 3)) ≤ jw l1 then (
          some (-1))
        else (
          jck (0 ≤ jw (l1 - 20) ∧ jw (l1 - 20) < 6) <|
          some (M (((M 1 3) + 16) + 1 + 6 * jw (l1 - 20)) 0)))) fun (k19 : Option (Int)) =>
    if jw l1 < jw 3 then (
      k19)
    else (
      if jw 10 ≤ jw l1 then (
        k19)
      else (
        jck (jkd (M 1 3) = 1) <|
        jck (0 ≤ jw (l1 - 3) ∧ jw (l1 - 3) < 7) <|
        some (M ((M 1 3) + 1) (jw (l1 - 3))))))
  else if jw l1 = 6 then (
    jk (
      if jw l1 < jw 20 then (
        some (-1))
      else (
        jck (jkd (M 1 3) = 1) <|
        if jw (20 + (M ((M 1 3) + 13) 3)) ≤ jw l1 then (
          some (-1))
        else (
          jck (0 ≤ jw (l1 - 20) ∧ jw (l1 - 20) < 6) <|
          some (M (((M 1 3) + 16) + 1 + 6 * jw (l1 - 20)) 0)))) fun (k24 : Option (Int)) =>
    if jw l1 < jw 3 then (
      k24)
    else (
      if jw 10 ≤ jw l1 then (
        k24)
      else (
        jck (jkd (M 1 3) = 1) <|
        jck (0 ≤ jw (l1 - 3) ∧ jw (l1 - 3) < 7) <|
        some (M ((M 1 3) + 1) (jw (l1 - 3))))))
  else if jw l1 = 7 then (
    jk (
      if jw l1 < jw 20 then (
        some (-1))
      else (
        jck (jkd (M 1 3) = 1) <|
        if jw (20 + (M ((M 1 3) + 13) 3)) ≤ jw l1 then (
          some (-1))
        else (
          jck (0 ≤ jw (l1 - 20) ∧ jw (l1 - 20) < 6) <|
          some (M (((M 1 3) + 16) + 1 + 6 * jw (l1 - 20)) 0)))) fun (k29 : Option (Int)) =>
    if jw l1 < jw 3 then (
      k29)
    else (
      if jw 10 ≤ jw l1 then (
        k29)
      else (
        jck (jkd (M 1 3) = 1) <|
        jck (0 ≤ jw (l1 - 3) ∧ jw (l1 - 3) < 7) <|
        some (M ((M 1 3) + 1) (jw (l1 - 3))))))
  else if jw l1 = 8 then (
    jk (
      if jw l1 < jw 20 then (
        some (-1))
      else (
        jck (jkd (M 1 3) = 1) <|
        if jw (20 + (M ((M 1 3) + 13) 3)) ≤ jw l1 then (
          some (-1))
        else (
          jck (0 ≤ jw (l1 - 20) ∧ jw (l1 - 20) < 6) <|
          some (M (((M 1 3) + 16) + 1 + 6 * jw (l1 - 20)) 0)))) fun (k34 : Option (Int)) =>
    if jw l1 < jw 3 then (
      k34)
    else (
      if jw 10 ≤ jw l1 then (
        k34)
      else (
        jck (jkd (M 1 3) = 1) <|
        jck (0 ≤ jw (l1 - 3) ∧ jw (l1 - 3) < 7) <|
        some (M ((M 1 3) + 1) (jw (l1 - 3))))))
  else if jw l1 = 9 then (
    jk (
      if jw l1 < jw 20 then (
        some (-1))
      else (
        jck (jkd (M 1 3) = 1) <|
        if jw (20 + (M ((M 1 3) + 13) 3)) ≤ jw l1 then (
          some (-1))
        else (
          jck (0 ≤ jw (l1 - 20) ∧ jw (l1 - 20) < 6) <|
          some (M (((M 1 3) + 16) + 1 + 6 * jw (l1 - 20)) 0)))) fun (k39 : Option (Int)) =>
    if jw l1 < jw 3 then (
      k39)
    else (
      if jw 10 ≤ jw l1 then (
        k39)
      else (
        jck (jkd (M 1 3) = 1) <|
        jck (0 ≤ jw (l1 - 3) ∧ jw (l1 - 3) < 7) <|
        some (M ((M 1 3) + 1) (jw (l1 - 3))))))
  else if jw l1 = 10 then (
    jck (jkd (M 1 3) = 1) <|
    some (M ((M 1 3) + 7) 0))
  else if jw l1 = 11 then (
    some (M 159 0))
  else (
    some (M 164 1))
def f_X10_thrown (M : jM) : Option (Int) :=
  some (M 166 0)
def f_X10_throwsIf (l1 : Int) (l2 : Int) (M : jM) : Option (Int × jM) :=
  if jw l1 = 0 then (
    jck (jw l1 = 0 ∨ jw l1 = 1) <| some (l1, M))
  else (
    jlet (jst M 166 0 l2) fun M2 =>
    jck (jw l1 = 0 ∨ jw l1 = 1) <| some (l1, M2))
def f_X10_in (l0 : Int) (l1 : Int) (l2 : Int) : Option (Int) :=
  if jw l0 < jw l1 then (
    some 0)
  else (
    if jw l2 < jw l0 then (
      some 0)
    else (
      some 1))
def f_X10_isIn (l0 : Int) (l1 : Int) : Option (Int) :=
  if jw (jnd (jsr l0 l1) 1) = jw 1 then (
    some 1)
  else (
    some 0)
def f_X10_bits (l0 : Int) : Option (Int) :=
  jlp2 (fun (self3 : Int → Int → Option (Int)) (l1_1 : Int) (l2_2 : Int) =>
    if jw 12 ≤ jw l2_2 then (
      some l1_1)
    else (
      jlet ((l1_1 + (jnd (jsr l0 l2_2) 1))) fun l1_4 =>
      jlet (l2_2 + 1) fun l2_5 =>
      self3 l1_4 l2_5)) jfuel 0 0
def f_X10_feed (l1 : Int) (l2 : Int) (l3 : Int) (l4 : Int) (l5 : Int) (M : jM) : Option (Int × jM) :=
  jlet (jst M 166 0 0) fun M1 =>
  if jw ((M1 166 2) + 20) ≤ jw 600 then (
    jck (0 ≤ jw 0 ∧ jw 0 < 5) <|
    jlet (jst M1 168 (jw 0) l1) fun M3 =>
    jck (0 ≤ jw 1 ∧ jw 1 < 5) <|
    jlet (jst M3 168 (jw 1) l2) fun M5 =>
    jck (0 ≤ jw 2 ∧ jw 2 < 5) <|
    jlet (jst M5 168 (jw 2) l3) fun M7 =>
    jck (0 ≤ jw 3 ∧ jw 3 < 5) <|
    jlet (jst M7 168 (jw 3) l4) fun M9 =>
    jck (0 ≤ jw 4 ∧ jw 4 < 5) <|
    jlet (jst M9 168 (jw 4) l5) fun M11 =>
    jlp2 (fun (self14 : Int → jM → Option (Int × jM)) (l6_12 : Int) (M13 : jM) =>
      if jw 20 ≤ jw l6_12 then (
        jlet (jst M13 166 2 ((M13 166 2) + 20)) fun M15 =>
        some ((M15 166 2), M15))
      else (
        jck (0 ≤ jw ((jw l6_12).tdiv (jw 4)) ∧ jw ((jw l6_12).tdiv (jw 4)) < 5) <|
        jck (0 ≤ jw ((M13 166 2) + l6_12) ∧ jw ((M13 166 2) + l6_12) < 600) <|
        jlet (jst M13 167 (jw ((M13 166 2) + l6_12)) (jb8 (jb8 (jsr (M13 168 (jw ((jw l6_12).tdiv (jw 4)))) (24 - (8 * ((jw l6_12).tmod (jw 4)))))))) fun M18 =>
        jlet (l6_12 + 1) fun l6_19 =>
        self14 l6_19 M18)) jfuel 0 M11)
  else (
    some ((-1), M1))
def f_X10_end (l1 : Int) (M : jM) : Option (Int × jM) :=
  jlet (jst M 166 0 0) fun M1 =>
  if jw l1 < 0 then (
    some (0, M1))
  else (
    if jw l1 ≤ jw (M1 166 2) then (
      jlet (jst M1 166 2 l1) fun M2 =>
      some (1, M2))
    else (
      some (0, M1)))
def f_X10_hasFailed (M : jM) : Option (Int) :=
  if jw (M 166 7) = jw (-1) then (
    some 0)
  else (
    some 1)
def f_X10_isAt (l1 : Int) (l2 : Int) (M : jM) : Option (Int) :=
  if jw (M 166 6) ≤ jw (M 166 4) then (
    some 0)
  else (
    jck (0 ≤ jw (M 166 4) ∧ jw (M 166 4) < 600) <|
    if jw (M 167 (jw (M 166 4))) < jw l1 then (
      some 0)
    else (
      jck (0 ≤ jw (M 166 4) ∧ jw (M 166 4) < 600) <|
      if jw l2 < jw (M 167 (jw (M 166 4))) then (
        some 0)
      else (
        some 1)))
def f_X10_blanks (M : jM) : Option (jM) :=
  jlp1 (fun (self2 : jM → Option (jM)) (M1 : jM) =>
    jbR (f_X10_isAt 9 10 M1) fun v4 =>
    jk (
      jlet (jst M1 166 4 ((M1 166 4) + 1)) fun M6 =>
      self2 M6) fun (k5 : Option (jM)) =>
    if jw v4 = 0 then (
      jbR (f_X10_isAt 32 32 M1) fun v8 =>
      if jw v8 = 0 then (
        jlet (jst M1 166 5 (M1 166 4)) fun M9 =>
        some M9)
      else (
        k5))
    else (
      k5)) jfuel M
def f_X10_fails (M : jM) : Option (jM) :=
  if jw (M 166 7) = jw (-1) then (
    jlet (jst M 166 7 (M 166 5)) fun M1 =>
    some M1)
  else (
    some M)
def f_X10_isSign (l1 : Int) (M : jM) : Option (Int × jM) :=
  jbV (f_X10_blanks M) fun M2 =>
  jbR (f_X10_hasFailed M2) fun v4 =>
  if jw v4 = 0 then (
    jbR (f_X10_isAt l1 l1 M2) fun v6 =>
    if jw v6 = 0 then (
      some (0, M2))
    else (
      some (1, M2)))
  else (
    some (0, M2))
def f_X10_takes (l1 : Int) (M : jM) : Option (Int × jM) :=
  jbW (f_X10_isSign l1 M) fun v3 M2 =>
  if jw v3 = 0 then (
    jck (jw v3 = 0 ∨ jw v3 = 1) <| some (v3, M2))
  else (
    jlet (jst M2 166 4 ((M2 166 4) + 1)) fun M5 =>
    jck (jw v3 = 0 ∨ jw v3 = 1) <| some (v3, M5))
def f_X10_asksSign (l1 : Int) (M : jM) : Option (jM) :=
  jbW (f_X10_takes l1 M) fun v3 M2 =>
  if jw v3 = 0 then (
    jbV (f_X10_fails M2) fun M5 =>
    some M5)
  else (
    some M2)
def f_X10_wordMany (M : jM) : Option (Int × jM) :=
  jbV (f_X10_blanks M) fun M2 =>
  jlet ((M2 166 4)) fun l1_3 =>
  jlp1 (fun (self5 : Int → Option (Int × jM)) (l1_4 : Int) =>
    jk (
      some ((l1_4 - (M2 166 4)), M2)) fun (k6 : Option (Int × jM)) =>
    if jw (M2 166 6) ≤ jw l1_4 then (
      k6)
    else (
      jck (0 ≤ jw l1_4 ∧ jw l1_4 < 600) <|
      if jw (M2 167 (jw l1_4)) < jw 97 then (
        k6)
      else (
        jck (0 ≤ jw l1_4 ∧ jw l1_4 < 600) <|
        if jw 122 < jw (M2 167 (jw l1_4)) then (
          k6)
        else (
          jlet (l1_4 + 1) fun l1_9 =>
          self5 l1_9)))) jfuel l1_3
def f_X10_isWord (l1 : Int) (M : jM) : Option (Int × jM) :=
  jbR (f_X10_hasFailed M) fun v2 =>
  jk (fun (s0_3 : Int) (M4 : jM) =>
    jlp2 (fun (self8 : Int → Int → Option (Int × jM)) (l2_6 : Int) (l3_7 : Int) =>
      if jw l2_6 = 0 then (
        jck (jw l2_6 = 0 ∨ jw l2_6 = 1) <| some (l2_6, M4))
      else (
        if jw (jsln l1) ≤ jw l3_7 then (
          jck (jw l2_6 = 0 ∨ jw l2_6 = 1) <| some (l2_6, M4))
        else (
          jck (0 ≤ jw ((M4 166 4) + l3_7) ∧ jw ((M4 166 4) + l3_7) < 600) <|
          jck (0 ≤ jw l3_7 ∧ jw l3_7 < jsln l1) <|
          jk (fun (s0_13 : Int) =>
            jlet (l3_7 + 1) fun l3_15 =>
            self8 s0_13 l3_15) fun (k14 : Int → Option (Int × jM)) =>
          if jw (M4 167 (jw ((M4 166 4) + l3_7))) = jw (jsch l1 (jw l3_7)) then (
            k14 1)
          else (
            k14 0)))) jfuel s0_3 0) fun (k5 : Int → jM → Option (Int × jM)) =>
  jk (fun (M16 : jM) =>
    k5 0 M16) fun (k17 : jM → Option (Int × jM)) =>
  if jw v2 = 0 then (
    jbW (f_X10_wordMany M) fun v20 M19 =>
    if jw v20 = jw (jsln l1) then (
      k5 1 M19)
    else (
      k17 M19))
  else (
    k17 M)
def f_X10_takesWord (l1 : Int) (M : jM) : Option (Int × jM) :=
  jbW (f_X10_isWord l1 M) fun v3 M2 =>
  if jw v3 = 0 then (
    jck (jw v3 = 0 ∨ jw v3 = 1) <| some (v3, M2))
  else (
    jlet (jst M2 166 4 ((M2 166 4) + (jsln l1))) fun M5 =>
    jck (jw v3 = 0 ∨ jw v3 = 1) <| some (v3, M5))
def f_X10_number (l1 : Int) (l2 : Int) (M : jM) : Option (Int × jM) :=
  jbR (f_X10_hasFailed M) fun v2 =>
  if jw v2 = 0 then (
    jbV (f_X10_blanks M) fun M4 =>
    jlp2 (fun (self7 : Int → jM → Option (Int × jM)) (l3_5 : Int) (M6 : jM) =>
      jbR (f_X10_isAt 48 57 M6) fun v9 =>
      if jw v9 = 0 then (
        jlet (((M6 166 4) - (M6 166 5))) fun l4_10 =>
        jk (
          jbV (f_X10_fails M6) fun M13 =>
          some (l3_5, M13)) fun (k11 : Option (Int × jM)) =>
        if jw l4_10 = 0 then (
          k11)
        else (
          if jw 4 < jw l4_10 then (
            k11)
          else (
            jbR (f_X10_in l3_5 l1 l2) fun v15 =>
            if jw v15 = 0 then (
              k11)
            else (
              some (l3_5, M6)))))
      else (
        jk (fun (l3_16 : Int) =>
          jlet (jst M6 166 4 ((M6 166 4) + 1)) fun M18 =>
          self7 l3_16 M18) fun (k17 : Int → Option (Int × jM)) =>
        if jw 4 ≤ jw ((M6 166 4) - (M6 166 5)) then (
          k17 l3_5)
        else (
          jck (0 ≤ jw (M6 166 4) ∧ jw (M6 166 4) < 600) <|
          jlet ((((10 * l3_5) + (M6 167 (jw (M6 166 4)))) - 48)) fun l3_20 =>
          k17 l3_20))) jfuel 0 M4)
  else (
    some (l1, M))
def f_X10_fault (M : jM) : Option (Int × jM) :=
  jlet (jst M 166 0 0) fun M1 =>
  some ((M1 166 8), M1)
def f_X10_usual (M : jM) : Option (jM) :=
  jlp2 (fun (self3 : Int → jM → Option (jM)) (l1_1 : Int) (M2 : jM) =>
    if jw 1089 ≤ jw l1_1 then (
      jlp2 (fun (self6 : Int → jM → Option (jM)) (l1_4 : Int) (M5 : jM) =>
        if jw 971 ≤ jw l1_4 then (
          jck (0 ≤ jw 2 ∧ jw 2 < 1089) <|
          jlet (jst M5 171 (jw 2) 5) fun M8 =>
          jck (0 ≤ jw 964 ∧ jw 964 < 971) <|
          jlet (jst M8 172 (jw 964) 1) fun M10 =>
          jck (0 ≤ jw 965 ∧ jw 965 < 971) <|
          jlet (jst M10 172 (jw 965) 120) fun M12 =>
          jck (0 ≤ jw 966 ∧ jw 966 < 971) <|
          jlet (jst M12 172 (jw 966) 10) fun M14 =>
          jck (0 ≤ jw 967 ∧ jw 967 < 971) <|
          jlet (jst M14 172 (jw 967) 2) fun M16 =>
          jlp2 (fun (self19 : Int → jM → Option (jM)) (l1_17 : Int) (M18 : jM) =>
            if jw 3 ≤ jw l1_17 then (
              some M18)
            else (
              jck (0 ≤ jw (968 + l1_17) ∧ jw (968 + l1_17) < 971) <|
              jlet (jst M18 172 (jw (968 + l1_17)) 100) fun M21 =>
              jlet (l1_17 + 1) fun l1_22 =>
              self19 l1_22 M21)) jfuel 0 M16)
        else (
          jck (0 ≤ jw l1_4 ∧ jw l1_4 < 971) <|
          jlet (jst M5 172 (jw l1_4) 0) fun M24 =>
          jlet (l1_4 + 1) fun l1_25 =>
          self6 l1_25 M24)) jfuel 0 M2)
    else (
      jck (0 ≤ jw l1_1 ∧ jw l1_1 < 1089) <|
      jlet (jst M2 171 (jw l1_1) 0) fun M27 =>
      jlet (l1_1 + 1) fun l1_28 =>
      self3 l1_28 M27)) jfuel 0 M
def f_X10_taken (M : jM) : Option (jM) :=
  jlp2 (fun (self3 : Int → jM → Option (jM)) (l1_1 : Int) (M2 : jM) =>
    if jw 1089 ≤ jw l1_1 then (
      jlp2 (fun (self6 : Int → jM → Option (jM)) (l1_4 : Int) (M5 : jM) =>
        if jw 971 ≤ jw l1_4 then (
          some M5)
        else (
          jck (0 ≤ jw l1_4 ∧ jw l1_4 < 971) <|
          jck (0 ≤ jw l1_4 ∧ jw l1_4 < 971) <|
          jlet (jst M5 170 (jw l1_4) (M5 172 (jw l1_4))) fun M9 =>
          jlet (l1_4 + 1) fun l1_10 =>
          self6 l1_10 M9)) jfuel 0 M2)
    else (
      jck (0 ≤ jw l1_1 ∧ jw l1_1 < 1089) <|
      jck (0 ≤ jw l1_1 ∧ jw l1_1 < 1089) <|
      jlet (jst M2 169 (jw l1_1) (M2 171 (jw l1_1))) fun M13 =>
      jlet (l1_1 + 1) fun l1_14 =>
      self3 l1_14 M13)) jfuel 0 M
def f_X10_named (l1 : Int) (l2 : Int) (M : jM) : Option (Int × jM) :=
  jbW (f_X10_wordMany M) fun v3 M2 =>
  jlp1 (fun (self5 : Int → Option (Int × jM)) (l4_4 : Int) =>
    if jw l2 ≤ jw l4_4 then (
      some ((-1), M2))
    else (
      jlp2 (fun (self8 : Int → Int → Option (Int × jM)) (l5_6 : Int) (l6_7 : Int) =>
        if jw 6 ≤ jw l6_7 then (
          if jw l5_6 = 0 then (
            jlet (l4_4 + 1) fun l4_9 =>
            self5 l4_9)
          else (
            if jw 6 < jw v3 then (
              jlet (l4_4 + 1) fun l4_10 =>
              self5 l4_10)
            else (
              some (l4_4, M2))))
        else (
          jk (fun (s0_11 : Int) =>
            jlet (l6_7 + 1) fun l6_13 =>
            self8 s0_11 l6_13) fun (k12 : Int → Option (Int × jM)) =>
          jk (
            k12 0) fun (k14 : Option (Int × jM)) =>
          if jw l5_6 = 0 then (
            k14)
          else (
            jck (0 ≤ jw ((l1 + (6 * l4_4)) + l6_7) ∧ jw ((l1 + (6 * l4_4)) + l6_7) < 1089) <|
            jk (fun (s1_16 : Int) =>
              if jw (M2 171 (jw ((l1 + (6 * l4_4)) + l6_7))) = jw s1_16 then (
                k12 1)
              else (
                k14)) fun (k17 : Int → Option (Int × jM)) =>
            if jw v3 ≤ jw l6_7 then (
              k17 0)
            else (
              jck (0 ≤ jw ((M2 166 4) + l6_7) ∧ jw ((M2 166 4) + l6_7) < 600) <|
              k17 (M2 167 (jw ((M2 166 4) + l6_7))))))) jfuel 1 0)) jfuel 0
def f_X10_isName (M : jM) : Option (Int × jM) :=
  jbW (f_X10_wordMany M) fun v3 M2 =>
  jbR (f_X10_hasFailed M2) fun v5 =>
  if jw v5 = 0 then (
    jbR (f_X10_in v3 1 6) fun v7 =>
    if jw v7 = 0 then (
      some (0, M2))
    else (
      some (1, M2)))
  else (
    some (0, M2))
def f_X10_freshName (l1 : Int) (l2 : Int) (M : jM) : Option (jM) :=
  jbR (f_X10_hasFailed M) fun v2 =>
  if jw v2 = 0 then (
    jbW (f_X10_isName M) fun v5 M4 =>
    jk (fun (M6 : jM) =>
      jbV (f_X10_fails M6) fun M9 =>
      some M9) fun (k7 : jM → Option (jM)) =>
    if jw v5 = 0 then (
      k7 M4)
    else (
      jbW (f_X10_named l1 l2 M4) fun v12 M11 =>
      if jw v12 = jw (-1) then (
        jbW (f_X10_wordMany M11) fun v15 M14 =>
        jlp2 (fun (self18 : Int → jM → Option (jM)) (l4_16 : Int) (M17 : jM) =>
          if jw 6 ≤ jw l4_16 then (
            jlet (jst M17 166 4 ((M17 166 4) + v15)) fun M19 =>
            some M19)
          else (
            jk (fun (s2_20 : Int) =>
              jck (0 ≤ jw ((l1 + (6 * l2)) + l4_16) ∧ jw ((l1 + (6 * l2)) + l4_16) < 1089) <|
              jlet (jst M17 171 (jw ((l1 + (6 * l2)) + l4_16)) s2_20) fun M23 =>
              jlet (l4_16 + 1) fun l4_24 =>
              self18 l4_24 M23) fun (k21 : Int → Option (jM)) =>
            if jw v15 ≤ jw l4_16 then (
              k21 0)
            else (
              jck (0 ≤ jw ((M17 166 4) + l4_16) ∧ jw ((M17 166 4) + l4_16) < 600) <|
              k21 (M17 167 (jw ((M17 166 4) + l4_16)))))) jfuel 0 M14)
      else (
        k7 M11)))
  else (
    some M)
def f_X10_elementTold (l1 : Int) (M : jM) : Option (Int × jM) :=
  jbR (f_X10_hasFailed M) fun v2 =>
  if jw v2 = 0 then (
    jbW (f_X10_isName M) fun v5 M4 =>
    jk (fun (s0_6 : Int) (M7 : jM) =>
      jk (
        jbV (f_X10_fails M7) fun M11 =>
        some (0, M11)) fun (k9 : Option (Int × jM)) =>
      if jw s0_6 = jw (-1) then (
        k9)
      else (
        jk (
          jbW (f_X10_wordMany M7) fun v15 M14 =>
          jlet (jst M14 166 4 ((M7 166 4) + v15)) fun M16 =>
          some (s0_6, M16)) fun (k12 : Option (Int × jM)) =>
        if jw l1 = 0 then (
          k12)
        else (
          jck (0 ≤ jw (4 + s0_6) ∧ jw (4 + s0_6) < 1089) <|
          if jw (M7 171 (jw (4 + s0_6))) = 0 then (
            k12)
          else (
            k9)))) fun (k8 : Int → jM → Option (Int × jM)) =>
    if jw v5 = 0 then (
      k8 (-1) M4)
    else (
      jck (0 ≤ jw 0 ∧ jw 0 < 1089) <|
      jbW (f_X10_named 14 (M4 171 (jw 0)) M4) fun v21 M20 =>
      k8 v21 M20))
  else (
    some (0, M))
def f_X10_letters (l1 : Int) (l2 : Int) (M : jM) : Option (jM) :=
  jbR (f_X10_hasFailed M) fun v2 =>
  if jw v2 = 0 then (
    jbW (f_X10_wordMany M) fun v5 M4 =>
    jck (0 ≤ jw 2 ∧ jw 2 < 1089) <|
    jk (fun (s0_7 : Int) =>
      jlp2 (fun (self11 : Int → Int → Option (jM)) (l4_9 : Int) (l5_10 : Int) =>
        jk (
          if jw l4_9 = 0 then (
            jbV (f_X10_fails M4) fun M22 =>
            some M22)
          else (
            jlp2 (fun (self15 : Int → jM → Option (jM)) (l5_13 : Int) (M14 : jM) =>
              if jw v5 ≤ jw l5_13 then (
                jlet (jst M14 166 4 ((M14 166 4) + v5)) fun M16 =>
                some M16)
              else (
                jck (0 ≤ jw ((M14 166 4) + l5_13) ∧ jw ((M14 166 4) + l5_13) < 600) <|
                jck (0 ≤ jw (l1 + l5_13) ∧ jw (l1 + l5_13) < 971) <|
                jlet (jst M14 172 (jw (l1 + l5_13)) (((M14 167 (jw ((M14 166 4) + l5_13))) - 97) - l2)) fun M19 =>
                jlet (l5_13 + 1) fun l5_20 =>
                self15 l5_20 M19)) jfuel 0 M4)) fun (k12 : Option (jM)) =>
        if jw v5 ≤ jw l5_10 then (
          k12)
        else (
          if jw l4_9 = 0 then (
            k12)
          else (
            jck (0 ≤ jw ((M4 166 4) + l5_10) ∧ jw ((M4 166 4) + l5_10) < 600) <|
            jk (fun (s0_24 : Int) =>
              jlet (l5_10 + 1) fun l5_26 =>
              self11 s0_24 l5_26) fun (k25 : Int → Option (jM)) =>
            if jw 107 < jw (M4 167 (jw ((M4 166 4) + l5_10))) then (
              k25 0)
            else (
              k25 1)))) jfuel s0_7 0) fun (k8 : Int → Option (jM)) =>
    if jw v5 = jw (M4 171 (jw 2)) then (
      k8 1)
    else (
      k8 0))
  else (
    some M)
def f_X10_code (l1 : Int) (M : jM) : Option (jM) :=
  jbR (f_X10_hasFailed M) fun v2 =>
  if jw v2 = 0 then (
    jck (0 ≤ jw 3 ∧ jw 3 < 1089) <|
    jck (0 ≤ jw ((482 + (M 171 (jw 3))) + 1) ∧ jw ((482 + (M 171 (jw 3))) + 1) < 1089) <|
    jlet ((M 171 (jw ((482 + (M 171 (jw 3))) + 1)))) fun l2_5 =>
    jck (0 ≤ jw (489 + l2_5) ∧ jw (489 + l2_5) < 1089) <|
    jlet (jst M 171 (jw (489 + l2_5)) l1) fun M7 =>
    jck (0 ≤ jw 3 ∧ jw 3 < 1089) <|
    jck (0 ≤ jw ((482 + (M7 171 (jw 3))) + 1) ∧ jw ((482 + (M7 171 (jw 3))) + 1) < 1089) <|
    jlet (jst M7 171 (jw ((482 + (M7 171 (jw 3))) + 1)) (l2_5 + 1)) fun M10 =>
    some M10)
  else (
    some M)
def f_X10_wordTold (M : jM) : Option (Int × jM) :=
  jbW (f_X10_isWord 40 M) fun v3 M2 =>
  if jw v3 = 0 then (
    jbW (f_X10_isWord 41 M2) fun v6 M5 =>
    if jw v6 = 0 then (
      jbW (f_X10_isWord 42 M5) fun v9 M8 =>
      if jw v9 = 0 then (
        jbW (f_X10_isWord 43 M8) fun v12 M11 =>
        if jw v12 = 0 then (
          jbW (f_X10_isWord 44 M11) fun v15 M14 =>
          if jw v15 = 0 then (
            jbW (f_X10_isWord 32 M14) fun v18 M17 =>
            if jw v18 = 0 then (
              jbW (f_X10_isWord 37 M17) fun v21 M20 =>
              if jw v21 = 0 then (
                jbW (f_X10_isWord 45 M20) fun v24 M23 =>
                if jw v24 = 0 then (
                  jbW (f_X10_isWord 46 M23) fun v27 M26 =>
                  if jw v27 = 0 then (
                    jbW (f_X10_isWord 47 M26) fun v30 M29 =>
                    if jw v30 = 0 then (
                      some ((-1), M29))
                    else (
                      some (9, M29)))
                  else (
                    some (8, M26)))
                else (
                  some (7, M23)))
              else (
                some (6, M20)))
            else (
              some (5, M17)))
          else (
            some (4, M14)))
        else (
          some (3, M11)))
      else (
        some (2, M8)))
    else (
      some (1, M5)))
  else (
    some (0, M2))
def f_X10_elementLine (M : jM) : Option (jM) :=
  jck (0 ≤ jw 0 ∧ jw 0 < 1089) <|
  jlet ((M 171 (jw 0))) fun l1_2 =>
  jbV (f_X10_freshName 14 l1_2 M) fun M4 =>
  jbW (f_X10_takesWord 30 M4) fun v7 M6 =>
  jk (fun (s2_8 : Int) (M9 : jM) =>
    jck (0 ≤ jw (4 + l1_2) ∧ jw (4 + l1_2) < 1089) <|
    jlet (jst M9 171 (jw (4 + l1_2)) s2_8) fun M12 =>
    jck (0 ≤ jw (4 + l1_2) ∧ jw (4 + l1_2) < 1089) <|
    jk (fun (M14 : jM) =>
      jbW (f_X10_number 0 2000 M14) fun v18 M17 =>
      jck (0 ≤ jw (954 + l1_2) ∧ jw (954 + l1_2) < 971) <|
      jlet (jst M17 172 (jw (954 + l1_2)) v18) fun M20 =>
      jck (0 ≤ jw 0 ∧ jw 0 < 1089) <|
      jck (0 ≤ jw 0 ∧ jw 0 < 1089) <|
      jlet (jst M20 171 (jw 0) ((M20 171 (jw 0)) + 1)) fun M23 =>
      some M23) fun (k15 : jM → Option (jM)) =>
    if jw (M12 171 (jw (4 + l1_2))) = jw 2 then (
      jbW (f_X10_takesWord 32 M12) fun v26 M25 =>
      if jw v26 = 0 then (
        jbV (f_X10_fails M25) fun M28 =>
        k15 M28)
      else (
        k15 M25))
    else (
      k15 M12)) fun (k10 : Int → jM → Option (jM)) =>
  if jw v7 = 0 then (
    jbW (f_X10_takesWord 31 M6) fun v31 M30 =>
    if jw v31 = 0 then (
      k10 2 M30)
    else (
      k10 1 M30))
  else (
    k10 0 M6)
def f_X10_tryAt (l0 : Int) (l1 : Int) : Option (Int) :=
  some ((12 * l0) + l1)
def f_X10_callTold (M : jM) : Option (Int × jM) :=
  jbW (f_X10_isWord 53 M) fun v3 M2 =>
  if jw v3 = 0 then (
    jbW (f_X10_isWord 54 M2) fun v6 M5 =>
    if jw v6 = 0 then (
      jbW (f_X10_isWord 55 M5) fun v9 M8 =>
      if jw v9 = 0 then (
        some ((-1), M8))
      else (
        some (2, M8)))
    else (
      some (1, M5)))
  else (
    some (0, M2))
def f_X10_doLine (M : jM) : Option (jM) :=
  jck (0 ≤ jw 1 ∧ jw 1 < 1089) <|
  jlet (((M 171 (jw 1)) - 1)) fun l1_2 =>
  jck (0 ≤ jw (116 + l1_2) ∧ jw (116 + l1_2) < 1089) <|
  jlet ((M 171 (jw (116 + l1_2)))) fun l2_4 =>
  jbR (f_X10_tryAt l1_2 l2_4) fun v6 =>
  jbW (f_X10_elementTold 0 M) fun v9 M8 =>
  jck (0 ≤ jw (266 + (3 * v6)) ∧ jw (266 + (3 * v6)) < 1089) <|
  jlet (jst M8 171 (jw (266 + (3 * v6))) v9) fun M11 =>
  jlp2 (fun (self14 : Int → jM → Option (jM)) (l4_12 : Int) (M13 : jM) =>
    jbW (f_X10_isSign 43 M13) fun v17 M16 =>
    if jw v17 = 0 then (
      jck (0 ≤ jw (194 + v6) ∧ jw (194 + v6) < 1089) <|
      jlet (jst M16 171 (jw (194 + v6)) l4_12) fun M19 =>
      jk (fun (s3_20 : Int) =>
        jbW (f_X10_number s3_20 600 M19) fun v24 M23 =>
        jck (0 ≤ jw (122 + v6) ∧ jw (122 + v6) < 1089) <|
        jlet (jst M23 171 (jw (122 + v6)) v24) fun M26 =>
        jbV (f_X10_letters (0 + (9 * v6)) 5 M26) fun M28 =>
        jck (0 ≤ jw (810 + v6) ∧ jw (810 + v6) < 971) <|
        jlet (jst M28 172 (jw (810 + v6)) 0) fun M30 =>
        jbW (f_X10_callTold M30) fun v33 M32 =>
        jlp2 (fun (self36 : Int → jM → Option (jM)) (l5_34 : Int) (M35 : jM) =>
          if jw l5_34 = jw (-1) then (
            jck (0 ≤ jw (116 + l1_2) ∧ jw (116 + l1_2) < 1089) <|
            jck (0 ≤ jw (116 + l1_2) ∧ jw (116 + l1_2) < 1089) <|
            jlet (jst M35 171 (jw (116 + l1_2)) ((M35 171 (jw (116 + l1_2))) + 1)) fun M39 =>
            jlet (jst M39 166 14 1) fun M40 =>
            some M40)
          else (
            jck (0 ≤ jw (810 + v6) ∧ jw (810 + v6) < 971) <|
            jbR (f_X10_isIn (M35 172 (jw (810 + v6))) l5_34) fun v43 =>
            if jw v43 = 0 then (
              jck (0 ≤ jw (810 + v6) ∧ jw (810 + v6) < 971) <|
              jck (0 ≤ jw (810 + v6) ∧ jw (810 + v6) < 971) <|
              jlet (jst M35 172 (jw (810 + v6)) (jor (M35 172 (jw (810 + v6))) (jsl 1 l5_34))) fun M46 =>
              jbW (f_X10_wordMany M46) fun v49 M48 =>
              jlet (jst M48 166 4 ((M46 166 4) + v49)) fun M50 =>
              jbW (f_X10_callTold M50) fun v53 M52 =>
              self36 v53 M52)
            else (
              jbV (f_X10_fails M35) fun M55 =>
              some M55))) jfuel v33 M32) fun (k21 : Int → Option (jM)) =>
      if jw l2_4 = 0 then (
        k21 0)
      else (
        jck (0 ≤ jw ((122 + v6) - 1) ∧ jw ((122 + v6) - 1) < 1089) <|
        k21 (M19 171 (jw ((122 + v6) - 1)))))
    else (
      jk (
        jbV (f_X10_fails M16) fun M59 =>
        some M59) fun (k57 : Option (jM)) =>
      if jw l4_12 = jw 3 then (
        k57)
      else (
        jck (0 ≤ jw (((266 + (3 * v6)) + l4_12) - 1) ∧ jw (((266 + (3 * v6)) + l4_12) - 1) < 1089) <|
        jck (0 ≤ jw (4 + (M16 171 (jw (((266 + (3 * v6)) + l4_12) - 1)))) ∧ jw (4 + (M16 171 (jw (((266 + (3 * v6)) + l4_12) - 1)))) < 1089) <|
        if jw (M16 171 (jw (4 + (M16 171 (jw (((266 + (3 * v6)) + l4_12) - 1)))))) = 0 then (
          jlet (jst M16 166 4 ((M16 166 4) + 1)) fun M62 =>
          jbW (f_X10_elementTold 1 M62) fun v65 M64 =>
          jck (0 ≤ jw ((266 + (3 * v6)) + l4_12) ∧ jw ((266 + (3 * v6)) + l4_12) < 1089) <|
          jlet (jst M64 171 (jw ((266 + (3 * v6)) + l4_12)) v65) fun M67 =>
          jlet (l4_12 + 1) fun l4_68 =>
          self14 l4_68 M67)
        else (
          k57)))) jfuel 1 M11
def f_X10_begins (l1 : Int) (l2 : Int) (M : jM) : Option (Int × jM) :=
  jbW (f_X10_isWord l1 M) fun v3 M2 =>
  if jw v3 = 0 then (
    some (0, M2))
  else (
    if jw l2 = 0 then (
      jbV (f_X10_fails M2) fun M6 =>
      some (1, M6))
    else (
      jlet (jst M2 166 4 ((M2 166 4) + (jsln l1))) fun M4 =>
      some (1, M4)))
def f_X10_all (M : jM) : Option (jM) :=
  jck (0 ≤ jw 2 ∧ jw 2 < 1089) <|
  jlet (jst M 166 15 ((jsl 1 (M 169 (jw 2))) - 1)) fun M2 =>
  jlet (jst M2 166 16 600) fun M3 =>
  jlet (jst M3 166 17 (-1)) fun M4 =>
  jlet (jst M4 166 19 (-1)) fun M5 =>
  jlet (jst M5 166 22 0) fun M6 =>
  some M6
def f_X10_is (l1 : Int) (l2 : Int) (M : jM) : Option (Int) :=
  jck (0 ≤ jw (116 + l1) ∧ jw (116 + l1) < 1089) <|
  jbR (f_X10_in l2 0 ((M 169 (jw (116 + l1))) - 1)) fun v3 =>
  if jw v3 = 0 then (
    some 0)
  else (
    jbR (f_X10_tryAt l1 l2) fun v5 =>
    jck (0 ≤ jw (882 + v5) ∧ jw (882 + v5) < 971) <|
    if jw (M 170 (jw (882 + v5))) = 0 then (
      jbR (f_X10_tryAt l1 l2) fun v8 =>
      jck (0 ≤ jw (122 + v8) ∧ jw (122 + v8) < 1089) <|
      if jw (M 166 16) < jw (M 169 (jw (122 + v8))) then (
        some 0)
      else (
        some 1))
    else (
      some 0))
def f_X10_elementOf (l1 : Int) (l2 : Int) (l3 : Int) (M : jM) : Option (Int) :=
  jbR (f_X10_tryAt l1 l2) fun v2 =>
  jck (0 ≤ jw ((266 + (3 * v2)) + l3) ∧ jw ((266 + (3 * v2)) + l3) < 1089) <|
  some (M 169 (jw ((266 + (3 * v2)) + l3)))
def f_X10_elementsOf (l1 : Int) (l2 : Int) (M : jM) : Option (Int) :=
  jbR (f_X10_tryAt l1 l2) fun v2 =>
  jck (0 ≤ jw (194 + v2) ∧ jw (194 + v2) < 1089) <|
  some (M 169 (jw (194 + v2)))
def f_X10_isJump (l1 : Int) (M : jM) : Option (Int) :=
  jck (0 ≤ jw (4 + l1) ∧ jw (4 + l1) < 1089) <|
  if jw (M 169 (jw (4 + l1))) = 0 then (
    some 1)
  else (
    some 0)
def f_X10_callsOf (l1 : Int) (l2 : Int) (M : jM) : Option (Int) :=
  if jw (M 166 22) = 0 then (
    jbR (f_X10_tryAt l1 l2) fun v2 =>
    jck (0 ≤ jw (810 + v2) ∧ jw (810 + v2) < 971) <|
    some (M 170 (jw (810 + v2))))
  else (
    some 0)
def f_X10_isLate (l1 : Int) (l2 : Int) (M : jM) : Option (Int) :=
  if jw l1 = jw (M 166 17) then (
    jbR (f_X10_isIn (M 166 18) l2) fun v10 =>
    jck (jw v10 = 0 ∨ jw v10 = 1) <| some v10)
  else (
    jbR (f_X10_elementOf l1 l2 0 M) fun v2 =>
    jbR (f_X10_isJump v2 M) fun v4 =>
    if jw v4 = 0 then (
      some 0)
    else (
      jbR (f_X10_tryAt l1 l2) fun v6 =>
      jck (0 ≤ jw (122 + v6) ∧ jw (122 + v6) < 1089) <|
      jck (0 ≤ jw 965 ∧ jw 965 < 971) <|
      if jw (M 169 (jw (122 + v6))) < jw (M 170 (jw 965)) then (
        some 0)
      else (
        some 1)))
def f_X10_gradeBy (l1 : Int) (l2 : Int) (l3 : Int) (M : jM) : Option (Int) :=
  jk (
    jbR (f_X10_tryAt l1 l2) fun v3 =>
    jck (0 ≤ jw ((0 + (9 * v3)) + l3) ∧ jw ((0 + (9 * v3)) + l3) < 971) <|
    some (M 170 (jw ((0 + (9 * v3)) + l3)))) fun (k1 : Option (Int)) =>
  if jw l1 = jw (M 166 19) then (
    if jw l2 = jw (M 166 20) then (
      some (M 166 21))
    else (
      k1))
  else (
    k1)
def f_X10_trimmed (l1 : Int) (M : jM) : Option (Int × jM) :=
  jlp2 (fun (self3 : Int → jM → Option (Int × jM)) (l2_1 : Int) (M2 : jM) =>
    if jw l1 ≤ jw l2_1 then (
      jck (0 ≤ jw 964 ∧ jw 964 < 971) <|
      jbR (f_J9_min_7cf53 (M2 170 (jw 964)) ((jw (l1 - 1)).tdiv (jw 2))) fun v6 =>
      jlp2 (fun (self9 : Int → Int → Option (Int × jM)) (l3_7 : Int) (l4_8 : Int) =>
        if jw (l1 - v6) ≤ jw l4_8 then (
          jbR (f_J9_floorDiv_7cf53 (100 * l3_7) (l1 - (2 * v6))) fun v11 =>
          some (v11, M2))
        else (
          jck (0 ≤ jw l4_8 ∧ jw l4_8 < 9) <|
          jlet ((l3_7 + (M2 173 (jw l4_8)))) fun l3_13 =>
          jlet (l4_8 + 1) fun l4_14 =>
          self9 l3_13 l4_14)) jfuel 0 v6)
    else (
      jlp2 (fun (self17 : Int → jM → Option (Int × jM)) (l3_15 : Int) (M16 : jM) =>
        if jw l3_15 ≤ 0 then (
          jlet (l2_1 + 1) fun l2_18 =>
          self3 l2_18 M16)
        else (
          jck (0 ≤ jw (l3_15 - 1) ∧ jw (l3_15 - 1) < 9) <|
          jck (0 ≤ jw l3_15 ∧ jw l3_15 < 9) <|
          if jw (M16 173 (jw (l3_15 - 1))) ≤ jw (M16 173 (jw l3_15)) then (
            jlet (l2_1 + 1) fun l2_21 =>
            self3 l2_21 M16)
          else (
            jck (0 ≤ jw l3_15 ∧ jw l3_15 < 9) <|
            jlet ((M16 173 (jw l3_15))) fun l4_23 =>
            jck (0 ≤ jw (l3_15 - 1) ∧ jw (l3_15 - 1) < 9) <|
            jck (0 ≤ jw l3_15 ∧ jw l3_15 < 9) <|
            jlet (jst M16 173 (jw l3_15) (M16 173 (jw (l3_15 - 1)))) fun M26 =>
            jck (0 ≤ jw (l3_15 - 1) ∧ jw (l3_15 - 1) < 9) <|
            jlet (jst M26 173 (jw (l3_15 - 1)) l4_23) fun M28 =>
            jlet (l3_15 + (-1)) fun l3_29 =>
            self17 l3_29 M28))) jfuel l2_1 M2)) jfuel 1 M
def f_X10_meanOf (l1 : Int) (l2 : Int) (M : jM) : Option (Int × jM) :=
  jlp3 (fun (self4 : Int → Int → jM → Option (Int × jM)) (l3_1 : Int) (l4_2 : Int) (M3 : jM) =>
    jck (0 ≤ jw 2 ∧ jw 2 < 1089) <|
    if jw (M3 169 (jw 2)) ≤ jw l4_2 then (
      jbW (f_X10_trimmed l3_1 M3) fun v8 M7 =>
      some (v8, M7))
    else (
      jbR (f_X10_isIn (M3 166 15) l4_2) fun v10 =>
      if jw v10 = 0 then (
        jlet (l4_2 + 1) fun l4_17 =>
        self4 l3_1 l4_17 M3)
      else (
        jbR (f_X10_gradeBy l1 l2 l4_2 M3) fun v12 =>
        jck (0 ≤ jw l3_1 ∧ jw l3_1 < 9) <|
        jlet (jst M3 173 (jw l3_1) v12) fun M14 =>
        jlet (l3_1 + 1) fun l3_15 =>
        jlet (l4_2 + 1) fun l4_16 =>
        self4 l3_15 l4_16 M14))) jfuel 0 0 M
def f_X10_markAt (l1 : Int) (l2 : Int) (l3 : Int) : Option (Int) :=
  some ((648 + (9 * ((3 * l1) + l2))) + l3)
def f_X10_componentOf (l1 : Int) (l2 : Int) (M : jM) : Option (Int × jM) :=
  jlp3 (fun (self4 : Int → Int → jM → Option (Int × jM)) (l3_1 : Int) (l4_2 : Int) (M3 : jM) =>
    jck (0 ≤ jw 2 ∧ jw 2 < 1089) <|
    if jw (M3 169 (jw 2)) ≤ jw l4_2 then (
      jbW (f_X10_trimmed l3_1 M3) fun v8 M7 =>
      jck (0 ≤ jw (968 + l2) ∧ jw (968 + l2) < 971) <|
      some (((jw (v8 * (M7 170 (jw (968 + l2))))).tdiv (jw 100)), M7))
    else (
      jbR (f_X10_isIn (M3 166 15) l4_2) fun v11 =>
      if jw v11 = 0 then (
        jlet (l4_2 + 1) fun l4_19 =>
        self4 l3_1 l4_19 M3)
      else (
        jbR (f_X10_markAt l1 l2 l4_2) fun v13 =>
        jck (0 ≤ jw v13 ∧ jw v13 < 971) <|
        jck (0 ≤ jw l3_1 ∧ jw l3_1 < 9) <|
        jlet (jst M3 173 (jw l3_1) (M3 170 (jw v13))) fun M16 =>
        jlet (l3_1 + 1) fun l3_17 =>
        jlet (l4_2 + 1) fun l4_18 =>
        self4 l3_17 l4_18 M16))) jfuel 0 0 M
def f_X10_stoodAhead (l1 : Int) (l2 : Int) (l3 : Int) (M : jM) : Option (Int) :=
  jbR (f_X10_elementOf l1 l2 l3 M) fun v2 =>
  jlp2 (fun (self5 : Int → Int → Option (Int)) (l4_3 : Int) (l6_4 : Int) =>
    if jw l2 < jw l6_4 then (
      some l4_3)
    else (
      jbR (f_X10_is l1 l6_4 M) fun v7 =>
      if jw v7 = 0 then (
        jlet (l6_4 + 1) fun l6_22 =>
        self5 l4_3 l6_22)
      else (
        jlp2 (fun (self10 : Int → Int → Option (Int)) (l4_8 : Int) (l7_9 : Int) =>
          jk (fun (s1_11 : Int) =>
            if jw s1_11 ≤ jw l7_9 then (
              jlet (l6_4 + 1) fun l6_13 =>
              self5 l4_8 l6_13)
            else (
              jbR (f_X10_elementOf l1 l6_4 l7_9 M) fun v15 =>
              jk (fun (s1_16 : Int) =>
                jlet ((l4_8 + s1_16)) fun l4_18 =>
                jlet (l7_9 + 1) fun l7_19 =>
                self10 l4_18 l7_19) fun (k17 : Int → Option (Int)) =>
              if jw v15 = jw v2 then (
                k17 1)
              else (
                k17 0))) fun (k12 : Int → Option (Int)) =>
          if jw l6_4 = jw l2 then (
            k12 l3)
          else (
            jbR (f_X10_elementsOf l1 l6_4 M) fun v21 =>
            k12 v21)) jfuel l4_3 0))) jfuel 0 0
def f_X10_isStruck (l1 : Int) (l2 : Int) (l3 : Int) (M : jM) : Option (Int) :=
  jbR (f_X10_stoodAhead l1 l2 l3 M) fun v2 =>
  jbR (f_X10_elementOf l1 l2 l3 M) fun v4 =>
  jbR (f_X10_isJump v4 M) fun v6 =>
  jk (fun (s1_7 : Int) =>
    if jw v2 < jw s1_7 then (
      some 0)
    else (
      some 1)) fun (k8 : Int → Option (Int)) =>
  if jw v6 = 0 then (
    k8 1)
  else (
    jck (0 ≤ jw 967 ∧ jw 967 < 971) <|
    k8 (M 170 (jw 967)))
def f_X10_struckOf (l1 : Int) (l2 : Int) (M : jM) : Option (Int) :=
  jlp2 (fun (self3 : Int → Int → Option (Int)) (l3_1 : Int) (l4_2 : Int) =>
    jbR (f_X10_elementsOf l1 l2 M) fun v5 =>
    if jw v5 ≤ jw l4_2 then (
      some l3_1)
    else (
      jbR (f_X10_isStruck l1 l2 l4_2 M) fun v7 =>
      jk (fun (s1_8 : Int) =>
        jlet ((jor l3_1 s1_8)) fun l3_10 =>
        jlet (l4_2 + 1) fun l4_11 =>
        self3 l3_10 l4_11) fun (k9 : Int → Option (Int)) =>
      if jw v7 = 0 then (
        k9 0)
      else (
        k9 (jsl 1 l4_2)))) jfuel 0 0
def f_X10_worthOf (l1 : Int) (l2 : Int) (M : jM) : Option (Int) :=
  jlp2 (fun (self3 : Int → Int → Option (Int)) (l3_1 : Int) (l4_2 : Int) =>
    jbR (f_X10_elementsOf l1 l2 M) fun v5 =>
    if jw v5 ≤ jw l4_2 then (
      jbR (f_X10_callsOf l1 l2 M) fun v7 =>
      jbR (f_X10_isIn v7 0) fun v9 =>
      jk (fun (l3_10 : Int) =>
        jbR (f_X10_callsOf l1 l2 M) fun v13 =>
        jbR (f_X10_isIn v13 1) fun v15 =>
        jk (fun (l3_16 : Int) =>
          jbR (f_X10_isLate l1 l2 M) fun v19 =>
          if jw v19 = 0 then (
            some l3_16)
          else (
            jck (0 ≤ jw 966 ∧ jw 966 < 971) <|
            some (l3_16 + ((jw (l3_16 * (M 170 (jw 966)))).tdiv (jw 100))))) fun (k17 : Int → Option (Int)) =>
        if jw v15 = 0 then (
          k17 l3_10)
        else (
          jlet (((jw (l3_10 * 7)).tdiv (jw 10))) fun l3_21 =>
          k17 l3_21)) fun (k11 : Int → Option (Int)) =>
      if jw v9 = 0 then (
        k11 l3_1)
      else (
        jlet (((jw (l3_1 * 8)).tdiv (jw 10))) fun l3_22 =>
        k11 l3_22))
    else (
      jbR (f_X10_isStruck l1 l2 l4_2 M) fun v24 =>
      jk (fun (s1_25 : Int) =>
        jlet ((l3_1 + s1_25)) fun l3_27 =>
        jlet (l4_2 + 1) fun l4_28 =>
        self3 l3_27 l4_28) fun (k26 : Int → Option (Int)) =>
      if jw v24 = 0 then (
        jbR (f_X10_elementOf l1 l2 l4_2 M) fun v30 =>
        jck (0 ≤ jw (954 + v30) ∧ jw (954 + v30) < 971) <|
        k26 (M 170 (jw (954 + v30))))
      else (
        k26 0))) jfuel 0 0
def f_X10_gainOf (l1 : Int) (l2 : Int) (M : jM) : Option (Int × jM) :=
  jlp2 (fun (self3 : Int → Int → Option (Int × jM)) (l3_1 : Int) (l4_2 : Int) =>
    jbR (f_X10_elementsOf l1 l2 M) fun v5 =>
    if jw v5 ≤ jw l4_2 then (
      jbW (f_X10_meanOf l1 l2 M) fun v8 M7 =>
      jbR (f_J9_floorDiv_7cf53 (l3_1 * v8) 1000) fun v10 =>
      some (v10, M7))
    else (
      jbR (f_X10_isStruck l1 l2 l4_2 M) fun v12 =>
      jk (fun (s0_13 : Int) =>
        jlet (l4_2 + 1) fun l4_15 =>
        self3 s0_13 l4_15) fun (k14 : Int → Option (Int × jM)) =>
      if jw v12 = 0 then (
        jbR (f_X10_elementOf l1 l2 l4_2 M) fun v17 =>
        jck (0 ≤ jw (954 + v17) ∧ jw (954 + v17) < 971) <|
        jbR (f_J9_max_7cf53 l3_1 (M 170 (jw (954 + v17)))) fun v20 =>
        k14 v20)
      else (
        k14 l3_1))) jfuel 0 0
def f_X10_pointsAt (l1 : Int) (l2 : Int) (M : jM) : Option (Int × jM) :=
  jbR (f_X10_worthOf l1 l2 M) fun v2 =>
  jbW (f_X10_gainOf l1 l2 M) fun v5 M4 =>
  some ((v2 + v5), M4)
def f_X10_pointsOf (l1 : Int) (M : jM) : Option (Int × jM) :=
  jlp3 (fun (self4 : Int → Int → jM → Option (Int × jM)) (l2_1 : Int) (l3_2 : Int) (M3 : jM) =>
    jck (0 ≤ jw (116 + l1) ∧ jw (116 + l1) < 1089) <|
    if jw (M3 169 (jw (116 + l1))) ≤ jw l3_2 then (
      some (l2_1, M3))
    else (
      jbR (f_X10_is l1 l3_2 M3) fun v7 =>
      jk (fun (s1_8 : Int) (M9 : jM) =>
        jlet ((l2_1 + s1_8)) fun l2_11 =>
        jlet (l3_2 + 1) fun l3_12 =>
        self4 l2_11 l3_12 M9) fun (k10 : Int → jM → Option (Int × jM)) =>
      if jw v7 = 0 then (
        k10 0 M3)
      else (
        jbW (f_X10_pointsAt l1 l3_2 M3) fun v15 M14 =>
        k10 v15 M14))) jfuel 0 0 M
def f_X10_shownOf (l1 : Int) (M : jM) : Option (Int × jM) :=
  jlp3 (fun (self4 : Int → Int → jM → Option (Int × jM)) (l2_1 : Int) (l3_2 : Int) (M3 : jM) =>
    if jw 3 ≤ jw l3_2 then (
      some (l2_1, M3))
    else (
      jbW (f_X10_componentOf l1 l3_2 M3) fun v7 M6 =>
      jlet ((l2_1 + v7)) fun l2_8 =>
      jlet (l3_2 + 1) fun l3_9 =>
      self4 l2_8 l3_9 M6)) jfuel 0 0 M
def f_X10_calledOf (l1 : Int) (l2 : Int) (M : jM) : Option (Int) :=
  jlp2 (fun (self3 : Int → Int → Option (Int)) (l3_1 : Int) (l4_2 : Int) =>
    jck (0 ≤ jw (116 + l1) ∧ jw (116 + l1) < 1089) <|
    if jw (M 169 (jw (116 + l1))) ≤ jw l4_2 then (
      some l3_1)
    else (
      jbR (f_X10_is l1 l4_2 M) fun v6 =>
      jk (fun (s1_7 : Int) =>
        jlet ((l3_1 + s1_7)) fun l3_9 =>
        jlet (l4_2 + 1) fun l4_10 =>
        self3 l3_9 l4_10) fun (k8 : Int → Option (Int)) =>
      jk (
        k8 0) fun (k11 : Option (Int)) =>
      if jw v6 = 0 then (
        k11)
      else (
        jbR (f_X10_callsOf l1 l4_2 M) fun v13 =>
        jbR (f_X10_isIn v13 l2) fun v15 =>
        if jw v15 = 0 then (
          k11)
        else (
          k8 1)))) jfuel 0 0
def f_X10_elementsBy (l1 : Int) (l2 : Int) (M : jM) : Option (Int) :=
  jlp2 (fun (self3 : Int → Int → Option (Int)) (l3_1 : Int) (l4_2 : Int) =>
    jck (0 ≤ jw (116 + l1) ∧ jw (116 + l1) < 1089) <|
    if jw (M 169 (jw (116 + l1))) ≤ jw l4_2 then (
      some l3_1)
    else (
      jbR (f_X10_is l1 l4_2 M) fun v6 =>
      if jw v6 = 0 then (
        jlet (l4_2 + 1) fun l4_22 =>
        self3 l3_1 l4_22)
      else (
        jlp2 (fun (self9 : Int → Int → Option (Int)) (l3_7 : Int) (l5_8 : Int) =>
          jbR (f_X10_elementsOf l1 l4_2 M) fun v11 =>
          if jw v11 ≤ jw l5_8 then (
            jlet (l4_2 + 1) fun l4_12 =>
            self3 l3_7 l4_12)
          else (
            jk (fun (s1_13 : Int) =>
              jlet ((l3_7 + s1_13)) fun l3_15 =>
              jlet (l5_8 + 1) fun l5_16 =>
              self9 l3_15 l5_16) fun (k14 : Int → Option (Int)) =>
            if jw l2 = jw 3 then (
              jbR (f_X10_isStruck l1 l4_2 l5_8 M) fun v21 =>
              if jw v21 = 0 then (
                k14 0)
              else (
                k14 1))
            else (
              jbR (f_X10_elementOf l1 l4_2 l5_8 M) fun v18 =>
              jck (0 ≤ jw (4 + v18) ∧ jw (4 + v18) < 1089) <|
              if jw (M 169 (jw (4 + v18))) = jw l2 then (
                k14 1)
              else (
                k14 0)))) jfuel l3_1 0))) jfuel 0 0
def f_X10_triesOf (l1 : Int) (l2 : Int) (M : jM) : Option (Int) :=
  jlp2 (fun (self3 : Int → Int → Option (Int)) (l3_1 : Int) (l4_2 : Int) =>
    jck (0 ≤ jw (116 + l1) ∧ jw (116 + l1) < 1089) <|
    if jw (M 169 (jw (116 + l1))) ≤ jw l4_2 then (
      some l3_1)
    else (
      jbR (f_X10_is l1 l4_2 M) fun v6 =>
      jk (fun (s1_7 : Int) =>
        jlet ((l3_1 + s1_7)) fun l3_9 =>
        jlet (l4_2 + 1) fun l4_10 =>
        self3 l3_9 l4_10) fun (k8 : Int → Option (Int)) =>
      jk (
        k8 0) fun (k11 : Option (Int)) =>
      if jw v6 = 0 then (
        k11)
      else (
        jk (
          k8 1) fun (k12 : Option (Int)) =>
        if jw l2 = 0 then (
          k12)
        else (
          jbR (f_X10_isLate l1 l4_2 M) fun v14 =>
          if jw v14 = 0 then (
            k11)
          else (
            k12))))) jfuel 0 0
def f_X10_wordBy (l1 : Int) (l2 : Int) (M : jM) : Option (Int) :=
  if jw l2 < 0 ∨ 7 < jw l2 then (
    jbR (f_X10_calledOf l1 (l2 - 8) M) fun v2 =>
    some v2)
  else if jw l2 = 0 then (
    jbR (f_X10_calledOf l1 2 M) fun v4 =>
    some v4)
  else if jw l2 = 1 then (
    jck (0 ≤ jw (110 + l1) ∧ jw (110 + l1) < 1089) <|
    some (M 169 (jw (110 + l1))))
  else if jw l2 = 2 then (
    jbR (f_X10_triesOf l1 0 M) fun v7 =>
    some v7)
  else if jw l2 = 3 then (
    jbR (f_X10_elementsBy l1 (l2 - 3) M) fun v9 =>
    some v9)
  else if jw l2 = 4 then (
    jbR (f_X10_elementsBy l1 (l2 - 3) M) fun v11 =>
    some v11)
  else if jw l2 = 5 then (
    jbR (f_X10_elementsBy l1 (l2 - 3) M) fun v13 =>
    some v13)
  else if jw l2 = 6 then (
    jbR (f_X10_triesOf l1 1 M) fun v15 =>
    some v15)
  else (
    jbR (f_X10_elementsBy l1 3 M) fun v17 =>
    some v17)
def f_X10_held (l0 : Int) : Option (Int) :=
  jbR (f_J9_min_f86c9 1000000 l0) fun v2 =>
  jbR (f_J9_max_f86c9 (-1000000) v2) fun v4 =>
  some v4
def f_X10_worked (l0 : Int) (l1 : Int) (l3 : Int) : Option (Int) :=
  if jw l0 < 10001 ∨ 10008 < jw l0 then (
    if jw (jcmp l3 1) = 0 then (
      some l1)
    else (
      some 0))
  else if jw l0 = 10001 then (
    jbR (f_X10_held (l1 + l3)) fun v2 =>
    some v2)
  else if jw l0 = 10002 then (
    jbR (f_X10_held (l1 - l3)) fun v4 =>
    some v4)
  else if jw l0 = 10003 then (
    jbR (f_X10_held (l1 * l3)) fun v6 =>
    some v6)
  else if jw l0 = 10004 then (
    if 0 ≤ jw (jcmp l1 l3) then (
      some 0)
    else (
      some 1))
  else if jw l0 = 10005 then (
    if jw (jcmp l1 l3) = 0 then (
      some 1)
    else (
      some 0))
  else if jw l0 = 10006 then (
    if jw (jcmp l1 l3) ≤ 0 then (
      some 0)
    else (
      some 1))
  else if jw l0 = 10007 then (
    some (l1 * l3))
  else (
    jbR (f_J9_max_f86c9 l1 l3) fun v8 =>
    some v8)
def f_X10_ruleOf (l1 : Int) (l2 : Int) (M : jM) : Option (Int × jM) :=
  jck (0 ≤ jw (482 + l2) ∧ jw (482 + l2) < 1089) <|
  jlet ((M 169 (jw (482 + l2)))) fun l4_2 =>
  jlp3 (fun (self6 : Int → Int → jM → Option (Int × jM)) (l3_3 : Int) (l4_4 : Int) (M5 : jM) =>
    jck (0 ≤ jw ((482 + l2) + 1) ∧ jw ((482 + l2) + 1) < 1089) <|
    if jw (M5 169 (jw ((482 + l2) + 1))) ≤ jw l4_4 then (
      jck (0 ≤ jw 0 ∧ jw 0 < 600) <|
      jbR (f_J9_min_f86c9 9999 (M5 174 (jw 0))) fun v10 =>
      jbR (f_J9_max_f86c9 0 v10) fun v12 =>
      some (v12, M5))
    else (
      jck (0 ≤ jw (489 + l4_4) ∧ jw (489 + l4_4) < 1089) <|
      jlet ((M5 169 (jw (489 + l4_4)))) fun l5_14 =>
      jk (
        jk (fun (s2_16 : Int) =>
          jck (0 ≤ jw l3_3 ∧ jw l3_3 < 600) <|
          jlet (jst M5 174 (jw l3_3) s2_16) fun M19 =>
          jlet (l3_3 + 1) fun l3_20 =>
          jlet (l4_4 + 1) fun l4_21 =>
          self6 l3_20 l4_21 M19) fun (k17 : Int → Option (Int × jM)) =>
        if jw l5_14 < jw 10020 then (
          k17 (jw l5_14))
        else (
          jbR (f_X10_wordBy l1 (l5_14 - 10020) M5) fun v23 =>
          k17 (jw v23))) fun (k15 : Option (Int × jM)) =>
      if jw l5_14 ≤ jw 9999 then (
        k15)
      else (
        if jw l5_14 < jw 10020 then (
          jlet (l3_3 + (-1)) fun l3_24 =>
          jck (0 ≤ jw (l3_24 - 1) ∧ jw (l3_24 - 1) < 600) <|
          jck (0 ≤ jw l3_24 ∧ jw l3_24 < 600) <|
          jbR (f_X10_worked l5_14 (M5 174 (jw (l3_24 - 1))) (M5 174 (jw l3_24))) fun v28 =>
          jck (0 ≤ jw (l3_24 - 1) ∧ jw (l3_24 - 1) < 600) <|
          jlet (jst M5 174 (jw (l3_24 - 1)) v28) fun M30 =>
          jlet (l4_4 + 1) fun l4_31 =>
          self6 l3_24 l4_31 M30)
        else (
          k15)))) jfuel 0 l4_2 M
def f_X10_deductedOf (l1 : Int) (M : jM) : Option (Int × jM) :=
  jlp3 (fun (self4 : Int → Int → jM → Option (Int × jM)) (l2_1 : Int) (l3_2 : Int) (M3 : jM) =>
    jck (0 ≤ jw 3 ∧ jw 3 < 1089) <|
    if jw (M3 169 (jw 3)) ≤ jw l3_2 then (
      some (l2_1, M3))
    else (
      jbW (f_X10_ruleOf l1 l3_2 M3) fun v8 M7 =>
      jlet ((l2_1 + v8)) fun l2_9 =>
      jlet (l3_2 + 1) fun l3_10 =>
      self4 l2_9 l3_10 M7)) jfuel 0 0 M
def f_X10_totalOf (l1 : Int) (M : jM) : Option (Int × jM) :=
  jbW (f_X10_pointsOf l1 M) fun v3 M2 =>
  jbW (f_X10_shownOf l1 M2) fun v6 M5 =>
  jbR (f_X10_calledOf l1 2 M5) fun v8 =>
  jbW (f_X10_deductedOf l1 M5) fun v11 M10 =>
  jbR (f_J9_max_7cf53 0 (((v3 + v6) - (100 * v8)) - v11)) fun v13 =>
  some (v13, M10)
def f_X10_laysTotals (M : jM) : Option (jM) :=
  jlp2 (fun (self3 : Int → jM → Option (jM)) (l1_1 : Int) (M2 : jM) =>
    jck (0 ≤ jw 1 ∧ jw 1 < 1089) <|
    if jw (M2 169 (jw 1)) ≤ jw l1_1 then (
      some M2)
    else (
      jbW (f_X10_totalOf l1_1 M2) fun v7 M6 =>
      jck (0 ≤ jw l1_1 ∧ jw l1_1 < 6) <|
      jlet (jst M6 175 (jw l1_1) v7) fun M9 =>
      jbW (f_X10_pointsOf l1_1 M9) fun v12 M11 =>
      jck (0 ≤ jw l1_1 ∧ jw l1_1 < 6) <|
      jlet (jst M11 176 (jw l1_1) v12) fun M14 =>
      jlet (l1_1 + 1) fun l1_15 =>
      self3 l1_15 M14)) jfuel 0 M
def f_X10_isAhead (l1 : Int) (l2 : Int) (M : jM) : Option (Int) :=
  jck (0 ≤ jw l1 ∧ jw l1 < 6) <|
  jck (0 ≤ jw l2 ∧ jw l2 < 6) <|
  if jw (M 175 (jw l1)) = jw (M 175 (jw l2)) then (
    jck (0 ≤ jw l1 ∧ jw l1 < 6) <|
    jck (0 ≤ jw l2 ∧ jw l2 < 6) <|
    if jw (M 176 (jw l1)) = jw (M 176 (jw l2)) then (
      if jw l2 ≤ jw l1 then (
        some 0)
      else (
        some 1))
    else (
      jck (0 ≤ jw l1 ∧ jw l1 < 6) <|
      jck (0 ≤ jw l2 ∧ jw l2 < 6) <|
      if jw (M 176 (jw l1)) ≤ jw (M 176 (jw l2)) then (
        some 0)
      else (
        some 1)))
  else (
    jck (0 ≤ jw l1 ∧ jw l1 < 6) <|
    jck (0 ≤ jw l2 ∧ jw l2 < 6) <|
    if jw (M 175 (jw l1)) ≤ jw (M 175 (jw l2)) then (
      some 0)
    else (
      some 1))
def f_X10_rankOf (l1 : Int) (M : jM) : Option (Int) :=
  jlp2 (fun (self3 : Int → Int → Option (Int)) (l2_1 : Int) (l3_2 : Int) =>
    jck (0 ≤ jw 1 ∧ jw 1 < 1089) <|
    if jw (M 169 (jw 1)) ≤ jw l3_2 then (
      some l2_1)
    else (
      jk (fun (s1_5 : Int) =>
        jlet ((l2_1 + s1_5)) fun l2_7 =>
        jlet (l3_2 + 1) fun l3_8 =>
        self3 l2_7 l3_8) fun (k6 : Int → Option (Int)) =>
      jk (
        k6 0) fun (k9 : Option (Int)) =>
      if jw l3_2 = jw l1 then (
        k9)
      else (
        jbR (f_X10_isAhead l3_2 l1 M) fun v11 =>
        if jw v11 = 0 then (
          k9)
        else (
          k6 1)))) jfuel 0 0
def f_X10_rankedAt (l1 : Int) (M : jM) : Option (Int) :=
  jlp1 (fun (self2 : Int → Option (Int)) (l2_1 : Int) =>
    jck (0 ≤ jw 1 ∧ jw 1 < 1089) <|
    if jw (M 169 (jw 1)) ≤ jw l2_1 then (
      some (-1))
    else (
      jbR (f_X10_rankOf l2_1 M) fun v5 =>
      if jw v5 = jw l1 then (
        some l2_1)
      else (
        jlet (l2_1 + 1) fun l2_6 =>
        self2 l2_6))) jfuel 0
def f_X10_noSkater (l1 : Int) (M : jM) : Option (Int × jM) :=
  jck (0 ≤ jw 1 ∧ jw 1 < 1089) <|
  jbR (f_X10_in l1 0 ((M 169 (jw 1)) - 1)) fun v3 =>
  jk (fun (s1_4 : Int) =>
    jbW (f_X10_throwsIf s1_4 1 M) fun v8 M7 =>
    jck (jw v8 = 0 ∨ jw v8 = 1) <| some (v8, M7)) fun (k5 : Int → Option (Int × jM)) =>
  if jw v3 = 0 then (
    k5 1)
  else (
    k5 0)
def f_X10_noTry (l1 : Int) (l2 : Int) (M : jM) : Option (Int × jM) :=
  jbV (f_X10_all M) fun M2 =>
  jbW (f_X10_noSkater l1 M2) fun v5 M4 =>
  if jw v5 = 0 then (
    jbR (f_X10_is l1 l2 M4) fun v7 =>
    jk (fun (s1_8 : Int) =>
      jbW (f_X10_throwsIf s1_8 1 M4) fun v12 M11 =>
      if jw v12 = 0 then (
        some (0, M11))
      else (
        some (1, M11))) fun (k9 : Int → Option (Int × jM)) =>
    if jw v7 = 0 then (
      k9 1)
    else (
      k9 0))
  else (
    some (1, M4))
def f_X10_noElement (l1 : Int) (M : jM) : Option (Int × jM) :=
  jck (0 ≤ jw 0 ∧ jw 0 < 1089) <|
  jbR (f_X10_in l1 0 ((M 169 (jw 0)) - 1)) fun v3 =>
  jk (fun (s1_4 : Int) =>
    jbW (f_X10_throwsIf s1_4 1 M) fun v8 M7 =>
    jck (jw v8 = 0 ∨ jw v8 = 1) <| some (v8, M7)) fun (k5 : Int → Option (Int × jM)) =>
  if jw v3 = 0 then (
    k5 1)
  else (
    k5 0)
def f_X10_noJudge (l1 : Int) (M : jM) : Option (Int × jM) :=
  jck (0 ≤ jw 2 ∧ jw 2 < 1089) <|
  jbR (f_X10_in l1 0 ((M 169 (jw 2)) - 1)) fun v3 =>
  jk (fun (s1_4 : Int) =>
    jbW (f_X10_throwsIf s1_4 1 M) fun v8 M7 =>
    jck (jw v8 = 0 ∨ jw v8 = 1) <| some (v8, M7)) fun (k5 : Int → Option (Int × jM)) =>
  if jw v3 = 0 then (
    k5 1)
  else (
    k5 0)
def f_X10_noComponent (l1 : Int) (M : jM) : Option (Int × jM) :=
  jbR (f_X10_in l1 0 2) fun v2 =>
  jk (fun (s1_3 : Int) =>
    jbW (f_X10_throwsIf s1_3 1 M) fun v7 M6 =>
    jck (jw v7 = 0 ∨ jw v7 = 1) <| some (v7, M6)) fun (k4 : Int → Option (Int × jM)) =>
  if jw v2 = 0 then (
    k4 1)
  else (
    k4 0)
def f_X10_name (l1 : Int) (l2 : Int) (l3 : Int) (M : jM) : Option (Int × jM) :=
  jlet (jst M 166 0 0) fun M1 =>
  jk (fun (M2 : jM) =>
    jbR (f_X10_in l3 0 5) fun v5 =>
    jk (fun (s0_6 : Int) =>
      if jw s0_6 = 0 then (
        some ((-1), M2))
      else (
        some (s0_6, M2))) fun (k7 : Int → Option (Int × jM)) =>
    if jw v5 = 0 then (
      k7 0)
    else (
      jk (fun (s1_8 : Int) =>
        jck (0 ≤ jw ((s1_8 + (6 * l2)) + l3) ∧ jw ((s1_8 + (6 * l2)) + l3) < 1089) <|
        k7 (M2 169 (jw ((s1_8 + (6 * l2)) + l3)))) fun (k9 : Int → Option (Int × jM)) =>
      if jw l1 = 0 then (
        k9 14)
      else (
        k9 74))) fun (k3 : jM → Option (Int × jM)) =>
  if jw l1 = 0 then (
    jbW (f_X10_noElement l2 M1) fun v13 M12 =>
    if jw v13 = 0 then (
      k3 M12)
    else (
      some (0, M12)))
  else (
    jbW (f_X10_noSkater l2 M1) fun v16 M15 =>
    if jw v16 = 0 then (
      k3 M15)
    else (
      some (0, M15)))
def f_X10_element (l1 : Int) (l2 : Int) (M : jM) : Option (Int × jM) :=
  jlet (jst M 166 0 0) fun M1 =>
  jbW (f_X10_noElement l1 M1) fun v4 M3 =>
  if jw v4 = 0 then (
    jbR (f_X10_in l2 0 1) fun v6 =>
    jk (fun (s1_7 : Int) =>
      jbW (f_X10_throwsIf s1_7 2 M3) fun v11 M10 =>
      if jw v11 = 0 then (
        if jw l2 = 0 then (
          jck (0 ≤ jw (954 + l1) ∧ jw (954 + l1) < 971) <|
          some ((M10 170 (jw (954 + l1))), M10))
        else (
          jck (0 ≤ jw (4 + l1) ∧ jw (4 + l1) < 1089) <|
          some ((M10 169 (jw (4 + l1))), M10)))
      else (
        some (0, M10))) fun (k8 : Int → Option (Int × jM)) =>
    if jw v6 = 0 then (
      k8 1)
    else (
      k8 0))
  else (
    some (0, M3))
def f_X10_attempt (l1 : Int) (l2 : Int) (l3 : Int) (M : jM) : Option (Int × jM) :=
  jlet (jst M 166 0 0) fun M1 =>
  jbW (f_X10_noTry l1 l2 M1) fun v4 M3 =>
  if jw v4 = 0 then (
    jbR (f_X10_in l3 0 10) fun v6 =>
    jk (fun (s1_7 : Int) =>
      jbW (f_X10_throwsIf s1_7 2 M3) fun v11 M10 =>
      if jw v11 = 0 then (
        if jw l3 < 0 ∨ 9 < jw l3 then (
          jbW (f_X10_pointsAt l1 l2 M10) fun v14 M13 =>
          some (v14, M13))
        else if jw l3 = 0 then (
          jbR (f_X10_tryAt l1 l2) fun v16 =>
          jck (0 ≤ jw (122 + v16) ∧ jw (122 + v16) < 1089) <|
          some ((M10 169 (jw (122 + v16))), M10))
        else if jw l3 = 1 then (
          jbR (f_X10_elementsOf l1 l2 M10) fun v19 =>
          some (v19, M10))
        else if jw l3 = 2 then (
          jbR (f_X10_elementsOf l1 l2 M10) fun v21 =>
          if jw v21 ≤ jw (l3 - 2) then (
            some ((-1), M10))
          else (
            jbR (f_X10_elementOf l1 l2 (l3 - 2) M10) fun v23 =>
            some (v23, M10)))
        else if jw l3 = 3 then (
          jbR (f_X10_elementsOf l1 l2 M10) fun v25 =>
          if jw v25 ≤ jw (l3 - 2) then (
            some ((-1), M10))
          else (
            jbR (f_X10_elementOf l1 l2 (l3 - 2) M10) fun v27 =>
            some (v27, M10)))
        else if jw l3 = 4 then (
          jbR (f_X10_elementsOf l1 l2 M10) fun v29 =>
          if jw v29 ≤ jw (l3 - 2) then (
            some ((-1), M10))
          else (
            jbR (f_X10_elementOf l1 l2 (l3 - 2) M10) fun v31 =>
            some (v31, M10)))
        else if jw l3 = 5 then (
          jbR (f_X10_callsOf l1 l2 M10) fun v33 =>
          some (v33, M10))
        else if jw l3 = 6 then (
          jbR (f_X10_isLate l1 l2 M10) fun v35 =>
          if jw v35 = 0 then (
            some (0, M10))
          else (
            some (1, M10)))
        else if jw l3 = 7 then (
          jbR (f_X10_struckOf l1 l2 M10) fun v37 =>
          some (v37, M10))
        else if jw l3 = 8 then (
          jbR (f_X10_worthOf l1 l2 M10) fun v39 =>
          some (v39, M10))
        else (
          jbW (f_X10_gainOf l1 l2 M10) fun v42 M41 =>
          some (v42, M41)))
      else (
        some (0, M10))) fun (k8 : Int → Option (Int × jM)) =>
    if jw v6 = 0 then (
      k8 1)
    else (
      k8 0))
  else (
    some (0, M3))
def f_X10_grade (l1 : Int) (l2 : Int) (l3 : Int) (M : jM) : Option (Int × jM) :=
  jlet (jst M 166 0 0) fun M1 =>
  jbW (f_X10_noTry l1 l2 M1) fun v4 M3 =>
  if jw v4 = 0 then (
    jbW (f_X10_noJudge l3 M3) fun v7 M6 =>
    if jw v7 = 0 then (
      jbR (f_X10_gradeBy l1 l2 l3 M6) fun v9 =>
      some (v9, M6))
    else (
      some (0, M6)))
  else (
    some (0, M3))
def f_X10_mean (l1 : Int) (l2 : Int) (M : jM) : Option (Int × jM) :=
  jlet (jst M 166 0 0) fun M1 =>
  jbW (f_X10_noTry l1 l2 M1) fun v4 M3 =>
  if jw v4 = 0 then (
    jbW (f_X10_meanOf l1 l2 M3) fun v7 M6 =>
    some (v7, M6))
  else (
    some (0, M3))
def f_X10_mark (l1 : Int) (l2 : Int) (l3 : Int) (M : jM) : Option (Int × jM) :=
  jlet (jst M 166 0 0) fun M1 =>
  jbW (f_X10_noSkater l1 M1) fun v4 M3 =>
  if jw v4 = 0 then (
    jbW (f_X10_noComponent l2 M3) fun v7 M6 =>
    if jw v7 = 0 then (
      jbW (f_X10_noJudge l3 M6) fun v10 M9 =>
      if jw v10 = 0 then (
        jbR (f_X10_markAt l1 l2 l3) fun v12 =>
        jck (0 ≤ jw v12 ∧ jw v12 < 971) <|
        some ((M9 170 (jw v12)), M9))
      else (
        some (0, M9)))
    else (
      some (0, M6)))
  else (
    some (0, M3))
def f_X10_component (l1 : Int) (l2 : Int) (M : jM) : Option (Int × jM) :=
  jlet (jst M 166 0 0) fun M1 =>
  jbV (f_X10_all M1) fun M3 =>
  jbW (f_X10_noSkater l1 M3) fun v6 M5 =>
  if jw v6 = 0 then (
    jbW (f_X10_noComponent l2 M5) fun v9 M8 =>
    if jw v9 = 0 then (
      jbW (f_X10_componentOf l1 l2 M8) fun v12 M11 =>
      some (v12, M11))
    else (
      some (0, M8)))
  else (
    some (0, M5))
def f_X10_total (l1 : Int) (l2 : Int) (M : jM) : Option (Int × jM) :=
  jlet (jst M 166 0 0) fun M1 =>
  jbV (f_X10_all M1) fun M3 =>
  jbW (f_X10_noSkater l1 M3) fun v6 M5 =>
  if jw v6 = 0 then (
    jbR (f_X10_in l2 0 4) fun v8 =>
    jk (fun (s1_9 : Int) =>
      jbW (f_X10_throwsIf s1_9 2 M5) fun v13 M12 =>
      if jw v13 = 0 then (
        if jw l2 < 0 ∨ 3 < jw l2 then (
          jbW (f_X10_totalOf l1 M12) fun v16 M15 =>
          some (v16, M15))
        else if jw l2 = 0 then (
          jbW (f_X10_pointsOf l1 M12) fun v19 M18 =>
          some (v19, M18))
        else if jw l2 = 1 then (
          jbW (f_X10_shownOf l1 M12) fun v22 M21 =>
          some (v22, M21))
        else if jw l2 = 2 then (
          jbR (f_X10_calledOf l1 2 M12) fun v24 =>
          some (v24, M12))
        else (
          jbW (f_X10_deductedOf l1 M12) fun v27 M26 =>
          some (v27, M26)))
      else (
        some (0, M12))) fun (k10 : Int → Option (Int × jM)) =>
    if jw v8 = 0 then (
      k10 1)
    else (
      k10 0))
  else (
    some (0, M5))
def f_X10_rule (l1 : Int) (l2 : Int) (M : jM) : Option (Int × jM) :=
  jlet (jst M 166 0 0) fun M1 =>
  jbV (f_X10_all M1) fun M3 =>
  jbW (f_X10_noSkater l1 M3) fun v6 M5 =>
  if jw v6 = 0 then (
    jck (0 ≤ jw 3 ∧ jw 3 < 1089) <|
    jbR (f_X10_in l2 0 ((M5 169 (jw 3)) - 1)) fun v9 =>
    jk (fun (s1_10 : Int) =>
      jbW (f_X10_throwsIf s1_10 2 M5) fun v14 M13 =>
      if jw v14 = 0 then (
        jbW (f_X10_ruleOf l1 l2 M13) fun v17 M16 =>
        some (v17, M16))
      else (
        some (0, M13))) fun (k11 : Int → Option (Int × jM)) =>
    if jw v9 = 0 then (
      k11 1)
    else (
      k11 0))
  else (
    some (0, M5))
def f_X10_rank (l1 : Int) (M : jM) : Option (Int × jM) :=
  jlet (jst M 166 0 0) fun M1 =>
  jbV (f_X10_all M1) fun M3 =>
  jbW (f_X10_noSkater l1 M3) fun v6 M5 =>
  if jw v6 = 0 then (
    jbV (f_X10_laysTotals M5) fun M8 =>
    jbR (f_X10_rankOf l1 M8) fun v10 =>
    some (v10, M8))
  else (
    some (0, M5))
def f_X10_ranked (l1 : Int) (M : jM) : Option (Int × jM) :=
  jlet (jst M 166 0 0) fun M1 =>
  jbV (f_X10_all M1) fun M3 =>
  jbV (f_X10_laysTotals M3) fun M5 =>
  jbR (f_X10_rankedAt l1 M5) fun v7 =>
  some (v7, M5)
def f_X10_keeps (M : jM) : Option (jM) :=
  jk (fun (M1 : jM) =>
    jlp2 (fun (self5 : Int → jM → Option (jM)) (l1_3 : Int) (M4 : jM) =>
      if jw 971 ≤ jw l1_3 then (
        jlet (jst M4 166 29 ((M4 166 29) + 1)) fun M6 =>
        some M6)
      else (
        jck (0 ≤ jw l1_3 ∧ jw l1_3 < 971) <|
        jck (0 ≤ jw ((971 * (M4 166 29)) + l1_3) ∧ jw ((971 * (M4 166 29)) + l1_3) < 15536) <|
        jlet (jst M4 178 (jw ((971 * (M4 166 29)) + l1_3)) (M4 170 (jw l1_3))) fun M9 =>
        jlet (l1_3 + 1) fun l1_10 =>
        self5 l1_10 M9)) jfuel 0 M1) fun (k2 : jM → Option (jM)) =>
  if jw (M 166 29) = jw 16 then (
    jlp2 (fun (self13 : Int → jM → Option (jM)) (l1_11 : Int) (M12 : jM) =>
      if jw 15536 ≤ jw l1_11 then (
        jlet (jst M12 166 29 ((M12 166 29) - 1)) fun M14 =>
        k2 M14)
      else (
        jck (0 ≤ jw l1_11 ∧ jw l1_11 < 15536) <|
        jck (0 ≤ jw (l1_11 - 971) ∧ jw (l1_11 - 971) < 15536) <|
        jlet (jst M12 178 (jw (l1_11 - 971)) (M12 178 (jw l1_11))) fun M17 =>
        jlet (l1_11 + 1) fun l1_18 =>
        self13 l1_18 M17)) jfuel 971 M)
  else (
    k2 M)
def f_X10_tells (l1 : Int) (l2 : Int) (M : jM) : Option (Int × jM) :=
  jbV (f_X10_keeps M) fun M2 =>
  jck (0 ≤ jw l1 ∧ jw l1 < 971) <|
  jlet ((M2 170 (jw l1))) fun l3_4 =>
  jck (0 ≤ jw l1 ∧ jw l1 < 971) <|
  jlet (jst M2 170 (jw l1) l2) fun M6 =>
  some (l3_4, M6)
def f_X10_tell (l1 : Int) (l2 : Int) (l3 : Int) (l4 : Int) (M : jM) : Option (Int × jM) :=
  jlet (jst M 166 0 0) fun M1 =>
  jbW (f_X10_noTry l1 l2 M1) fun v4 M3 =>
  if jw v4 = 0 then (
    jbW (f_X10_noJudge l3 M3) fun v7 M6 =>
    if jw v7 = 0 then (
      jbR (f_X10_in l4 (-5) 5) fun v9 =>
      jk (fun (s1_10 : Int) =>
        jbW (f_X10_throwsIf s1_10 2 M6) fun v14 M13 =>
        if jw v14 = 0 then (
          jbR (f_X10_tryAt l1 l2) fun v16 =>
          jbW (f_X10_tells ((0 + (9 * v16)) + l3) l4 M13) fun v19 M18 =>
          some (v19, M18))
        else (
          some (0, M13))) fun (k11 : Int → Option (Int × jM)) =>
      if jw v9 = 0 then (
        k11 1)
      else (
        k11 0))
    else (
      some (0, M6)))
  else (
    some (0, M3))
def f_X10_show (l1 : Int) (l2 : Int) (l3 : Int) (l4 : Int) (M : jM) : Option (Int × jM) :=
  jlet (jst M 166 0 0) fun M1 =>
  jbW (f_X10_noSkater l1 M1) fun v4 M3 =>
  if jw v4 = 0 then (
    jbW (f_X10_noComponent l2 M3) fun v7 M6 =>
    if jw v7 = 0 then (
      jbW (f_X10_noJudge l3 M6) fun v10 M9 =>
      if jw v10 = 0 then (
        jbR (f_X10_in l4 0 10) fun v12 =>
        jk (fun (s1_13 : Int) =>
          jbW (f_X10_throwsIf s1_13 2 M9) fun v17 M16 =>
          if jw v17 = 0 then (
            jbR (f_X10_markAt l1 l2 l3) fun v19 =>
            jbW (f_X10_tells v19 l4 M16) fun v22 M21 =>
            some (v22, M21))
          else (
            some (0, M16))) fun (k14 : Int → Option (Int × jM)) =>
        if jw v12 = 0 then (
          k14 1)
        else (
          k14 0))
      else (
        some (0, M9)))
    else (
      some (0, M6)))
  else (
    some (0, M3))
def f_X10_call (l1 : Int) (l2 : Int) (l3 : Int) (l4 : Int) (M : jM) : Option (Int × jM) :=
  jlet (jst M 166 0 0) fun M1 =>
  jbW (f_X10_noTry l1 l2 M1) fun v4 M3 =>
  if jw v4 = 0 then (
    jbR (f_X10_in l3 0 2) fun v6 =>
    jk (fun (s1_7 : Int) =>
      jbW (f_X10_throwsIf s1_7 2 M3) fun v11 M10 =>
      if jw v11 = 0 then (
        jbR (f_X10_tryAt l1 l2) fun v13 =>
        jlet ((810 + v13)) fun l5_14 =>
        jk (fun (s2_15 : Int) =>
          jbW (f_X10_tells l5_14 s2_15 M10) fun v19 M18 =>
          jbR (f_X10_isIn v19 l3) fun v21 =>
          jck (jw v21 = 0 ∨ jw v21 = 1) <| some (v21, M18)) fun (k16 : Int → Option (Int × jM)) =>
        if jw l4 = 0 then (
          jck (0 ≤ jw l5_14 ∧ jw l5_14 < 971) <|
          k16 (jnd (M10 170 (jw l5_14)) (jxr (jsl 1 l3) (-1))))
        else (
          jck (0 ≤ jw l5_14 ∧ jw l5_14 < 971) <|
          k16 (jor (M10 170 (jw l5_14)) (jsl 1 l3))))
      else (
        some (0, M10))) fun (k8 : Int → Option (Int × jM)) =>
    if jw v6 = 0 then (
      k8 1)
    else (
      k8 0))
  else (
    some (0, M3))
def f_X10_base (l1 : Int) (l2 : Int) (M : jM) : Option (Int × jM) :=
  jlet (jst M 166 0 0) fun M1 =>
  jbW (f_X10_noElement l1 M1) fun v4 M3 =>
  if jw v4 = 0 then (
    jbR (f_X10_in l2 0 2000) fun v6 =>
    jk (fun (s1_7 : Int) =>
      jbW (f_X10_throwsIf s1_7 2 M3) fun v11 M10 =>
      if jw v11 = 0 then (
        jbW (f_X10_tells (954 + l1) l2 M10) fun v14 M13 =>
        some (v14, M13))
      else (
        some (0, M10))) fun (k8 : Int → Option (Int × jM)) =>
    if jw v6 = 0 then (
      k8 1)
    else (
      k8 0))
  else (
    some (0, M3))
def f_X10_set (l1 : Int) (l2 : Int) (M : jM) : Option (Int × jM) :=
  jlet (jst M 166 0 0) fun M1 =>
  jbR (f_X10_in l1 0 6) fun v3 =>
  jk (fun (s1_4 : Int) =>
    jbW (f_X10_throwsIf s1_4 1 M1) fun v8 M7 =>
    if jw v8 = 0 then (
      jk (fun (s0_9 : Int) =>
        jk (fun (s2_11 : Int) =>
          jbR (f_X10_in l2 s2_11 s0_9) fun v14 =>
          jk (fun (s1_15 : Int) =>
            jbW (f_X10_throwsIf s1_15 2 M7) fun v19 M18 =>
            if jw v19 = 0 then (
              jbW (f_X10_tells (964 + l1) l2 M18) fun v22 M21 =>
              some (v22, M21))
            else (
              some (0, M18))) fun (k16 : Int → Option (Int × jM)) =>
          if jw v14 = 0 then (
            k16 1)
          else (
            k16 0)) fun (k12 : Int → Option (Int × jM)) =>
        if jw l1 = jw 3 then (
          k12 1)
        else (
          k12 0)) fun (k10 : Int → Option (Int × jM)) =>
      jk (
        k10 3) fun (k23 : Option (Int × jM)) =>
      if jw l1 = 0 then (
        k23)
      else (
        if jw l1 = jw 3 then (
          k23)
        else (
          if jw l1 = jw 1 then (
            k10 600)
          else (
            if jw l1 = jw 2 then (
              k10 50)
            else (
              k10 300)))))
    else (
      some (0, M7))) fun (k5 : Int → Option (Int × jM)) =>
  if jw v3 = 0 then (
    k5 1)
  else (
    k5 0)
def f_X10_scratch (l1 : Int) (l2 : Int) (M : jM) : Option (Int × jM) :=
  jlet (jst M 166 0 0) fun M1 =>
  jbW (f_X10_noTry l1 l2 M1) fun v4 M3 =>
  if jw v4 = 0 then (
    jbR (f_X10_tryAt l1 l2) fun v6 =>
    jbW (f_X10_tells (882 + v6) 1 M3) fun v9 M8 =>
    jbR (f_X10_triesOf l1 0 M8) fun v11 =>
    some ((v11 + v9), M8))
  else (
    some (0, M3))
def f_X10_undo (M : jM) : Option (Int × jM) :=
  jlet (jst M 166 0 0) fun M1 =>
  if jw (M1 166 29) = 0 then (
    some ((-1), M1))
  else (
    jlet (jst M1 166 29 ((M1 166 29) - 1)) fun M2 =>
    jlp2 (fun (self5 : Int → jM → Option (Int × jM)) (l1_3 : Int) (M4 : jM) =>
      if jw 971 ≤ jw l1_3 then (
        some ((M4 166 29), M4))
      else (
        jck (0 ≤ jw ((971 * (M4 166 29)) + l1_3) ∧ jw ((971 * (M4 166 29)) + l1_3) < 15536) <|
        jck (0 ≤ jw l1_3 ∧ jw l1_3 < 971) <|
        jlet (jst M4 170 (jw l1_3) (M4 178 (jw ((971 * (M4 166 29)) + l1_3)))) fun M8 =>
        jlet (l1_3 + 1) fun l1_9 =>
        self5 l1_9 M8)) jfuel 0 M2)
def f_X10_biasOf (l1 : Int) (M : jM) : Option (Int × jM) :=
  jlp3 (fun (self4 : Int → Int → jM → Option (Int × jM)) (l2_1 : Int) (l3_2 : Int) (M3 : jM) =>
    jck (0 ≤ jw 1 ∧ jw 1 < 1089) <|
    if jw (M3 169 (jw 1)) ≤ jw l3_2 then (
      some (l2_1, M3))
    else (
      jlp3 (fun (self9 : Int → Int → jM → Option (Int × jM)) (l2_6 : Int) (l4_7 : Int) (M8 : jM) =>
        jck (0 ≤ jw (116 + l3_2) ∧ jw (116 + l3_2) < 1089) <|
        if jw (M8 169 (jw (116 + l3_2))) ≤ jw l4_7 then (
          jlet (l3_2 + 1) fun l3_11 =>
          self4 l2_6 l3_11 M8)
        else (
          jbR (f_X10_is l3_2 l4_7 M8) fun v13 =>
          jk (fun (s1_14 : Int) (M15 : jM) =>
            jlet ((l2_6 + s1_14)) fun l2_17 =>
            jlet (l4_7 + 1) fun l4_18 =>
            self9 l2_17 l4_18 M15) fun (k16 : Int → jM → Option (Int × jM)) =>
          if jw v13 = 0 then (
            k16 0 M8)
          else (
            jbR (f_X10_gradeBy l3_2 l4_7 l1 M8) fun v20 =>
            jbW (f_X10_meanOf l3_2 l4_7 M8) fun v23 M22 =>
            k16 ((100 * v20) - v23) M22))) jfuel l2_1 0 M3)) jfuel 0 0 M
def f_X10_bias (l1 : Int) (M : jM) : Option (Int × jM) :=
  jlet (jst M 166 0 0) fun M1 =>
  jbV (f_X10_all M1) fun M3 =>
  jbW (f_X10_noJudge l1 M3) fun v6 M5 =>
  if jw v6 = 0 then (
    jbW (f_X10_biasOf l1 M5) fun v9 M8 =>
    some (v9, M8))
  else (
    some (0, M5))
def f_X10_odd (M : jM) : Option (Int × jM) :=
  jlet (jst M 166 0 0) fun M1 =>
  jbV (f_X10_all M1) fun M3 =>
  jlp3 (fun (self7 : Int → Int → jM → Option (Int × jM)) (l1_4 : Int) (l2_5 : Int) (M6 : jM) =>
    jck (0 ≤ jw 2 ∧ jw 2 < 1089) <|
    if jw (M6 169 (jw 2)) ≤ jw l2_5 then (
      some (l1_4, M6))
    else (
      jbW (f_X10_biasOf l2_5 M6) fun v11 M10 =>
      jbR (f_J9_abs_0f7a4 v11) fun v13 =>
      jbW (f_X10_biasOf l1_4 M10) fun v16 M15 =>
      jbR (f_J9_abs_0f7a4 v16) fun v18 =>
      jk (fun (s0_19 : Int) =>
        jlet (l2_5 + 1) fun l2_21 =>
        self7 s0_19 l2_21 M15) fun (k20 : Int → Option (Int × jM)) =>
      if jw v13 ≤ jw v18 then (
        k20 l1_4)
      else (
        k20 l2_5))) jfuel 0 1 M3
def f_X10_isOnlyOne (M : jM) : Option (Int × jM) :=
  jck (0 ≤ jw 2 ∧ jw 2 < 1089) <|
  jk (fun (s1_2 : Int) =>
    jbW (f_X10_throwsIf s1_2 2 M) fun v6 M5 =>
    jck (jw v6 = 0 ∨ jw v6 = 1) <| some (v6, M5)) fun (k3 : Int → Option (Int × jM)) =>
  if jw (M 169 (jw 2)) = jw 1 then (
    k3 1)
  else (
    k3 0)
def f_X10_without (l1 : Int) (l2 : Int) (M : jM) : Option (Int × jM) :=
  jlet (jst M 166 0 0) fun M1 =>
  jbV (f_X10_all M1) fun M3 =>
  jbW (f_X10_noSkater l1 M3) fun v6 M5 =>
  if jw v6 = 0 then (
    jbW (f_X10_noJudge l2 M5) fun v9 M8 =>
    if jw v9 = 0 then (
      jbW (f_X10_isOnlyOne M8) fun v12 M11 =>
      if jw v12 = 0 then (
        jlet (jst M11 166 15 (jnd (M11 166 15) (jxr (jsl 1 l2) (-1)))) fun M13 =>
        jbW (f_X10_totalOf l1 M13) fun v16 M15 =>
        some (v16, M15))
      else (
        some (0, M11)))
    else (
      some (0, M8)))
  else (
    some (0, M5))
def f_X10_sways (l1 : Int) (M : jM) : Option (Int × jM) :=
  jlet (jst M 166 0 0) fun M1 =>
  jbV (f_X10_all M1) fun M3 =>
  jbW (f_X10_noJudge l1 M3) fun v6 M5 =>
  if jw v6 = 0 then (
    jbW (f_X10_isOnlyOne M5) fun v9 M8 =>
    if jw v9 = 0 then (
      jbV (f_X10_laysTotals M8) fun M11 =>
      jlp2 (fun (self14 : Int → Int → Option (Int × jM)) (l3_12 : Int) (l5_13 : Int) =>
        jck (0 ≤ jw 1 ∧ jw 1 < 1089) <|
        if jw (M11 169 (jw 1)) ≤ jw l5_13 then (
          jlet (jst M11 166 15 (jnd (M11 166 15) (jxr (jsl 1 l1) (-1)))) fun M16 =>
          jbV (f_X10_laysTotals M16) fun M18 =>
          jlp2 (fun (self21 : Int → Int → Option (Int × jM)) (l2_19 : Int) (l5_20 : Int) =>
            jck (0 ≤ jw 1 ∧ jw 1 < 1089) <|
            if jw (M18 169 (jw 1)) ≤ jw l5_20 then (
              some (l2_19, M18))
            else (
              jlp2 (fun (self25 : Int → Int → Option (Int × jM)) (l2_23 : Int) (l6_24 : Int) =>
                if jw l5_20 ≤ jw l6_24 then (
                  jlet (l5_20 + 1) fun l5_26 =>
                  self21 l2_23 l5_26)
                else (
                  jbR (f_X10_isAhead l5_20 l6_24 M18) fun v28 =>
                  jk (fun (s2_29 : Int) =>
                    jk (fun (s1_31 : Int) =>
                      jlet ((l2_23 + s1_31)) fun l2_33 =>
                      jlet (l6_24 + 1) fun l6_34 =>
                      self25 l2_33 l6_34) fun (k32 : Int → Option (Int × jM)) =>
                    if jw v28 = jw s2_29 then (
                      k32 0)
                    else (
                      k32 1)) fun (k30 : Int → Option (Int × jM)) =>
                  if jw (jcmp (jlnd (jlsr l3_12 ((6 * l5_20) + l6_24)) 1) 1) = 0 then (
                    k30 1)
                  else (
                    k30 0))) jfuel l2_19 0)) jfuel 0 0)
        else (
          jlp2 (fun (self37 : Int → Int → Option (Int × jM)) (l3_35 : Int) (l6_36 : Int) =>
            if jw l5_13 ≤ jw l6_36 then (
              jlet (l5_13 + 1) fun l5_38 =>
              self14 l3_35 l5_38)
            else (
              jbR (f_X10_isAhead l5_13 l6_36 M11) fun v40 =>
              jk (fun (s1_41 : Int) =>
                jlet ((jlor l3_35 s1_41)) fun l3_43 =>
                jlet (l6_36 + 1) fun l6_44 =>
                self37 l3_43 l6_44) fun (k42 : Int → Option (Int × jM)) =>
              if jw v40 = 0 then (
                k42 0)
              else (
                k42 (jlsl 1 ((6 * l5_13) + l6_36))))) jfuel l3_12 0)) jfuel 0 0)
    else (
      some (0, M8)))
  else (
    some (0, M5))
def f_X10_alone (l1 : Int) (l2 : Int) (M : jM) : Option (Int × jM) :=
  jlet (jst M 166 0 0) fun M1 =>
  jbV (f_X10_all M1) fun M3 =>
  jbW (f_X10_noSkater l1 M3) fun v6 M5 =>
  if jw v6 = 0 then (
    jbW (f_X10_noJudge l2 M5) fun v9 M8 =>
    if jw v9 = 0 then (
      jlet (jst M8 166 15 (jsl 1 l2)) fun M10 =>
      jbW (f_X10_totalOf l1 M10) fun v13 M12 =>
      some (v13, M12))
    else (
      some (0, M8)))
  else (
    some (0, M5))
def f_X10_laysPlaces (M : jM) : Option (jM) :=
  jbV (f_X10_all M) fun M2 =>
  jlp2 (fun (self5 : Int → jM → Option (jM)) (l1_3 : Int) (M4 : jM) =>
    jck (0 ≤ jw 2 ∧ jw 2 < 1089) <|
    if jw (M4 169 (jw 2)) ≤ jw l1_3 then (
      some M4)
    else (
      jlet (jst M4 166 15 (jsl 1 l1_3)) fun M7 =>
      jbV (f_X10_laysTotals M7) fun M9 =>
      jlp2 (fun (self12 : Int → jM → Option (jM)) (l2_10 : Int) (M11 : jM) =>
        jck (0 ≤ jw 1 ∧ jw 1 < 1089) <|
        if jw (M11 169 (jw 1)) ≤ jw l2_10 then (
          jlet (l1_3 + 1) fun l1_14 =>
          self5 l1_14 M11)
        else (
          jbR (f_X10_rankOf l2_10 M11) fun v16 =>
          jck (0 ≤ jw ((9 * l2_10) + l1_3) ∧ jw ((9 * l2_10) + l1_3) < 54) <|
          jlet (jst M11 177 (jw ((9 * l2_10) + l1_3)) v16) fun M18 =>
          jlet (l2_10 + 1) fun l2_19 =>
          self12 l2_19 M18)) jfuel 0 M9)) jfuel 0 M2
def f_X10_place (l1 : Int) (l2 : Int) (M : jM) : Option (Int × jM) :=
  jlet (jst M 166 0 0) fun M1 =>
  jbW (f_X10_noSkater l1 M1) fun v4 M3 =>
  if jw v4 = 0 then (
    jbW (f_X10_noJudge l2 M3) fun v7 M6 =>
    if jw v7 = 0 then (
      jbV (f_X10_laysPlaces M6) fun M9 =>
      jck (0 ≤ jw ((9 * l1) + l2) ∧ jw ((9 * l1) + l2) < 54) <|
      some ((M9 177 (jw ((9 * l1) + l2))), M9))
    else (
      some (0, M6)))
  else (
    some (0, M3))
def f_X10_atOrAhead (l1 : Int) (l2 : Int) (M : jM) : Option (Int) :=
  jlp2 (fun (self3 : Int → Int → Option (Int)) (l3_1 : Int) (l4_2 : Int) =>
    jck (0 ≤ jw 2 ∧ jw 2 < 1089) <|
    if jw (M 169 (jw 2)) ≤ jw l4_2 then (
      some l3_1)
    else (
      jck (0 ≤ jw ((9 * l1) + l4_2) ∧ jw ((9 * l1) + l4_2) < 54) <|
      jk (fun (s1_6 : Int) =>
        jlet ((l3_1 + s1_6)) fun l3_8 =>
        jlet (l4_2 + 1) fun l4_9 =>
        self3 l3_8 l4_9) fun (k7 : Int → Option (Int)) =>
      if jw l2 < jw (M 177 (jw ((9 * l1) + l4_2))) then (
        k7 0)
      else (
        k7 1))) jfuel 0 0
def f_X10_majorityOf (l1 : Int) (M : jM) : Option (Int) :=
  jlp1 (fun (self2 : Int → Option (Int)) (l2_1 : Int) =>
    jbR (f_X10_atOrAhead l1 l2_1 M) fun v4 =>
    jck (0 ≤ jw 2 ∧ jw 2 < 1089) <|
    if jw (M 169 (jw 2)) < jw (2 * v4) then (
      some l2_1)
    else (
      jlet (l2_1 + 1) fun l2_6 =>
      self2 l2_6)) jfuel 0
def f_X10_majority (l1 : Int) (M : jM) : Option (Int × jM) :=
  jlet (jst M 166 0 0) fun M1 =>
  jbW (f_X10_noSkater l1 M1) fun v4 M3 =>
  if jw v4 = 0 then (
    jbV (f_X10_laysPlaces M3) fun M6 =>
    jbR (f_X10_majorityOf l1 M6) fun v8 =>
    some (v8, M6))
  else (
    some (0, M3))
def f_X10_placesOf (l1 : Int) (M : jM) : Option (Int) :=
  jlp2 (fun (self3 : Int → Int → Option (Int)) (l2_1 : Int) (l3_2 : Int) =>
    jck (0 ≤ jw 2 ∧ jw 2 < 1089) <|
    if jw (M 169 (jw 2)) ≤ jw l3_2 then (
      some l2_1)
    else (
      jck (0 ≤ jw ((9 * l1) + l3_2) ∧ jw ((9 * l1) + l3_2) < 54) <|
      jlet ((l2_1 + (M 177 (jw ((9 * l1) + l3_2))))) fun l2_6 =>
      jlet (l3_2 + 1) fun l3_7 =>
      self3 l2_6 l3_7)) jfuel 0 0
def f_X10_isMajor (l1 : Int) (l2 : Int) (M : jM) : Option (Int) :=
  jbR (f_X10_majorityOf l1 M) fun v2 =>
  jbR (f_X10_majorityOf l2 M) fun v4 =>
  jlet ((v2 - v4)) fun l3_5 =>
  jk (fun (l3_6 : Int) =>
    jk (fun (l3_8 : Int) =>
      if jw l3_8 < 0 then (
        some 1)
      else (
        if jw l3_8 = 0 then (
          if jw l2 ≤ jw l1 then (
            some 0)
          else (
            some 1))
        else (
          some 0))) fun (k9 : Int → Option (Int)) =>
    if jw l3_6 = 0 then (
      jbR (f_X10_placesOf l1 M) fun v11 =>
      jbR (f_X10_placesOf l2 M) fun v13 =>
      jlet ((v11 - v13)) fun l3_14 =>
      k9 l3_14)
    else (
      k9 l3_6)) fun (k7 : Int → Option (Int)) =>
  if jw l3_5 = 0 then (
    jbR (f_X10_majorityOf l2 M) fun v16 =>
    jbR (f_X10_atOrAhead l2 v16 M) fun v18 =>
    jbR (f_X10_majorityOf l1 M) fun v20 =>
    jbR (f_X10_atOrAhead l1 v20 M) fun v22 =>
    jlet ((v18 - v22)) fun l3_23 =>
    k7 l3_23)
  else (
    k7 l3_5)
def f_X10_major (l1 : Int) (M : jM) : Option (Int × jM) :=
  jlet (jst M 166 0 0) fun M1 =>
  jbV (f_X10_laysPlaces M1) fun M3 =>
  jlp1 (fun (self5 : Int → Option (Int × jM)) (l2_4 : Int) =>
    jck (0 ≤ jw 1 ∧ jw 1 < 1089) <|
    if jw (M3 169 (jw 1)) ≤ jw l2_4 then (
      some ((-1), M3))
    else (
      jlp2 (fun (self9 : Int → Int → Option (Int × jM)) (l3_7 : Int) (l4_8 : Int) =>
        jck (0 ≤ jw 1 ∧ jw 1 < 1089) <|
        if jw (M3 169 (jw 1)) ≤ jw l4_8 then (
          if jw l3_7 = jw l1 then (
            some (l2_4, M3))
          else (
            jlet (l2_4 + 1) fun l2_11 =>
            self5 l2_11))
        else (
          jk (fun (s1_12 : Int) =>
            jlet ((l3_7 + s1_12)) fun l3_14 =>
            jlet (l4_8 + 1) fun l4_15 =>
            self9 l3_14 l4_15) fun (k13 : Int → Option (Int × jM)) =>
          jk (
            k13 0) fun (k16 : Option (Int × jM)) =>
          if jw l4_8 = jw l2_4 then (
            k16)
          else (
            jbR (f_X10_isMajor l4_8 l2_4 M3) fun v18 =>
            if jw v18 = 0 then (
              k16)
            else (
              k13 1)))) jfuel 0 0)) jfuel 0
def f_X10_panel (l1 : Int) (l2 : Int) (M : jM) : Option (Int × jM) :=
  jlet (jst M 166 0 0) fun M1 =>
  jck (0 ≤ jw 2 ∧ jw 2 < 1089) <|
  jbR (f_X10_in l2 1 (M1 169 (jw 2))) fun v4 =>
  jk (fun (s1_5 : Int) =>
    jbW (f_X10_throwsIf s1_5 1 M1) fun v9 M8 =>
    if jw v9 = 0 then (
      jck (0 ≤ jw 2 ∧ jw 2 < 1089) <|
      jlet ((M8 169 (jw 2))) fun l5_11 =>
      jlp3 (fun (self15 : Int → Int → Int → Option (Int × jM)) (l3_12 : Int) (l4_13 : Int) (l5_14 : Int) =>
        jck (0 ≤ jw 2 ∧ jw 2 < 1089) <|
        if jw l5_14 ≤ jw ((M8 169 (jw 2)) - l2) then (
          some (l4_13, M8))
        else (
          jlet (((1103515245 * l3_12) + 12345)) fun l3_17 =>
          jck (jw l5_14 ≠ 0) <|
          jlet (((jw (jnd (jsr l3_17 16) 32767)).tmod (jw l5_14))) fun l6_19 =>
          jlp2 (fun (self22 : Int → Int → Option (Int × jM)) (l6_20 : Int) (l7_21 : Int) =>
            jbR (f_X10_isIn l4_13 l7_21) fun v24 =>
            jk (
              jbR (f_X10_isIn l4_13 l7_21) fun v27 =>
              jk (fun (s1_28 : Int) =>
                jlet ((l6_20 - s1_28)) fun l6_30 =>
                jlet (l7_21 + 1) fun l7_31 =>
                self22 l6_30 l7_31) fun (k29 : Int → Option (Int × jM)) =>
              if jw v27 = 0 then (
                k29 1)
              else (
                k29 0)) fun (k25 : Option (Int × jM)) =>
            if jw v24 = 0 then (
              if jw l6_20 ≤ 0 then (
                jlet ((jor l4_13 (jsl 1 l7_21))) fun l4_32 =>
                jlet (l5_14 + (-1)) fun l5_33 =>
                self15 l3_17 l4_32 l5_33)
              else (
                k25))
            else (
              k25)) jfuel l6_19 0)) jfuel l1 0 l5_11)
    else (
      some (0, M8))) fun (k6 : Int → Option (Int × jM)) =>
  if jw v4 = 0 then (
    k6 1)
  else (
    k6 0)
def f_X10_by (l1 : Int) (l2 : Int) (M : jM) : Option (Int × jM) :=
  jlet (jst M 166 0 0) fun M1 =>
  jbV (f_X10_all M1) fun M3 =>
  jbW (f_X10_noSkater l1 M3) fun v6 M5 =>
  if jw v6 = 0 then (
    jk (fun (s1_7 : Int) =>
      jbW (f_X10_throwsIf s1_7 2 M5) fun v11 M10 =>
      if jw v11 = 0 then (
        jlet (jst M10 166 15 l2) fun M12 =>
        jbW (f_X10_totalOf l1 M12) fun v15 M14 =>
        some (v15, M14))
      else (
        some (0, M10))) fun (k8 : Int → Option (Int × jM)) =>
    jk (
      k8 1) fun (k16 : Option (Int × jM)) =>
    if jw l2 = 0 then (
      k16)
    else (
      if jw (jnd l2 (jxr (M5 166 15) (-1))) = 0 then (
        k8 0)
      else (
        k16)))
  else (
    some (0, M5))
def f_X10_firsts (l1 : Int) (l2 : Int) (M : jM) : Option (Int × jM) :=
  jlet (jst M 166 0 0) fun M1 =>
  jbV (f_X10_all M1) fun M3 =>
  jbW (f_X10_noSkater l1 M3) fun v6 M5 =>
  if jw v6 = 0 then (
    jck (0 ≤ jw 2 ∧ jw 2 < 1089) <|
    jbR (f_X10_in l2 1 (M5 169 (jw 2))) fun v9 =>
    jk (fun (s1_10 : Int) =>
      jbW (f_X10_throwsIf s1_10 2 M5) fun v14 M13 =>
      if jw v14 = 0 then (
        jlp3 (fun (self18 : Int → Int → jM → Option (Int × jM)) (l3_15 : Int) (l4_16 : Int) (M17 : jM) =>
          jck (0 ≤ jw 2 ∧ jw 2 < 1089) <|
          if jw (jsl 1 (M17 169 (jw 2))) ≤ jw l4_16 then (
            some (l3_15, M17))
          else (
            jbR (f_X10_bits l4_16) fun v21 =>
            if jw v21 = jw l2 then (
              jlet (jst M17 166 15 l4_16) fun M22 =>
              jbV (f_X10_laysTotals M22) fun M24 =>
              jbR (f_X10_rankOf l1 M24) fun v26 =>
              jk (fun (s1_27 : Int) =>
                jlet ((l3_15 + s1_27)) fun l3_29 =>
                jlet (l4_16 + 1) fun l4_30 =>
                self18 l3_29 l4_30 M24) fun (k28 : Int → Option (Int × jM)) =>
              if jw v26 = 0 then (
                k28 1)
              else (
                k28 0))
            else (
              jlet (l4_16 + 1) fun l4_31 =>
              self18 l3_15 l4_31 M17))) jfuel 0 1 M13)
      else (
        some (0, M13))) fun (k11 : Int → Option (Int × jM)) =>
    if jw v9 = 0 then (
      k11 1)
    else (
      k11 0))
  else (
    some (0, M5))
def f_X10_lastTry (l1 : Int) (M : jM) : Option (Int) :=
  jlp2 (fun (self3 : Int → Int → Option (Int)) (l2_1 : Int) (l3_2 : Int) =>
    jck (0 ≤ jw (116 + l1) ∧ jw (116 + l1) < 1089) <|
    if jw (M 169 (jw (116 + l1))) ≤ jw l3_2 then (
      some l2_1)
    else (
      jbR (f_X10_is l1 l3_2 M) fun v6 =>
      jk (fun (s0_7 : Int) =>
        jlet (l3_2 + 1) fun l3_9 =>
        self3 s0_7 l3_9) fun (k8 : Int → Option (Int)) =>
      if jw v6 = 0 then (
        k8 l2_1)
      else (
        k8 l3_2))) jfuel (-1) 0
def f_X10_needed (l1 : Int) (l2 : Int) (M : jM) : Option (Int × jM) :=
  jlet (jst M 166 0 0) fun M1 =>
  jbV (f_X10_all M1) fun M3 =>
  jbW (f_X10_noSkater l1 M3) fun v6 M5 =>
  if jw v6 = 0 then (
    jbW (f_X10_noSkater l2 M5) fun v9 M8 =>
    if jw v9 = 0 then (
      jk (fun (s1_10 : Int) =>
        jbW (f_X10_throwsIf s1_10 2 M8) fun v14 M13 =>
        if jw v14 = 0 then (
          jbR (f_X10_lastTry l1 M13) fun v16 =>
          jlet (jst M13 166 19 l1) fun M17 =>
          jlet (jst M17 166 20 v16) fun M18 =>
          jlp2 (fun (self21 : Int → jM → Option (Int × jM)) (l4_19 : Int) (M20 : jM) =>
            if jw 5 < jw l4_19 then (
              some ((-100), M20))
            else (
              if jw v16 = jw (-1) then (
                some ((-100), M20))
              else (
                jlet (jst M20 166 21 l4_19) fun M22 =>
                jbV (f_X10_laysTotals M22) fun M24 =>
                jbR (f_X10_isAhead l1 l2 M24) fun v26 =>
                if jw v26 = 0 then (
                  jlet (l4_19 + 1) fun l4_27 =>
                  self21 l4_27 M24)
                else (
                  some (l4_19, M24))))) jfuel (-5) M18)
        else (
          some (0, M13))) fun (k11 : Int → Option (Int × jM)) =>
      if jw l1 = jw l2 then (
        k11 1)
      else (
        k11 0))
    else (
      some (0, M8)))
  else (
    some (0, M5))
def f_X10_raise (l1 : Int) (l2 : Int) (l3 : Int) (M : jM) : Option (Int × jM) :=
  jlet (jst M 166 0 0) fun M1 =>
  jbW (f_X10_noTry l1 l2 M1) fun v4 M3 =>
  if jw v4 = 0 then (
    jbW (f_X10_noJudge l3 M3) fun v7 M6 =>
    if jw v7 = 0 then (
      jbR (f_X10_tryAt l1 l2) fun v9 =>
      jlet (((0 + (9 * v9)) + l3)) fun l4_10 =>
      jck (0 ≤ jw l4_10 ∧ jw l4_10 < 971) <|
      jk (fun (s1_12 : Int) =>
        jbW (f_X10_throwsIf s1_12 2 M6) fun v16 M15 =>
        if jw v16 = 0 then (
          jbW (f_X10_totalOf l1 M15) fun v19 M18 =>
          jck (0 ≤ jw l4_10 ∧ jw l4_10 < 971) <|
          jck (0 ≤ jw l4_10 ∧ jw l4_10 < 971) <|
          jlet (jst M18 170 (jw l4_10) ((M18 170 (jw l4_10)) + 1)) fun M22 =>
          jbW (f_X10_totalOf l1 M22) fun v25 M24 =>
          jck (0 ≤ jw l4_10 ∧ jw l4_10 < 971) <|
          jck (0 ≤ jw l4_10 ∧ jw l4_10 < 971) <|
          jlet (jst M24 170 (jw l4_10) ((M24 170 (jw l4_10)) - 1)) fun M28 =>
          some ((v25 - v19), M28))
        else (
          some (0, M15))) fun (k13 : Int → Option (Int × jM)) =>
      if jw (M6 170 (jw l4_10)) = jw 5 then (
        k13 1)
      else (
        k13 0))
    else (
      some (0, M6)))
  else (
    some (0, M3))
def f_X10_prime (l1 : Int) (l2 : Int) (M : jM) : Option (Int × jM) :=
  jlet (jst M 166 0 0) fun M1 =>
  jbV (f_X10_all M1) fun M3 =>
  jbW (f_X10_noSkater l1 M3) fun v6 M5 =>
  if jw v6 = 0 then (
    jbR (f_X10_in l2 0 12) fun v8 =>
    jk (fun (s1_9 : Int) =>
      jbW (f_X10_throwsIf s1_9 2 M5) fun v13 M12 =>
      if jw v13 = 0 then (
        jlp2 (fun (self16 : Int → Int → Option (Int × jM)) (l3_14 : Int) (l4_15 : Int) =>
          jck (0 ≤ jw (116 + l1) ∧ jw (116 + l1) < 1089) <|
          if jw (M12 169 (jw (116 + l1))) ≤ jw l4_15 then (
            jbR (f_X10_bits l3_14) fun v19 =>
            jbR (f_J9_min_7cf53 l2 v19) fun v21 =>
            jlet (jst M12 166 17 l1) fun M22 =>
            jlp4 (fun (self27 : Int → Int → Int → jM → Option (Int × jM)) (l5_23 : Int) (l6_24 : Int) (l7_25 : Int) (M26 : jM) =>
              if jw l3_14 < jw l7_25 then (
                some (l5_23, M26))
              else (
                if jw (jnd l7_25 (jxr l3_14 (-1))) = 0 then (
                  jbR (f_X10_bits l7_25) fun v30 =>
                  if jw v30 = jw v21 then (
                    jlet (jst M26 166 18 l7_25) fun M31 =>
                    jbW (f_X10_pointsOf l1 M31) fun v34 M33 =>
                    jk (
                      jlet (l7_25 + 1) fun l7_36 =>
                      self27 l7_25 v34 l7_36 M33) fun (k35 : Option (Int × jM)) =>
                    if jw l5_23 = jw (-1) then (
                      k35)
                    else (
                      if jw l6_24 < jw v34 then (
                        k35)
                      else (
                        jlet (l7_25 + 1) fun l7_37 =>
                        self27 l5_23 l6_24 l7_37 M33)))
                  else (
                    jlet (l7_25 + 1) fun l7_38 =>
                    self27 l5_23 l6_24 l7_38 M26))
                else (
                  jlet (l7_25 + 1) fun l7_28 =>
                  self27 l5_23 l6_24 l7_28 M26))) jfuel (-1) 0 0 M22)
          else (
            jbR (f_X10_is l1 l4_15 M12) fun v40 =>
            jk (fun (s1_41 : Int) =>
              jlet ((jor l3_14 s1_41)) fun l3_43 =>
              jlet (l4_15 + 1) fun l4_44 =>
              self16 l3_43 l4_44) fun (k42 : Int → Option (Int × jM)) =>
            jk (
              k42 0) fun (k45 : Option (Int × jM)) =>
            if jw v40 = 0 then (
              k45)
            else (
              jbR (f_X10_elementOf l1 l4_15 0 M12) fun v47 =>
              jbR (f_X10_isJump v47 M12) fun v49 =>
              if jw v49 = 0 then (
                k45)
              else (
                k42 (jsl 1 l4_15))))) jfuel 0 0)
      else (
        some (0, M12))) fun (k10 : Int → Option (Int × jM)) =>
    if jw v8 = 0 then (
      k10 1)
    else (
      k10 0))
  else (
    some (0, M5))
def f_X10_led (l1 : Int) (M : jM) : Option (Int × jM) :=
  jlet (jst M 166 0 0) fun M1 =>
  jbV (f_X10_all M1) fun M3 =>
  jbR (f_X10_in l1 0 600) fun v5 =>
  jk (fun (s1_6 : Int) =>
    jbW (f_X10_throwsIf s1_6 1 M3) fun v10 M9 =>
    if jw v10 = 0 then (
      jlet (jst M9 166 16 l1) fun M11 =>
      jbV (f_X10_laysTotals M11) fun M13 =>
      jbR (f_X10_rankedAt 0 M13) fun v15 =>
      some (v15, M13))
    else (
      some (0, M9))) fun (k7 : Int → Option (Int × jM)) =>
  if jw v5 = 0 then (
    k7 1)
  else (
    k7 0)
def f_X10_doubt (l1 : Int) (M : jM) : Option (Int × jM) :=
  jlet (jst M 166 0 0) fun M1 =>
  jbV (f_X10_all M1) fun M3 =>
  jbW (f_X10_noSkater l1 M3) fun v6 M5 =>
  if jw v6 = 0 then (
    jlp3 (fun (self10 : Int → Int → Int → Option (Int × jM)) (l2_7 : Int) (l3_8 : Int) (l4_9 : Int) =>
      jck (0 ≤ jw (116 + l1) ∧ jw (116 + l1) < 1089) <|
      if jw (M5 169 (jw (116 + l1))) ≤ jw l4_9 then (
        some (l2_7, M5))
      else (
        jbR (f_X10_is l1 l4_9 M5) fun v13 =>
        if jw v13 = 0 then (
          jlet (l4_9 + 1) fun l4_32 =>
          self10 l2_7 l3_8 l4_32)
        else (
          jlp3 (fun (self17 : Int → Int → Int → Option (Int × jM)) (l5_14 : Int) (l6_15 : Int) (l7_16 : Int) =>
            jck (0 ≤ jw 2 ∧ jw 2 < 1089) <|
            if jw (M5 169 (jw 2)) ≤ jw l7_16 then (
              jk (
                jlet ((l6_15 - l5_14)) fun l3_20 =>
                jlet (l4_9 + 1) fun l4_21 =>
                self10 l4_9 l3_20 l4_21) fun (k19 : Option (Int × jM)) =>
              if jw l2_7 = jw (-1) then (
                k19)
              else (
                if jw l3_8 < jw (l6_15 - l5_14) then (
                  k19)
                else (
                  jlet (l4_9 + 1) fun l4_22 =>
                  self10 l2_7 l3_8 l4_22)))
            else (
              jbR (f_X10_gradeBy l1 l4_9 l7_16 M5) fun v24 =>
              jbR (f_J9_min_7cf53 l5_14 v24) fun v26 =>
              jbR (f_X10_gradeBy l1 l4_9 l7_16 M5) fun v28 =>
              jbR (f_J9_max_7cf53 l6_15 v28) fun v30 =>
              jlet (l7_16 + 1) fun l7_31 =>
              self17 v26 v30 l7_31)) jfuel 100 (-100) 0))) jfuel (-1) 0 0)
  else (
    some (0, M5))
def f_X10_clean (l1 : Int) (M : jM) : Option (Int × jM) :=
  jlet (jst M 166 0 0) fun M1 =>
  jbV (f_X10_all M1) fun M3 =>
  jbW (f_X10_noSkater l1 M3) fun v6 M5 =>
  if jw v6 = 0 then (
    jlet (jst M5 166 22 1) fun M7 =>
    jbW (f_X10_totalOf l1 M7) fun v10 M9 =>
    some (v10, M9))
  else (
    some (0, M5))
def f_X10_says (l1 : Int) (M : jM) : Option (jM) :=
  jck (0 ≤ jw (M 166 31) ∧ jw (M 166 31) < 1200) <|
  jlet (jst M 179 (jw (M 166 31)) (jb8 (jb8 l1))) fun M2 =>
  jlet (jst M2 166 31 ((M2 166 31) + 1)) fun M3 =>
  some M3
def f_X10_saysName (l1 : Int) (M : jM) : Option (jM) :=
  jlp2 (fun (self3 : Int → jM → Option (jM)) (l2_1 : Int) (M2 : jM) =>
    if jw 6 ≤ jw l2_1 then (
      some M2)
    else (
      jck (0 ≤ jw (l1 + l2_1) ∧ jw (l1 + l2_1) < 1089) <|
      if jw (M2 169 (jw (l1 + l2_1))) = 0 then (
        jlet (l2_1 + 1) fun l2_5 =>
        self3 l2_5 M2)
      else (
        jck (0 ≤ jw (l1 + l2_1) ∧ jw (l1 + l2_1) < 1089) <|
        jbV (f_X10_says (M2 169 (jw (l1 + l2_1))) M2) fun M8 =>
        jlet (l2_1 + 1) fun l2_9 =>
        self3 l2_9 M8))) jfuel 0 M
def f_X10_octet (l1 : Int) (M : jM) : Option (Int × jM) :=
  jlet (jst M 166 0 0) fun M1 =>
  jbR (f_X10_in l1 0 ((M1 166 31) - 1)) fun v3 =>
  if jw v3 = 0 then (
    some ((-1), M1))
  else (
    jck (0 ≤ jw l1 ∧ jw l1 < 1200) <|
    some ((M1 179 (jw l1)), M1))
def f_X10_count (l1 : Int) (M : jM) : Option (Int × jM) :=
  jlet (jst M 166 0 0) fun M1 =>
  jck (0 ≤ jw 1 ∧ jw 1 < 1089) <|
  jbR (f_X10_in l1 20 (19 + (M1 169 (jw 1)))) fun v4 =>
  if jw v4 = 0 then (
    if jw l1 < 0 ∨ 12 < jw l1 then (
      some ((-1), M1))
    else if jw l1 = 0 then (
      jck (0 ≤ jw 0 ∧ jw 0 < 1089) <|
      some ((M1 169 (jw 0)), M1))
    else if jw l1 = 1 then (
      jck (0 ≤ jw 1 ∧ jw 1 < 1089) <|
      some ((M1 169 (jw 1)), M1))
    else if jw l1 = 2 then (
      jck (0 ≤ jw 2 ∧ jw 2 < 1089) <|
      some ((M1 169 (jw 2)), M1))
    else if jw l1 = 3 then (
      jck (0 ≤ jw ((964 + l1) - 3) ∧ jw ((964 + l1) - 3) < 971) <|
      some ((M1 170 (jw ((964 + l1) - 3))), M1))
    else if jw l1 = 4 then (
      jck (0 ≤ jw ((964 + l1) - 3) ∧ jw ((964 + l1) - 3) < 971) <|
      some ((M1 170 (jw ((964 + l1) - 3))), M1))
    else if jw l1 = 5 then (
      jck (0 ≤ jw ((964 + l1) - 3) ∧ jw ((964 + l1) - 3) < 971) <|
      some ((M1 170 (jw ((964 + l1) - 3))), M1))
    else if jw l1 = 6 then (
      jck (0 ≤ jw ((964 + l1) - 3) ∧ jw ((964 + l1) - 3) < 971) <|
      some ((M1 170 (jw ((964 + l1) - 3))), M1))
    else if jw l1 = 7 then (
      jck (0 ≤ jw ((964 + l1) - 3) ∧ jw ((964 + l1) - 3) < 971) <|
      some ((M1 170 (jw ((964 + l1) - 3))), M1))
    else if jw l1 = 8 then (
      jck (0 ≤ jw ((964 + l1) - 3) ∧ jw ((964 + l1) - 3) < 971) <|
      some ((M1 170 (jw ((964 + l1) - 3))), M1))
    else if jw l1 = 9 then (
      jck (0 ≤ jw ((964 + l1) - 3) ∧ jw ((964 + l1) - 3) < 971) <|
      some ((M1 170 (jw ((964 + l1) - 3))), M1))
    else if jw l1 = 10 then (
      jck (0 ≤ jw 3 ∧ jw 3 < 1089) <|
      some ((M1 169 (jw 3)), M1))
    else if jw l1 = 11 then (
      some ((M1 166 29), M1))
    else (
      some ((M1 166 31), M1)))
  else (
    jck (0 ≤ jw ((116 + l1) - 20) ∧ jw ((116 + l1) - 20) < 1089) <|
    some ((M1 169 (jw ((116 + l1) - 20))), M1))
/-! ===== what the methods do (those that call themselves, those that throw); by program ===== -/
def g_X10_atom (self : Nat → jM → Option (jM)) (M : jM) : Option (jM) :=
  jbW (f_X10_isSign 40 M) fun v3 M2 =>
  if jw v3 = 0 then (
    jbW (f_X10_wordTold M2) fun v6 M5 =>
    if jw v6 = jw (-1) then (
      jbW (f_X10_number 0 9999 M5) fun v15 M14 =>
      jbV (f_X10_code v15 M14) fun M17 =>
      some M17)
    else (
      jbW (f_X10_wordMany M5) fun v9 M8 =>
      jlet (jst M8 166 4 ((M5 166 4) + v9)) fun M10 =>
      jbV (f_X10_code (10020 + v6) M10) fun M12 =>
      some M12))
  else (
    jk (fun (M18 : jM) =>
      jlet (jst M18 166 13 ((M18 166 13) + 1)) fun M20 =>
      jlet (jst M20 166 4 ((M20 166 4) + 1)) fun M21 =>
      jbV (self 2 M21) fun M23 =>
      jbV (f_X10_asksSign 41 M23) fun M25 =>
      jlet (jst M25 166 13 ((M25 166 13) - 1)) fun M26 =>
      some M26) fun (k19 : jM → Option (jM)) =>
    if jw (M2 166 13) = jw 4 then (
      jbV (f_X10_fails M2) fun M28 =>
      k19 M28)
    else (
      k19 M2))
def g_X10_term (self : Nat → jM → Option (jM)) (M : jM) : Option (jM) :=
  jbV (self 0 M) fun M2 =>
  jlp1 (fun (self4 : jM → Option (jM)) (M3 : jM) =>
    jbW (f_X10_takes 42 M3) fun v7 M6 =>
    if jw v7 = 0 then (
      some M6)
    else (
      jbV (self 0 M6) fun M9 =>
      jbV (f_X10_code 10003 M9) fun M11 =>
      self4 M11)) jfuel M2
def g_X10_sum (self : Nat → jM → Option (jM)) (M : jM) : Option (jM) :=
  jbR (f_X10_hasFailed M) fun v2 =>
  if jw v2 = 0 then (
    jbV (self 1 M) fun M4 =>
    jlp1 (fun (self6 : jM → Option (jM)) (M5 : jM) =>
      jbW (f_X10_isSign 43 M5) fun v9 M8 =>
      jk (fun (M10 : jM) =>
        jck (0 ≤ jw (M10 166 4) ∧ jw (M10 166 4) < 600) <|
        jlet ((M10 167 (jw (M10 166 4)))) fun l1_13 =>
        jlet (jst M10 166 4 ((M10 166 4) + 1)) fun M14 =>
        jbV (self 1 M14) fun M16 =>
        jk (fun (s1_17 : Int) =>
          jbV (f_X10_code s1_17 M16) fun M20 =>
          self6 M20) fun (k18 : Int → Option (jM)) =>
        if jw l1_13 = jw 43 then (
          k18 10001)
        else (
          k18 10002)) fun (k11 : jM → Option (jM)) =>
      if jw v9 = 0 then (
        jbW (f_X10_isSign 45 M8) fun v23 M22 =>
        if jw v23 = 0 then (
          some M22)
        else (
          k11 M22))
      else (
        k11 M8)) jfuel M4)
  else (
    some M)
def f_X10_g : Nat → Nat → jM → Option (jM)
  | 0, _, _ => none
  | f + 1, k, M => if k = 0 then g_X10_atom (f_X10_g f) M else if k = 1 then g_X10_term (f_X10_g f) M else g_X10_sum (f_X10_g f) M
def f_X10_atom (M : jM) : Option (jM) := f_X10_g 24 0 M
def f_X10_term (M : jM) : Option (jM) := f_X10_g 24 1 M
def f_X10_sum (M : jM) : Option (jM) := f_X10_g 24 2 M
def g_X4_sum (self : Nat → Int → jM → Option (Int × jM)) (l1 : Int) (M : jM) : Option (Int × jM) :=
  jlp4 (fun (self5 : Int → Int → Int → jM → Option (Int × jM)) (l2_1 : Int) (l3_2 : Int) (l4_3 : Int) (M4 : jM) =>
    if jw 600 < jw l4_3 then (
      jbW (f_X4_refuse M4) fun v8 M7 =>
      jck (jw v8 = 0 ∨ jw v8 = 1) <| some (v8, M7))
    else (
      jbW (self 1 l1 M4) fun v12 M11 =>
      if jw v12 = 0 then (
        some (0, M11))
      else (
        jk (fun (M13 : jM) =>
          jk (fun (s0_15 : Int) =>
            jk (fun (M17 : jM) =>
              jk (
                jk (fun (s0_20 : Int) =>
                  jbV (f_X4_advance M17) fun M23 =>
                  jlet (l4_3 + 1) fun l4_24 =>
                  self5 s0_15 s0_20 l4_24 M23) fun (k21 : Int → Option (Int × jM)) =>
                if jw s0_15 = 0 then (
                  if jw (M17 109 3) = jw 43 then (
                    k21 (-1))
                  else (
                    k21 (-2)))
                else (
                  k21 l3_2)) fun (k19 : Option (Int × jM)) =>
              if jw s0_15 = 0 then (
                if jw (M17 109 3) = jw 43 then (
                  k19)
                else (
                  if jw (M17 109 3) = jw 45 then (
                    k19)
                  else (
                    some (1, M17))))
              else (
                k19)) fun (k18 : jM → Option (Int × jM)) =>
            if jw s0_15 = 0 then (
              if jw l3_2 = 0 then (
                k18 M13)
              else (
                jck (jkd (M13 109 1) = 1) <|
                jbV (f_X5_add ((M13 109 1) + 7) l3_2 M13) fun M27 =>
                k18 M27))
            else (
              k18 M13)) fun (k16 : Int → Option (Int × jM)) =>
          if jw (M13 109 3) = jw 42 then (
            k16 1)
          else (
            k16 0)) fun (k14 : jM → Option (Int × jM)) =>
        if jw l2_1 = 0 then (
          k14 M11)
        else (
          jck (jkd (M11 109 1) = 1) <|
          jbV (f_X5_add ((M11 109 1) + 7) (-3) M11) fun M30 =>
          k14 M30)))) jfuel 0 0 0 M
def g_X4_atom (self : Nat → Int → jM → Option (Int × jM)) (l1 : Int) (M : jM) : Option (Int × jM) :=
  if jw (M 109 3) = jw 40 then (
    if jw l1 < jw 4 then (
      jbV (f_X4_advance M) fun M15 =>
      jbW (self 0 (l1 + 1) M15) fun v18 M17 =>
      if jw v18 = 0 then (
        some (0, M17))
      else (
        jbW (f_X4_sign 41 M17) fun v21 M20 =>
        if jw v21 = 0 then (
          some (0, M20))
        else (
          some (1, M20))))
    else (
      jbW (f_X4_refuse M) fun v24 M23 =>
      jck (jw v24 = 0 ∨ jw v24 = 1) <| some (v24, M23)))
  else (
    jbR (f_X4_among 2 M) fun v2 =>
    if jw v2 = jw (-1) then (
      jbW (f_X4_number 0 9999 M) fun v5 M4 =>
      if jw v5 = 0 then (
        some (0, M4))
      else (
        jck (jkd (M4 109 1) = 1) <|
        jbV (f_X5_add ((M4 109 1) + 7) (M4 109 6) M4) fun M8 =>
        some (1, M8)))
    else (
      jck (jkd (M 109 1) = 1) <|
      jbV (f_X5_add ((M 109 1) + 7) (10000 + v2) M) fun M11 =>
      jbV (f_X4_advance M11) fun M13 =>
      some (1, M13)))
def f_X4_g : Nat → Nat → Int → jM → Option (Int × jM)
  | 0, _, _, _ => none
  | f + 1, k, l1, M => if k = 0 then g_X4_sum (f_X4_g f) l1 M else g_X4_atom (f_X4_g f) l1 M
def f_X4_sum (l1 : Int) (M : jM) : Option (Int × jM) := f_X4_g 24 0 l1 M
def f_X4_atom (l1 : Int) (M : jM) : Option (Int × jM) := f_X4_g 24 1 l1 M
def g_X10_saysNumber (self : Nat → Int → jM → Option (jM)) (l1 : Int) (M : jM) : Option (jM) :=
  jk (fun (M1 : jM) =>
    jbV (f_X10_says (48 + ((jw l1).tmod (jw 10))) M1) fun M4 =>
    some M4) fun (k2 : jM → Option (jM)) =>
  if jw l1 ≤ jw 9 then (
    k2 M)
  else (
    jbV (self 0 ((jw l1).tdiv (jw 10)) M) fun M6 =>
    k2 M6)
def f_X10_sn : Nat → Nat → Int → jM → Option (jM)
  | 0, _, _, _ => none
  | f + 1, k, l1, M => g_X10_saysNumber (f_X10_sn f) l1 M
def f_X10_saysNumber (l1 : Int) (M : jM) : Option (jM) := f_X10_sn 12 0 l1 M
def f_X4_test (M : jM) : Option (Int × jM) :=
  jck (jkd (M 109 1) = 1) <|
  jlp4 (fun (self6 : Int → Int → Int → jM → Option (Int × jM)) (l2_2 : Int) (l3_3 : Int) (l4_4 : Int) (M5 : jM) =>
    if jw 600 < jw l4_4 then (
      jbW (f_X4_refuse M5) fun v9 M8 =>
      jck (jw v9 = 0 ∨ jw v9 = 1) <| some (v9, M8))
    else (
      jbW (f_X4_sum 0 M5) fun v13 M12 =>
      if jw v13 = 0 then (
        some (0, M12))
      else (
        jbR (f_X4_relation M12) fun v15 =>
        if jw v15 = jw (-1) then (
          jbW (f_X4_refuse M12) fun v43 M42 =>
          jck (jw v43 = 0 ∨ jw v43 = 1) <| some (v43, M42))
        else (
          jbV (f_X4_advance M12) fun M17 =>
          jbW (f_X4_sum 0 M17) fun v20 M19 =>
          if jw v20 = 0 then (
            some (0, M19))
          else (
            jbV (f_X5_add ((M 109 1) + 7) v15 M19) fun M22 =>
            jk (fun (M23 : jM) =>
              jbR (f_X4_among 4 M23) fun v26 =>
              jk (fun (s0_27 : Int) =>
                jk (fun (M29 : jM) =>
                  if jw v26 = jw (-1) then (
                    some (1, M29))
                  else (
                    jk (fun (s0_31 : Int) =>
                      jbV (f_X4_advance M29) fun M34 =>
                      jlet (l4_4 + 1) fun l4_35 =>
                      self6 s0_27 s0_31 l4_35 M34) fun (k32 : Int → Option (Int × jM)) =>
                    jk (
                      k32 1) fun (k36 : Option (Int × jM)) =>
                    if jw l3_3 = 0 then (
                      if jw s0_27 = 0 then (
                        k36)
                      else (
                        k32 0))
                    else (
                      k36))) fun (k30 : jM → Option (Int × jM)) =>
                if jw l3_3 = 0 then (
                  k30 M23)
                else (
                  if jw s0_27 = 0 then (
                    jbV (f_X5_add ((M 109 1) + 7) (-8) M23) fun M38 =>
                    k30 M38)
                  else (
                    k30 M23))) fun (k28 : Int → Option (Int × jM)) =>
              if jw v26 = 0 then (
                k28 1)
              else (
                k28 0)) fun (k24 : jM → Option (Int × jM)) =>
            if jw l2_2 = 0 then (
              k24 M22)
            else (
              jbV (f_X5_add ((M 109 1) + 7) (-7) M22) fun M40 =>
              k24 M40)))))) jfuel 0 0 0 M
def f_X4_deductLine (M : jM) : Option (Int × jM) :=
  jck (jkd (M 109 1) = 1) <|
  jbR (f_X5_isFull ((M 109 1) + 7) M) fun v3 =>
  if jw v3 = 0 then (
    jlet ((M ((M 109 1) + 7) 1)) fun l2_4 =>
    jbV (f_X4_advance M) fun M6 =>
    jbW (f_X4_sum 0 M6) fun v9 M8 =>
    if jw v9 = 0 then (
      some (0, M8))
    else (
      jlet ((M8 ((M 109 1) + 7) 1)) fun l3_10 =>
      jbR (f_X4_among 3 M8) fun v12 =>
      jk (fun (M13 : jM) =>
        jbV (f_X5_close ((M 109 1) + 7) l2_4 l3_10 M13) fun M16 =>
        some (1, M16)) fun (k14 : jM → Option (Int × jM)) =>
      if jw v12 = jw (-1) then (
        k14 M8)
      else (
        jbV (f_X4_advance M8) fun M18 =>
        jbW (f_X4_test M18) fun v21 M20 =>
        if jw v21 = 0 then (
          some (0, M20))
        else (
          k14 M20))))
  else (
    jbW (f_X4_refuse M) fun v24 M23 =>
    jck (jw v24 = 0 ∨ jw v24 = 1) <| some (v24, M23))
def f_X4_faultOf (l1 : Int) (l2 : Int) (M : jM) : Option (Int × jM) :=
  jbV (f_X4_start l1 l2 M) fun M2 =>
  jlp3 (fun (self6 : Int → Int → jM → Option (Int × jM)) (l3_3 : Int) (l4_4 : Int) (M5 : jM) =>
    jk (
      some ((M5 109 7), M5)) fun (k7 : Option (Int × jM)) =>
    if jw 600 < jw l4_4 then (
      k7)
    else (
      if jw l3_3 = 0 then (
        k7)
      else (
        if jw (M5 109 3) = jw (-1) then (
          k7)
        else (
          jbR (f_X4_among 0 M5) fun v9 =>
          jk (fun (l3_10 : Int) (M11 : jM) =>
            jk (fun (s0_13 : Int) (M14 : jM) =>
              jlet (l4_4 + 1) fun l4_16 =>
              self6 s0_13 l4_16 M14) fun (k15 : Int → jM → Option (Int × jM)) =>
            jk (fun (M17 : jM) =>
              k15 0 M17) fun (k18 : jM → Option (Int × jM)) =>
            if jw l3_10 = 0 then (
              k18 M11)
            else (
              jbW (f_X4_sign 59 M11) fun v21 M20 =>
              if jw v21 = 0 then (
                k18 M20)
              else (
                k15 1 M20))) fun (k12 : Int → jM → Option (Int × jM)) =>
          if jw v9 < (-1) ∨ 6 < jw v9 then (
            jbW (f_X4_settingLine (v9 - 7) M5) fun v24 M23 =>
            k12 v24 M23)
          else if jw v9 = (-1) then (
            jbW (f_X4_refuse M5) fun v27 M26 =>
            k12 v27 M26)
          else if jw v9 = 0 then (
            jbW (f_X4_elementLine M5) fun v30 M29 =>
            k12 v30 M29)
          else if jw v9 = 1 then (
            jbW (f_X4_judgesLine M5) fun v33 M32 =>
            k12 v33 M32)
          else if jw v9 = 2 then (
            jbW (f_X4_deductLine M5) fun v36 M35 =>
            k12 v36 M35)
          else if jw v9 = 3 then (
            jbW (f_X4_skaterLine M5) fun v39 M38 =>
            k12 v39 M38)
          else if jw v9 = 4 then (
            jbW (f_X4_doLine M5) fun v42 M41 =>
            k12 v42 M41)
          else if jw v9 = 5 then (
            jbW (f_X4_showLine M5) fun v45 M44 =>
            k12 v45 M44)
          else (
            jbW (f_X4_lastsLine M5) fun v48 M47 =>
            k12 v48 M47))))) jfuel 1 0 M2
def f_X9_read (M : jM) : Option (Int × Int × jM) :=
  jlet ((M 1 1)) fun l1_1 =>
  jlet (jst M 1 1 0) fun M2 =>
  jck (jkd (M2 1 4) = 1) <|
  jbW (f_X4_faultOf l1_1 (M2 1 4) M2) fun v6 M5 =>
  jlet (jst M5 1 2 v6) fun M7 =>
  if jw (M7 1 2) = jw (-1) then (
    jck (jkd (M7 1 3) = 1) <|
    jck (jkd (M7 1 4) = 1) <|
    jlet (jst M7 1 3 (M7 1 4)) fun M10 =>
    jlet (jst M10 1 4 (M7 1 3)) fun M11 =>
    jbV (f_X0_forget M11) fun M13 =>
    jck (jkd (M13 1 3) = 1) <|
    some (0, (M13 ((M13 1 3) + 13) 3), M13))
  else (
    some (1, 0, M7))
def f_X9_wantSkater (l1 : Int) (M : jM) : Option (Int) :=
  jk (
    some 2) fun (k1 : Option (Int)) =>
  if jw l1 < 0 then (
    k1)
  else (
    jck (jkd (M 1 3) = 1) <|
    if jw l1 < jw (M ((M 1 3) + 13) 3) then (
      some 0)
    else (
      k1))
def f_X9_wantElement (l1 : Int) (M : jM) : Option (Int) :=
  jk (
    some 2) fun (k1 : Option (Int)) =>
  if jw l1 < 0 then (
    k1)
  else (
    jck (jkd (M 1 3) = 1) <|
    if jw l1 < jw (M ((M 1 3) + 2) 3) then (
      some 0)
    else (
      k1))
def f_X9_name (l1 : Int) (l2 : Int) (l3 : Int) (M : jM) : Option (Int × Int) :=
  if jw l1 = 0 then (
    jbR (f_X9_wantElement l2 M) fun c1 =>
    if c1 = 0 then (
    jck (jkd (M 1 3) = 1) <|
    jbR (f_X2_letter ((M 1 3) + 2) l2 l3 M) fun v5 =>
    some (0, v5))
    else some (c1, 0))
  else (
    jbR (f_X9_wantSkater l2 M) fun c6 =>
    if c6 = 0 then (
    jck (jkd (M 1 3) = 1) <|
    jbR (f_X2_letter ((M 1 3) + 13) l2 l3 M) fun v10 =>
    some (0, v10))
    else some (c6, 0))
def f_X9_element (l1 : Int) (l2 : Int) (M : jM) : Option (Int × Int) :=
  jbR (f_X9_wantElement l1 M) fun c1 =>
  if c1 = 0 then (
  if jw l2 = 0 then (
    jck (jkd (M 1 3) = 1) <|
    jck (0 ≤ jw l1 ∧ jw l1 < 10) <|
    some (0, (M ((M 1 3) + 5) (jw l1))))
  else if jw l2 = 1 then (
    jck (jkd (M 1 3) = 1) <|
    jck (0 ≤ jw l1 ∧ jw l1 < 10) <|
    some (0, (M ((M 1 3) + 6) (jw l1))))
  else (
    some (3, 0)))
  else some (c1, 0)
def f_X9_wantAttempt (l1 : Int) (l2 : Int) (M : jM) : Option (Int) :=
  jbR (f_X9_wantSkater l1 M) fun c1 =>
  if c1 = 0 then (
  jck (jkd (M 1 3) = 1) <|
  jck (0 ≤ jw l1 ∧ jw l1 < 6) <|
  jbR (f_X6_has (((M 1 3) + 16) + 1 + 6 * jw l1) l2 M) fun v6 =>
  if jw v6 = 0 then (
    some 2)
  else (
    some 0))
  else some c1
def f_X9_attempt (l1 : Int) (l2 : Int) (l3 : Int) (M : jM) : Option (Int × Int × jM) :=
  jbR (f_X9_wantAttempt l1 l2 M) fun c1 =>
  if c1 = 0 then (
  jck (jkd (M 1 3) = 1) <|
  jck (0 ≤ jw l1 ∧ jw l1 < 6) <|
  jbW (f_X9_tallied l1 M) fun v7 M6 =>
  jck (jkd v7 = 8) <|
  if jw l3 < 0 ∨ 10 < jw l3 then (
    some (3, 0, M6))
  else if jw l3 = 0 then (
    jck (0 ≤ jw l2 ∧ jw l2 < 12) <|
    some (0, (M6 ((((M 1 3) + 16) + 1 + 6 * jw l1) + 1) (jw l2)), M6))
  else if jw l3 = 1 then (
    jck (0 ≤ jw l2 ∧ jw l2 < 12) <|
    some (0, (M6 ((((M 1 3) + 16) + 1 + 6 * jw l1) + 2) (jw l2)), M6))
  else if jw l3 = 2 then (
    jbR (f_X6_elementAt (((M 1 3) + 16) + 1 + 6 * jw l1) l2 0 M6) fun v12 =>
    some (0, v12, M6))
  else if jw l3 = 3 then (
    jbR (f_X6_elementAt (((M 1 3) + 16) + 1 + 6 * jw l1) l2 1 M6) fun v14 =>
    some (0, v14, M6))
  else if jw l3 = 4 then (
    jbR (f_X6_elementAt (((M 1 3) + 16) + 1 + 6 * jw l1) l2 2 M6) fun v16 =>
    some (0, v16, M6))
  else if jw l3 = 5 then (
    jck (0 ≤ jw l2 ∧ jw l2 < 12) <|
    some (0, (M6 ((((M 1 3) + 16) + 1 + 6 * jw l1) + 4) (jw l2)), M6))
  else if jw l3 = 6 then (
    jbR (f_X8_isLate v7 l2 M6) fun v19 =>
    if jw v19 = 0 then (
      some (0, 0, M6))
    else (
      some (0, 1, M6)))
  else if jw l3 = 7 then (
    jck (0 ≤ jw l2 ∧ jw l2 < 12) <|
    some (0, (M6 (v7 + 1) (jw l2)), M6))
  else if jw l3 = 8 then (
    jbR (f_X8_worthOf v7 l2 M6) fun v22 =>
    some (0, v22, M6))
  else if jw l3 = 9 then (
    jbR (f_X9_everyJudge M6) fun v24 =>
    jbR (f_X8_gainOf v7 l2 v24 M6) fun v26 =>
    some (0, v26, M6))
  else (
    jbR (f_X9_everyJudge M6) fun v28 =>
    jbR (f_X8_pointsOf v7 l2 v28 M6) fun v30 =>
    some (0, v30, M6)))
  else some (c1, 0, M)
def f_X9_wantJudge (l1 : Int) (M : jM) : Option (Int) :=
  jk (
    some 2) fun (k1 : Option (Int)) =>
  if jw l1 < 0 then (
    k1)
  else (
    jck (jkd (M 1 3) = 1) <|
    if jw l1 < jw (M (M 1 3) 0) then (
      some 0)
    else (
      k1))
def f_X9_grade (l1 : Int) (l2 : Int) (l3 : Int) (M : jM) : Option (Int × Int) :=
  jbR (f_X9_wantAttempt l1 l2 M) fun c1 =>
  if c1 = 0 then (
  jbR (f_X9_wantJudge l3 M) fun c3 =>
  if c3 = 0 then (
  jck (jkd (M 1 3) = 1) <|
  jck (0 ≤ jw l1 ∧ jw l1 < 6) <|
  jbR (f_X9_voteOfGrade l2 l3) fun v8 =>
  jck (0 ≤ jw v8 ∧ jw v8 < 135) <|
  some (0, (M ((((M 1 3) + 16) + 1 + 6 * jw l1) + 5) (jw v8))))
  else some (c3, 0))
  else some (c1, 0)
def f_X9_mean (l1 : Int) (l2 : Int) (M : jM) : Option (Int × Int × jM) :=
  jbR (f_X9_wantAttempt l1 l2 M) fun c1 =>
  if c1 = 0 then (
  jbW (f_X9_tallied l1 M) fun v5 M4 =>
  jck (jkd v5 = 8) <|
  jbR (f_X9_everyJudge M4) fun v8 =>
  jbR (f_X8_trimmed v5 l2 v8 M4) fun v10 =>
  some (0, v10, M4))
  else some (c1, 0, M)
def f_X9_wantComponent (l1 : Int) : Option (Int) :=
  jk (
    some 2) fun (k1 : Option (Int)) =>
  if jw l1 < 0 then (
    k1)
  else (
    if jw l1 < jw 3 then (
      some 0)
    else (
      k1))
def f_X9_mark (l1 : Int) (l2 : Int) (l3 : Int) (M : jM) : Option (Int × Int) :=
  jbR (f_X9_wantSkater l1 M) fun c1 =>
  if c1 = 0 then (
  jbR (f_X9_wantComponent l2) fun c3 =>
  if c3 = 0 then (
  jbR (f_X9_wantJudge l3 M) fun c5 =>
  if c5 = 0 then (
  jck (jkd (M 1 3) = 1) <|
  jck (0 ≤ jw l1 ∧ jw l1 < 6) <|
  jbR (f_X9_voteOfMark l2 l3) fun v10 =>
  jck (0 ≤ jw v10 ∧ jw v10 < 135) <|
  some (0, (M ((((M 1 3) + 16) + 1 + 6 * jw l1) + 5) (jw v10))))
  else some (c5, 0))
  else some (c3, 0))
  else some (c1, 0)
def f_X9_component (l1 : Int) (l2 : Int) (M : jM) : Option (Int × Int × jM) :=
  jbR (f_X9_wantSkater l1 M) fun c1 =>
  if c1 = 0 then (
  jbR (f_X9_wantComponent l2) fun c3 =>
  if c3 = 0 then (
  jbW (f_X9_tallied l1 M) fun v7 M6 =>
  jck (jkd v7 = 8) <|
  jbR (f_X9_everyJudge M6) fun v10 =>
  jbR (f_X8_shownOf v7 l2 v10 M6) fun v12 =>
  some (0, v12, M6))
  else some (c3, 0, M))
  else some (c1, 0, M)
def f_X9_total (l1 : Int) (l2 : Int) (M : jM) : Option (Int × Int × jM) :=
  jbR (f_X9_wantSkater l1 M) fun c1 =>
  if c1 = 0 then (
  jbW (f_X9_tallied l1 M) fun v5 M4 =>
  jck (jkd v5 = 8) <|
  if jw l2 < 0 ∨ 4 < jw l2 then (
    some (3, 0, M4))
  else if jw l2 = 0 then (
    some (0, (M4 v5 6), M4))
  else if jw l2 = 1 then (
    some (0, (M4 v5 7), M4))
  else if jw l2 = 2 then (
    jck (0 ≤ jw 0 ∧ jw 0 < 10) <|
    some (0, (M4 (v5 + 4) (jw 0)), M4))
  else if jw l2 = 3 then (
    some (0, (M4 v5 5), M4))
  else (
    some (0, (M4 v5 8), M4)))
  else some (c1, 0, M)
def f_X9_rule (l1 : Int) (l2 : Int) (M : jM) : Option (Int × Int × jM) :=
  jbR (f_X9_wantSkater l1 M) fun c1 =>
  if c1 = 0 then (
  jk (
    some (3, 0, M)) fun (k3 : Option (Int × Int × jM)) =>
  if jw l2 < 0 then (
    k3)
  else (
    jck (jkd (M 1 3) = 1) <|
    if jw l2 < jw (M ((M 1 3) + 7) 0) then (
      jbW (f_X9_tallied l1 M) fun v7 M6 =>
      jck (jkd v7 = 8) <|
      jbW (f_X5_amount ((M 1 3) + 7) l2 (v7 + 4) M6) fun v11 M10 =>
      some (0, v11, M10))
    else (
      k3)))
  else some (c1, 0, M)
def f_X9_rank (l1 : Int) (M : jM) : Option (Int × Int × jM) :=
  jbR (f_X9_wantSkater l1 M) fun c1 =>
  if c1 = 0 then (
  jck (jkd (M 1 3) = 1) <|
  jbV (f_X7_weigh (M 1 3) 600 M) fun M5 =>
  jbR (f_X7_rankOf l1 M5) fun v7 =>
  some (0, v7, M5))
  else some (c1, 0, M)
def f_X9_tell (l1 : Int) (l2 : Int) (l3 : Int) (l4 : Int) (M : jM) : Option (Int × Int × jM) :=
  jbR (f_X9_wantAttempt l1 l2 M) fun c1 =>
  if c1 = 0 then (
  jbR (f_X9_wantJudge l3 M) fun c3 =>
  if c3 = 0 then (
  jk (
    some (1, 0, M)) fun (k5 : Option (Int × Int × jM)) =>
  if jw l4 < jw (-5) then (
    k5)
  else (
    if jw l4 ≤ jw 5 then (
      jbR (f_X9_voteOfGrade l2 l3) fun v7 =>
      jbW (f_X9_tellVote l1 v7 l4 M) fun v10 M9 =>
      some (0, v10, M9))
    else (
      k5)))
  else some (c3, 0, M))
  else some (c1, 0, M)
def f_X9_show (l1 : Int) (l2 : Int) (l3 : Int) (l4 : Int) (M : jM) : Option (Int × Int × jM) :=
  jbR (f_X9_wantSkater l1 M) fun c1 =>
  if c1 = 0 then (
  jbR (f_X9_wantComponent l2) fun c3 =>
  if c3 = 0 then (
  jbR (f_X9_wantJudge l3 M) fun c5 =>
  if c5 = 0 then (
  jk (
    some (1, 0, M)) fun (k7 : Option (Int × Int × jM)) =>
  if jw l4 < 0 then (
    k7)
  else (
    if jw l4 ≤ jw 10 then (
      jbR (f_X9_voteOfMark l2 l3) fun v9 =>
      jbW (f_X9_tellVote l1 v9 l4 M) fun v12 M11 =>
      some (0, v12, M11))
    else (
      k7)))
  else some (c5, 0, M))
  else some (c3, 0, M))
  else some (c1, 0, M)
def f_X9_call (l1 : Int) (l2 : Int) (l3 : Int) (l4 : Int) (M : jM) : Option (Int × Int × jM) :=
  jbR (f_X9_wantAttempt l1 l2 M) fun c1 =>
  if c1 = 0 then (
  jk (
    some (1, 0, M)) fun (k3 : Option (Int × Int × jM)) =>
  if jw l3 < 0 then (
    k3)
  else (
    if jw l3 < jw 3 then (
      jck (jkd (M 1 3) = 1) <|
      jck (0 ≤ jw l1 ∧ jw l1 < 6) <|
      jck (0 ≤ jw l2 ∧ jw l2 < 12) <|
      jlet ((M ((((M 1 3) + 16) + 1 + 6 * jw l1) + 4) (jw l2))) fun l6_7 =>
      jlet ((jsl 1 l3)) fun l7_8 =>
      jbV (f_X0_keep 1 l1 l2 l6_7 M) fun M10 =>
      jk (fun (s2_11 : Int) =>
        jck (0 ≤ jw l2 ∧ jw l2 < 12) <|
        jlet (jst M10 ((((M 1 3) + 16) + 1 + 6 * jw l1) + 4) (jw l2) s2_11) fun M14 =>
        if jw (jnd l6_7 l7_8) = 0 then (
          some (0, 0, M14))
        else (
          some (0, 1, M14))) fun (k12 : Int → Option (Int × Int × jM)) =>
      if jw l4 = 0 then (
        k12 (jnd l6_7 (jxr l7_8 (-1))))
      else (
        k12 (jor l6_7 l7_8)))
    else (
      k3)))
  else some (c1, 0, M)
def f_X9_base (l1 : Int) (l2 : Int) (M : jM) : Option (Int × Int × jM) :=
  jbR (f_X9_wantElement l1 M) fun c1 =>
  if c1 = 0 then (
  jk (
    some (1, 0, M)) fun (k3 : Option (Int × Int × jM)) =>
  if jw l2 < 0 then (
    k3)
  else (
    if jw l2 ≤ jw 2000 then (
      jck (jkd (M 1 3) = 1) <|
      jck (0 ≤ jw l1 ∧ jw l1 < 10) <|
      jlet ((M ((M 1 3) + 5) (jw l1))) fun l3_6 =>
      jbV (f_X0_keep 2 0 l1 l3_6 M) fun M8 =>
      jck (jkd (M8 1 3) = 1) <|
      jck (0 ≤ jw l1 ∧ jw l1 < 10) <|
      jlet (jst M8 ((M8 1 3) + 5) (jw l1) l2) fun M11 =>
      some (0, l3_6, M11))
    else (
      k3)))
  else some (c1, 0, M)
def f_X9_set (l1 : Int) (l2 : Int) (M : jM) : Option (Int × Int × jM) :=
  jk (
    some (3, 0, M)) fun (k1 : Option (Int × Int × jM)) =>
  if jw l1 < 0 then (
    k1)
  else (
    if jw l1 < jw 7 then (
      jck (0 ≤ jw l1 ∧ jw l1 < 7) <|
      jk (
        some (1, 0, M)) fun (k3 : Option (Int × Int × jM)) =>
      if jw l2 < jw (jstt 0 (jw l1)) then (
        k3)
      else (
        jck (0 ≤ jw l1 ∧ jw l1 < 7) <|
        if jw l2 ≤ jw (jstt 1 (jw l1)) then (
          jck (jkd (M 1 3) = 1) <|
          jck (0 ≤ jw l1 ∧ jw l1 < 7) <|
          jlet ((M ((M 1 3) + 1) (jw l1))) fun l3_7 =>
          jbV (f_X0_keep 3 0 l1 l3_7 M) fun M9 =>
          jck (jkd (M9 1 3) = 1) <|
          jck (0 ≤ jw l1 ∧ jw l1 < 7) <|
          jlet (jst M9 ((M9 1 3) + 1) (jw l1) l2) fun M12 =>
          some (0, l3_7, M12))
        else (
          k3)))
    else (
      k1))
def f_X9_scratch (l1 : Int) (l2 : Int) (M : jM) : Option (Int × Int × jM) :=
  jbR (f_X9_wantAttempt l1 l2 M) fun c1 =>
  if c1 = 0 then (
  jck (jkd (M 1 3) = 1) <|
  jck (0 ≤ jw l1 ∧ jw l1 < 6) <|
  jbV (f_X0_keep 4 l1 0 (M (((M 1 3) + 16) + 1 + 6 * jw l1) 1) M) fun M6 =>
  jlet (jst M6 (((M 1 3) + 16) + 1 + 6 * jw l1) 1 (jor (M6 (((M 1 3) + 16) + 1 + 6 * jw l1) 1) (jsl 1 l2))) fun M7 =>
  jbR (f_X6_left (((M 1 3) + 16) + 1 + 6 * jw l1) M7) fun v9 =>
  some (0, v9, M7))
  else some (c1, 0, M)
def f_X9_bias (l1 : Int) (M : jM) : Option (Int × Int × jM) :=
  jbR (f_X9_wantJudge l1 M) fun c1 =>
  if c1 = 0 then (
  jck (jkd (M 1 3) = 1) <|
  jbV (f_X7_weigh (M 1 3) 600 M) fun M5 =>
  jbR (f_X7_leaning l1 M5) fun v7 =>
  some (0, v7, M5))
  else some (c1, 0, M)
def f_X9_wantOtherJudge (M : jM) : Option (Int) :=
  jck (jkd (M 1 3) = 1) <|
  if jw 2 ≤ jw (M (M 1 3) 0) then (
    some 0)
  else (
    some 4)
def f_X9_without (l1 : Int) (l2 : Int) (M : jM) : Option (Int × Int × jM) :=
  jbR (f_X9_wantSkater l1 M) fun c1 =>
  if c1 = 0 then (
  jbR (f_X9_wantJudge l2 M) fun c3 =>
  if c3 = 0 then (
  jbR (f_X9_wantOtherJudge M) fun c5 =>
  if c5 = 0 then (
  jbR (f_X9_everyJudge M) fun v8 =>
  jbW (f_X9_totalBy l1 (jnd v8 (jxr (jsl 1 l2) (-1))) M) fun v11 M10 =>
  some (0, v11, M10))
  else some (c5, 0, M))
  else some (c3, 0, M))
  else some (c1, 0, M)
def f_X9_sways (l1 : Int) (M : jM) : Option (Int × Int × jM) :=
  jbR (f_X9_wantJudge l1 M) fun c1 =>
  if c1 = 0 then (
  jbR (f_X9_wantOtherJudge M) fun c3 =>
  if c3 = 0 then (
  jck (jkd (M 1 3) = 1) <|
  jbV (f_X7_weigh (M 1 3) 600 M) fun M7 =>
  jbR (f_X9_everyJudge M7) fun v9 =>
  jbW (f_X7_turnedPairs (jnd v9 (jxr (jsl 1 l1) (-1))) M7) fun v12 M11 =>
  some (0, v12, M11))
  else some (c3, 0, M))
  else some (c1, 0, M)
def f_X9_alone (l1 : Int) (l2 : Int) (M : jM) : Option (Int × Int × jM) :=
  jbR (f_X9_wantSkater l1 M) fun c1 =>
  if c1 = 0 then (
  jbR (f_X9_wantJudge l2 M) fun c3 =>
  if c3 = 0 then (
  jbW (f_X9_totalBy l1 (jsl 1 l2) M) fun v7 M6 =>
  some (0, v7, M6))
  else some (c3, 0, M))
  else some (c1, 0, M)
def f_X9_place (l1 : Int) (l2 : Int) (M : jM) : Option (Int × Int × jM) :=
  jbR (f_X9_wantSkater l1 M) fun c1 =>
  if c1 = 0 then (
  jbR (f_X9_wantJudge l2 M) fun c3 =>
  if c3 = 0 then (
  jck (jkd (M 1 3) = 1) <|
  jbV (f_X7_weigh (M 1 3) 600 M) fun M7 =>
  jbV (f_X7_judgeBy (jsl 1 l2) M7) fun M9 =>
  jbR (f_X7_rankOf l1 M9) fun v11 =>
  some (0, v11, M9))
  else some (c3, 0, M))
  else some (c1, 0, M)
def f_X9_majority (l1 : Int) (M : jM) : Option (Int × Int × jM) :=
  jbR (f_X9_wantSkater l1 M) fun c1 =>
  if c1 = 0 then (
  jck (jkd (M 1 3) = 1) <|
  jbV (f_X7_weigh (M 1 3) 600 M) fun M5 =>
  jbV (f_X7_findMajorities M5) fun M7 =>
  jck (0 ≤ jw l1 ∧ jw l1 < 6) <|
  some (0, (M7 114 (jw l1)), M7))
  else some (c1, 0, M)
def f_X9_wantPanelSize (l1 : Int) (M : jM) : Option (Int) :=
  jk (
    some 1) fun (k1 : Option (Int)) =>
  if jw l1 < jw 1 then (
    k1)
  else (
    jck (jkd (M 1 3) = 1) <|
    if jw l1 ≤ jw (M (M 1 3) 0) then (
      some 0)
    else (
      k1))
def f_X9_panel (l1 : Int) (l2 : Int) (M : jM) : Option (Int × Int) :=
  jbR (f_X9_wantPanelSize l2 M) fun c1 =>
  if c1 = 0 then (
  jck (jkd (M 1 3) = 1) <|
  jlet ((M (M 1 3) 0)) fun l5_4 =>
  jlp3 (fun (self8 : Int → Int → Int → Option (Int × Int)) (l3_5 : Int) (l4_6 : Int) (l5_7 : Int) =>
    if jw l5_7 ≤ jw ((M (M 1 3) 0) - l2) then (
      some (0, l4_6))
    else (
      if jw l5_7 ≤ 0 then (
        some (0, l4_6))
      else (
        jlet (((1103515245 * l3_5) + 12345)) fun l3_9 =>
        jck (jw l5_7 ≠ 0) <|
        jbR (f_X9_judgeOutside l4_6 ((jw (jnd (jus l3_9 16) 32767)).tmod (jw l5_7)) M) fun v12 =>
        jlet ((jor l4_6 (jsl 1 v12))) fun l4_13 =>
        jlet (l5_7 + (-1)) fun l5_14 =>
        self8 l3_9 l4_13 l5_14))) jfuel l1 0 l5_4)
  else some (c1, 0)
def f_X9_by (l1 : Int) (l2 : Int) (M : jM) : Option (Int × Int × jM) :=
  jbR (f_X9_wantSkater l1 M) fun c1 =>
  if c1 = 0 then (
  jk (
    some (1, 0, M)) fun (k3 : Option (Int × Int × jM)) =>
  if jw l2 < jw 1 then (
    k3)
  else (
    jbR (f_X9_everyJudge M) fun v5 =>
    if jw l2 ≤ jw v5 then (
      jbW (f_X9_totalBy l1 l2 M) fun v8 M7 =>
      some (0, v8, M7))
    else (
      k3)))
  else some (c1, 0, M)
def f_X9_firsts (l1 : Int) (l2 : Int) (M : jM) : Option (Int × Int × jM) :=
  jbR (f_X9_wantSkater l1 M) fun c1 =>
  if c1 = 0 then (
  jbR (f_X9_wantPanelSize l2 M) fun c3 =>
  if c3 = 0 then (
  jck (jkd (M 1 3) = 1) <|
  jbV (f_X7_weigh (M 1 3) 600 M) fun M7 =>
  jlp3 (fun (self11 : Int → Int → jM → Option (Int × Int × jM)) (l3_8 : Int) (l4_9 : Int) (M10 : jM) =>
    jbR (f_X9_everyJudge M10) fun v13 =>
    if jw v13 < jw l4_9 then (
      some (0, l3_8, M10))
    else (
      jbR (f_J6_bitCount_0f7a4 l4_9) fun v15 =>
      if jw v15 = jw l2 then (
        jbW (f_X7_leadsBy l1 l4_9 M10) fun v19 M18 =>
        if jw v19 = 0 then (
          jlet (l4_9 + 1) fun l4_20 =>
          self11 l3_8 l4_20 M18)
        else (
          jlet (l3_8 + 1) fun l3_21 =>
          jlet (l4_9 + 1) fun l4_22 =>
          self11 l3_21 l4_22 M18))
      else (
        jlet (l4_9 + 1) fun l4_16 =>
        self11 l3_8 l4_16 M10))) jfuel 0 1 M7)
  else some (c3, 0, M))
  else some (c1, 0, M)
def f_X9_needed (l1 : Int) (l2 : Int) (M : jM) : Option (Int × Int × jM) :=
  jbR (f_X9_wantSkater l1 M) fun c1 =>
  if c1 = 0 then (
  jbR (f_X9_wantSkater l2 M) fun c3 =>
  if c3 = 0 then (
  if jw l1 = jw l2 then (
    some (1, 0, M))
  else (
    jck (jkd (M 1 3) = 1) <|
    jck (0 ≤ jw l1 ∧ jw l1 < 6) <|
    jbR (f_X6_last (((M 1 3) + 16) + 1 + 6 * jw l1) M) fun v8 =>
    if jw v8 = jw (-1) then (
      some (0, (-100), M))
    else (
      jbV (f_X7_weigh (M 1 3) 600 M) fun M10 =>
      jbW (f_X7_leastGradeAhead l1 l2 v8 M10) fun v13 M12 =>
      some (0, v13, M12))))
  else some (c3, 0, M))
  else some (c1, 0, M)
def f_X9_raise (l1 : Int) (l2 : Int) (l3 : Int) (M : jM) : Option (Int × Int × jM) :=
  jbR (f_X9_wantAttempt l1 l2 M) fun c1 =>
  if c1 = 0 then (
  jbR (f_X9_wantJudge l3 M) fun c3 =>
  if c3 = 0 then (
  jck (jkd (M 1 3) = 1) <|
  jck (0 ≤ jw l1 ∧ jw l1 < 6) <|
  jbR (f_X9_voteOfGrade l2 l3) fun v8 =>
  jck (0 ≤ jw v8 ∧ jw v8 < 135) <|
  if jw (M ((((M 1 3) + 16) + 1 + 6 * jw l1) + 5) (jw v8)) < jw 5 then (
    jbR (f_X9_everyJudge M) fun v11 =>
    jbW (f_X9_totalBy l1 v11 M) fun v14 M13 =>
    jck (0 ≤ jw v8 ∧ jw v8 < 135) <|
    jck (0 ≤ jw v8 ∧ jw v8 < 135) <|
    jlet (jst M13 ((((M 1 3) + 16) + 1 + 6 * jw l1) + 5) (jw v8) ((M13 ((((M 1 3) + 16) + 1 + 6 * jw l1) + 5) (jw v8)) + 1)) fun M17 =>
    jbR (f_X9_everyJudge M17) fun v19 =>
    jbW (f_X9_totalBy l1 v19 M17) fun v22 M21 =>
    jck (0 ≤ jw v8 ∧ jw v8 < 135) <|
    jck (0 ≤ jw v8 ∧ jw v8 < 135) <|
    jlet (jst M21 ((((M 1 3) + 16) + 1 + 6 * jw l1) + 5) (jw v8) ((M21 ((((M 1 3) + 16) + 1 + 6 * jw l1) + 5) (jw v8)) - 1)) fun M25 =>
    some (0, (v22 - v14), M25))
  else (
    some (4, 0, M)))
  else some (c3, 0, M))
  else some (c1, 0, M)
def f_X9_prime (l1 : Int) (l2 : Int) (M : jM) : Option (Int × Int × jM) :=
  jbR (f_X9_wantSkater l1 M) fun c1 =>
  if c1 = 0 then (
  jk (
    some (1, 0, M)) fun (k3 : Option (Int × Int × jM)) =>
  if jw l2 < 0 then (
    k3)
  else (
    if jw l2 ≤ jw 12 then (
      jbW (f_X9_tallied l1 M) fun v6 M5 =>
      jck (jkd v6 = 8) <|
      jbR (f_X8_bestLate v6 l2 M5) fun v9 =>
      some (0, v9, M5))
    else (
      k3)))
  else some (c1, 0, M)
def f_X9_led (l1 : Int) (M : jM) : Option (Int × Int × jM) :=
  jk (
    some (1, 0, M)) fun (k1 : Option (Int × Int × jM)) =>
  if jw l1 < 0 then (
    k1)
  else (
    if jw l1 ≤ jw 600 then (
      jck (jkd (M 1 3) = 1) <|
      jbV (f_X7_weigh (M 1 3) l1 M) fun M4 =>
      jbR (f_X7_skaterAt 0 M4) fun v6 =>
      some (0, v6, M4))
    else (
      k1))
def f_X9_doubt (l1 : Int) (M : jM) : Option (Int × Int) :=
  jbR (f_X9_wantSkater l1 M) fun c1 =>
  if c1 = 0 then (
  jck (jkd (M 1 3) = 1) <|
  jck (0 ≤ jw l1 ∧ jw l1 < 6) <|
  jbR (f_X6_widest (((M 1 3) + 16) + 1 + 6 * jw l1) (M (M 1 3) 0) M) fun v6 =>
  some (0, v6))
  else some (c1, 0)
def f_X9_clean (l1 : Int) (M : jM) : Option (Int × Int × jM) :=
  jbR (f_X9_wantSkater l1 M) fun c1 =>
  if c1 = 0 then (
  jck (0 ≤ jw l1 ∧ jw l1 < 6) <|
  jck (jkd (M 1 3) = 1) <|
  jbV (f_X8_weigh (111 + 6 + 7 * jw l1) (M 1 3) l1 600 0 M) fun M6 =>
  some (0, (M6 (111 + 6 + 7 * jw l1) 8), M6))
  else some (c1, 0, M)
def f_X9_write (l1 : Int) (M : jM) : Option (Int × Int × jM) :=
  jbR (f_X9_wantSkater l1 M) fun c1 =>
  if c1 = 0 then (
  jck (jkd (M 1 3) = 1) <|
  jbW (f_X9_tallied l1 M) fun v6 M5 =>
  jck (jkd v6 = 8) <|
  jbV (f_X3_putSkater (M 1 3) l1 v6 M5) fun M9 =>
  some (0, (M9 164 1), M9))
  else some (c1, 0, M)
def f_X10_fact (M : jM) : Option (jM) :=
  jbV (f_X10_sum M) fun M2 =>
  jbV (f_X10_blanks M2) fun M4 =>
  jk (fun (s0_5 : Int) =>
    jbR (f_X10_hasFailed M4) fun v8 =>
    jk (
      jbV (f_X10_fails M4) fun M11 =>
      some M11) fun (k9 : Option (jM)) =>
    if jw v8 = 0 then (
      jk (
        jlet (jst M4 166 4 ((M4 166 4) + 1)) fun M13 =>
        jbV (f_X10_sum M13) fun M15 =>
        jk (fun (s1_16 : Int) =>
          jbV (f_X10_code s1_16 M15) fun M19 =>
          some M19) fun (k17 : Int → Option (jM)) =>
        if jw s0_5 = jw 60 then (
          k17 10004)
        else (
          if jw s0_5 = jw 61 then (
            k17 10005)
          else (
            k17 10006))) fun (k12 : Option (jM)) =>
      if jw s0_5 = jw 60 then (
        k12)
      else (
        if jw s0_5 = jw 61 then (
          k12)
        else (
          if jw s0_5 = jw 62 then (
            k12)
          else (
            k9))))
    else (
      k9)) fun (k6 : Int → Option (jM)) =>
  if jw (M4 166 6) ≤ jw (M4 166 4) then (
    k6 0)
  else (
    jck (0 ≤ jw (M4 166 4) ∧ jw (M4 166 4) < 600) <|
    k6 (M4 167 (jw (M4 166 4))))
def f_X10_part (M : jM) : Option (jM) :=
  jbV (f_X10_fact M) fun M2 =>
  jlp1 (fun (self4 : jM → Option (jM)) (M3 : jM) =>
    jbW (f_X10_takesWord 49 M3) fun v7 M6 =>
    if jw v7 = 0 then (
      some M6)
    else (
      jbV (f_X10_fact M6) fun M9 =>
      jbV (f_X10_code 10007 M9) fun M11 =>
      self4 M11)) jfuel M2
def f_X10_test (M : jM) : Option (jM) :=
  jbV (f_X10_part M) fun M2 =>
  jlp1 (fun (self4 : jM → Option (jM)) (M3 : jM) =>
    jbW (f_X10_takesWord 50 M3) fun v7 M6 =>
    if jw v7 = 0 then (
      some M6)
    else (
      jbV (f_X10_part M6) fun M9 =>
      jbV (f_X10_code 10008 M9) fun M11 =>
      self4 M11)) jfuel M2
def f_X10_ruleLine (M : jM) : Option (jM) :=
  jck (0 ≤ jw 3 ∧ jw 3 < 1089) <|
  jck (0 ≤ jw 3 ∧ jw 3 < 1089) <|
  jck (0 ≤ jw (482 + (M 171 (jw 3))) ∧ jw (482 + (M 171 (jw 3))) < 1089) <|
  jck (0 ≤ jw ((482 + (M 171 (jw 3))) + 1) ∧ jw ((482 + (M 171 (jw 3))) + 1) < 1089) <|
  jlet (jst M 171 (jw ((482 + (M 171 (jw 3))) + 1)) (M 171 (jw (482 + (M 171 (jw 3)))))) fun M5 =>
  jbV (f_X10_sum M5) fun M7 =>
  jbW (f_X10_takesWord 48 M7) fun v10 M9 =>
  jk (fun (M11 : jM) =>
    jck (0 ≤ jw 3 ∧ jw 3 < 1089) <|
    jck (0 ≤ jw 3 ∧ jw 3 < 1089) <|
    jlet (jst M11 171 (jw 3) ((M11 171 (jw 3)) + 1)) fun M15 =>
    some M15) fun (k12 : jM → Option (jM)) =>
  if jw v10 = 0 then (
    k12 M9)
  else (
    jbV (f_X10_test M9) fun M17 =>
    jbV (f_X10_code 10009 M17) fun M19 =>
    k12 M19)
def f_X10_line (M : jM) : Option (jM) :=
  jbV (f_X10_blanks M) fun M2 =>
  jck (0 ≤ jw 1 ∧ jw 1 < 1089) <|
  jlet (((M2 171 (jw 1)) - 1)) fun l1_4 =>
  jk (fun (s0_5 : Int) =>
    jck (0 ≤ jw 0 ∧ jw 0 < 1089) <|
    jk (fun (s2_8 : Int) =>
      jbW (f_X10_begins 29 s2_8 M2) fun v12 M11 =>
      jk (fun (M13 : jM) =>
        jbV (f_X10_asksSign 59 M13) fun M16 =>
        some M16) fun (k14 : jM → Option (jM)) =>
      if jw v12 = 0 then (
        jk (fun (s2_17 : Int) =>
          jbW (f_X10_begins 33 s2_17 M11) fun v21 M20 =>
          if jw v21 = 0 then (
            jbW (f_X10_takesWord 34 M20) fun v24 M23 =>
            if jw v24 = 0 then (
              jbW (f_X10_takesWord 35 M23) fun v27 M26 =>
              if jw v27 = 0 then (
                jbW (f_X10_takesWord 36 M26) fun v30 M29 =>
                if jw v30 = 0 then (
                  jbW (f_X10_takesWord 37 M29) fun v33 M32 =>
                  if jw v33 = 0 then (
                    jbW (f_X10_takesWord 38 M32) fun v36 M35 =>
                    if jw v36 = 0 then (
                      jck (0 ≤ jw 3 ∧ jw 3 < 1089) <|
                      jk (fun (s2_38 : Int) =>
                        jbW (f_X10_begins 39 s2_38 M35) fun v42 M41 =>
                        if jw v42 = 0 then (
                          jck (0 ≤ jw 1 ∧ jw 1 < 1089) <|
                          jk (fun (s2_44 : Int) =>
                            jbW (f_X10_begins 51 s2_44 M41) fun v48 M47 =>
                            if jw v48 = 0 then (
                              jk (fun (s2_49 : Int) =>
                                jbW (f_X10_begins 52 s2_49 M47) fun v53 M52 =>
                                if jw v53 = 0 then (
                                  jbW (f_X10_begins 56 s0_5 M52) fun v56 M55 =>
                                  if jw v56 = 0 then (
                                    jbW (f_X10_begins 57 s0_5 M55) fun v59 M58 =>
                                    if jw v59 = 0 then (
                                      jbV (f_X10_fails M58) fun M61 =>
                                      k14 M61)
                                    else (
                                      jbR (f_J9_max_7cf53 0 l1_4) fun v63 =>
                                      jbW (f_X10_number 0 600 M58) fun v66 M65 =>
                                      jck (0 ≤ jw (110 + v63) ∧ jw (110 + v63) < 1089) <|
                                      jlet (jst M65 171 (jw (110 + v63)) v66) fun M68 =>
                                      k14 M68))
                                  else (
                                    jlp2 (fun (self71 : Int → jM → Option (jM)) (l3_69 : Int) (M70 : jM) =>
                                      if jw 3 ≤ jw l3_69 then (
                                        jlet (jst M70 166 14 1) fun M72 =>
                                        k14 M72)
                                      else (
                                        jbR (f_J9_max_7cf53 0 l1_4) fun v74 =>
                                        jbV (f_X10_letters (648 + (9 * ((3 * v74) + l3_69))) 0 M70) fun M76 =>
                                        jlet (l3_69 + 1) fun l3_77 =>
                                        self71 l3_77 M76)) jfuel 0 M55))
                                else (
                                  jbR (f_X10_hasFailed M52) fun v79 =>
                                  if jw v79 = 0 then (
                                    jbV (f_X10_doLine M52) fun M81 =>
                                    k14 M81)
                                  else (
                                    k14 M52))) fun (k50 : Int → Option (jM)) =>
                              jk (
                                k50 0) fun (k82 : Option (jM)) =>
                              if jw s0_5 = 0 then (
                                k82)
                              else (
                                jbR (f_J9_max_7cf53 0 l1_4) fun v84 =>
                                jck (0 ≤ jw (116 + v84) ∧ jw (116 + v84) < 1089) <|
                                if jw 12 ≤ jw (M47 171 (jw (116 + v84))) then (
                                  k82)
                                else (
                                  k50 1)))
                            else (
                              jck (0 ≤ jw 1 ∧ jw 1 < 1089) <|
                              jbV (f_X10_freshName 74 (M47 171 (jw 1)) M47) fun M88 =>
                              jck (0 ≤ jw 1 ∧ jw 1 < 1089) <|
                              jck (0 ≤ jw 1 ∧ jw 1 < 1089) <|
                              jlet (jst M88 171 (jw 1) ((M88 171 (jw 1)) + 1)) fun M91 =>
                              k14 M91)) fun (k45 : Int → Option (jM)) =>
                          if jw 6 ≤ jw (M41 171 (jw 1)) then (
                            k45 0)
                          else (
                            k45 1))
                        else (
                          jbR (f_X10_hasFailed M41) fun v93 =>
                          if jw v93 = 0 then (
                            jbV (f_X10_ruleLine M41) fun M95 =>
                            k14 M95)
                          else (
                            k14 M41))) fun (k39 : Int → Option (jM)) =>
                      if jw 6 ≤ jw (M35 171 (jw 3)) then (
                        k39 0)
                      else (
                        k39 1))
                    else (
                      jbW (f_X10_number 1 3 M35) fun v98 M97 =>
                      jck (0 ≤ jw 967 ∧ jw 967 < 971) <|
                      jlet (jst M97 172 (jw 967) v98) fun M100 =>
                      k14 M100))
                  else (
                    jbW (f_X10_number 0 50 M32) fun v103 M102 =>
                    jck (0 ≤ jw 966 ∧ jw 966 < 971) <|
                    jlet (jst M102 172 (jw 966) v103) fun M105 =>
                    k14 M105))
                else (
                  jbW (f_X10_number 0 600 M29) fun v108 M107 =>
                  jck (0 ≤ jw 965 ∧ jw 965 < 971) <|
                  jlet (jst M107 172 (jw 965) v108) fun M110 =>
                  k14 M110))
              else (
                jlp2 (fun (self113 : Int → jM → Option (jM)) (l3_111 : Int) (M112 : jM) =>
                  if jw 3 ≤ jw l3_111 then (
                    k14 M112)
                  else (
                    jbW (f_X10_number 0 300 M112) fun v116 M115 =>
                    jck (0 ≤ jw (968 + l3_111) ∧ jw (968 + l3_111) < 971) <|
                    jlet (jst M115 172 (jw (968 + l3_111)) v116) fun M118 =>
                    jlet (l3_111 + 1) fun l3_119 =>
                    self113 l3_119 M118)) jfuel 0 M26))
            else (
              jbW (f_X10_number 0 3 M23) fun v122 M121 =>
              jck (0 ≤ jw 964 ∧ jw 964 < 971) <|
              jlet (jst M121 172 (jw 964) v122) fun M124 =>
              k14 M124))
          else (
            jbW (f_X10_number 1 9 M20) fun v127 M126 =>
            jck (0 ≤ jw 2 ∧ jw 2 < 1089) <|
            jlet (jst M126 171 (jw 2) v127) fun M129 =>
            k14 M129)) fun (k18 : Int → Option (jM)) =>
        if jw (M11 166 14) = 0 then (
          k18 1)
        else (
          k18 0))
      else (
        jbR (f_X10_hasFailed M11) fun v131 =>
        if jw v131 = 0 then (
          jbV (f_X10_elementLine M11) fun M133 =>
          k14 M133)
        else (
          k14 M11))) fun (k9 : Int → Option (jM)) =>
    if jw 10 ≤ jw (M2 171 (jw 0)) then (
      k9 0)
    else (
      k9 1)) fun (k6 : Int → Option (jM)) =>
  if jw l1_4 < 0 then (
    k6 0)
  else (
    k6 1)
def f_X10_read (M : jM) : Option (Int × jM) :=
  jlet (jst M 166 0 0) fun M1 =>
  jlet (jst M1 166 6 (M1 166 2)) fun M2 =>
  jlet (jst M2 166 2 0) fun M3 =>
  jlet (jst M3 166 4 0) fun M4 =>
  jlet (jst M4 166 7 (-1)) fun M5 =>
  jlet (jst M5 166 13 0) fun M6 =>
  jlet (jst M6 166 14 0) fun M7 =>
  jbV (f_X10_usual M7) fun M9 =>
  jbV (f_X10_blanks M9) fun M11 =>
  jlp1 (fun (self13 : jM → Option (Int × jM)) (M12 : jM) =>
    jbR (f_X10_hasFailed M12) fun v15 =>
    jk (
      jlet (jst M12 166 8 (M12 166 7)) fun M17 =>
      jbR (f_X10_hasFailed M17) fun v19 =>
      jbW (f_X10_throwsIf v19 1 M17) fun v22 M21 =>
      if jw v22 = 0 then (
        jbV (f_X10_taken M21) fun M24 =>
        jlet (jst M24 166 29 0) fun M25 =>
        jck (0 ≤ jw 1 ∧ jw 1 < 1089) <|
        some ((M25 169 (jw 1)), M25))
      else (
        some (0, M21))) fun (k16 : Option (Int × jM)) =>
    if jw v15 = 0 then (
      if jw (M12 166 6) ≤ jw (M12 166 4) then (
        k16)
      else (
        jbV (f_X10_line M12) fun M28 =>
        jbV (f_X10_blanks M28) fun M30 =>
        self13 M30))
    else (
      k16)) jfuel M11
def f_X10_saysHundredths (l1 : Int) (M : jM) : Option (jM) :=
  jbR (f_J9_abs_0f7a4 l1) fun v2 =>
  jk (fun (M3 : jM) =>
    jbV (f_X10_saysNumber ((jw v2).tdiv (jw 100)) M3) fun M6 =>
    jbV (f_X10_says 46 M6) fun M8 =>
    jbV (f_X10_says (48 + ((jw ((jw v2).tdiv (jw 10))).tmod (jw 10))) M8) fun M10 =>
    jbV (f_X10_says (48 + ((jw v2).tmod (jw 10))) M10) fun M12 =>
    some M12) fun (k4 : jM → Option (jM)) =>
  if 0 ≤ jw l1 then (
    k4 M)
  else (
    jbV (f_X10_says 45 M) fun M14 =>
    k4 M14)
def f_X10_saysTry (l1 : Int) (l2 : Int) (M : jM) : Option (jM) :=
  jbV (f_X10_says 10 M) fun M2 =>
  jlp2 (fun (self5 : Int → jM → Option (jM)) (l3_3 : Int) (M4 : jM) =>
    jbR (f_X10_elementsOf l1 l2 M4) fun v7 =>
    if jw v7 ≤ jw l3_3 then (
      jbR (f_X10_callsOf l1 l2 M4) fun v9 =>
      jbR (f_X10_isIn v9 0) fun v11 =>
      jk (fun (M12 : jM) =>
        jbR (f_X10_callsOf l1 l2 M12) fun v15 =>
        jbR (f_X10_isIn v15 1) fun v17 =>
        jk (fun (M18 : jM) =>
          jbR (f_X10_isLate l1 l2 M18) fun v21 =>
          jk (fun (M22 : jM) =>
            jbV (f_X10_says 32 M22) fun M25 =>
            jbW (f_X10_pointsAt l1 l2 M25) fun v28 M27 =>
            jbV (f_X10_saysHundredths v28 M27) fun M30 =>
            some M30) fun (k23 : jM → Option (jM)) =>
          if jw v21 = 0 then (
            k23 M18)
          else (
            jbV (f_X10_says 120 M18) fun M32 =>
            k23 M32)) fun (k19 : jM → Option (jM)) =>
        if jw v17 = 0 then (
          k19 M12)
        else (
          jbV (f_X10_says 33 M12) fun M34 =>
          k19 M34)) fun (k13 : jM → Option (jM)) =>
      if jw v11 = 0 then (
        k13 M4)
      else (
        jbV (f_X10_says 60 M4) fun M36 =>
        k13 M36))
    else (
      jk (fun (M37 : jM) =>
        jbR (f_X10_elementOf l1 l2 l3_3 M37) fun v40 =>
        jbV (f_X10_saysName (14 + (6 * v40)) M37) fun M42 =>
        jlet (l3_3 + 1) fun l3_43 =>
        self5 l3_43 M42) fun (k38 : jM → Option (jM)) =>
      if jw l3_3 ≤ 0 then (
        k38 M4)
      else (
        jbV (f_X10_says 43 M4) fun M45 =>
        k38 M45))) jfuel 0 M2
def f_X10_write (l1 : Int) (M : jM) : Option (Int × jM) :=
  jlet (jst M 166 0 0) fun M1 =>
  jbV (f_X10_all M1) fun M3 =>
  jbW (f_X10_noSkater l1 M3) fun v6 M5 =>
  if jw v6 = 0 then (
    jlet (jst M5 166 31 0) fun M7 =>
    jbV (f_X10_saysName (74 + (6 * l1)) M7) fun M9 =>
    jbV (f_X10_says 32 M9) fun M11 =>
    jbW (f_X10_totalOf l1 M11) fun v14 M13 =>
    jbV (f_X10_saysHundredths v14 M13) fun M16 =>
    jlp2 (fun (self19 : Int → jM → Option (Int × jM)) (l2_17 : Int) (M18 : jM) =>
      jck (0 ≤ jw (116 + l1) ∧ jw (116 + l1) < 1089) <|
      if jw (M18 169 (jw (116 + l1))) ≤ jw l2_17 then (
        some ((M18 166 31), M18))
      else (
        jbR (f_X10_is l1 l2_17 M18) fun v22 =>
        if jw v22 = 0 then (
          jlet (l2_17 + 1) fun l2_23 =>
          self19 l2_23 M18)
        else (
          jbV (f_X10_saysTry l1 l2_17 M18) fun M25 =>
          jlet (l2_17 + 1) fun l2_26 =>
          self19 l2_26 M25))) jfuel 0 M16)
  else (
    some (0, M5))
