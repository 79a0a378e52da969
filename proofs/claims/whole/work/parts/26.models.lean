/-! ===== what the methods do (those that call themselves, those that throw); by program ===== -/
def g_X10_atom (self : Nat → jM → Option (jM)) (M : jM) : Option (jM) :=
  jbW (f_X10_isSign 40 M) fun v3 M2 =>
  if jw v3 = 0 then (
    jbW (f_X10_wordTold M2) fun v6 M5 =>
    if jw v6 = jw (-1) then (
      jbW (f_X10_number 0 9999 M5) fun v15 M14 =>
      jbV (f_X10_code v15 M14) fun M17 =>
      some M17)
    else (
      jbW (f_X10_wordMany M5) fun v9 M8 =>
      jlet (jst M8 166 4 ((M5 166 4) + v9)) fun M10 =>
      jbV (f_X10_code (10020 + v6) M10) fun M12 =>
      some M12))
  else (
    jk (fun (M18 : jM) =>
      jlet (jst M18 166 13 ((M18 166 13) + 1)) fun M20 =>
      jlet (jst M20 166 4 ((M20 166 4) + 1)) fun M21 =>
      jbV (self 2 M21) fun M23 =>
      jbV (f_X10_asksSign 41 M23) fun M25 =>
      jlet (jst M25 166 13 ((M25 166 13) - 1)) fun M26 =>
      some M26) fun (k19 : jM → Option (jM)) =>
    if jw (M2 166 13) = jw 4 then (
      jbV (f_X10_fails M2) fun M28 =>
      k19 M28)
    else (
      k19 M2))
def g_X10_term (self : Nat → jM → Option (jM)) (M : jM) : Option (jM) :=
  jbV (self 0 M) fun M2 =>
  jlp1 (fun (self4 : jM → Option (jM)) (M3 : jM) =>
    jbW (f_X10_takes 42 M3) fun v7 M6 =>
    if jw v7 = 0 then (
      some M6)
    else (
      jbV (self 0 M6) fun M9 =>
      jbV (f_X10_code 10003 M9) fun M11 =>
      self4 M11)) jfuel M2
def g_X10_sum (self : Nat → jM → Option (jM)) (M : jM) : Option (jM) :=
  jbR (f_X10_hasFailed M) fun v2 =>
  if jw v2 = 0 then (
    jbV (self 1 M) fun M4 =>
    jlp1 (fun (self6 : jM → Option (jM)) (M5 : jM) =>
      jbW (f_X10_isSign 43 M5) fun v9 M8 =>
      jk (fun (M10 : jM) =>
        jck (0 ≤ jw (M10 166 4) ∧ jw (M10 166 4) < 600) <|
        jlet ((M10 167 (jw (M10 166 4)))) fun l1_13 =>
        jlet (jst M10 166 4 ((M10 166 4) + 1)) fun M14 =>
        jbV (self 1 M14) fun M16 =>
        jk (fun (s1_17 : Int) =>
          jbV (f_X10_code s1_17 M16) fun M20 =>
          self6 M20) fun (k18 : Int → Option (jM)) =>
        if jw l1_13 = jw 43 then (
          k18 10001)
        else (
          k18 10002)) fun (k11 : jM → Option (jM)) =>
      if jw v9 = 0 then (
        jbW (f_X10_isSign 45 M8) fun v23 M22 =>
        if jw v23 = 0 then (
          some M22)
        else (
          k11 M22))
      else (
        k11 M8)) jfuel M4)
  else (
    some M)
def f_X10_g : Nat → Nat → jM → Option (jM)
  | 0, _, _ => none
  | f + 1, k, M => if k = 0 then g_X10_atom (f_X10_g f) M else if k = 1 then g_X10_term (f_X10_g f) M else g_X10_sum (f_X10_g f) M
def f_X10_atom (M : jM) : Option (jM) := f_X10_g 24 0 M
def f_X10_term (M : jM) : Option (jM) := f_X10_g 24 1 M
def f_X10_sum (M : jM) : Option (jM) := f_X10_g 24 2 M
def g_X4_sum (self : Nat → Int → jM → Option (Int × jM)) (l1 : Int) (M : jM) : Option (Int × jM) :=
  jlp4 (fun (self5 : Int → Int → Int → jM → Option (Int × jM)) (l2_1 : Int) (l3_2 : Int) (l4_3 : Int) (M4 : jM) =>
    if jw 600 < jw l4_3 then (
      jbW (f_X4_refuse M4) fun v8 M7 =>
      jck (jw v8 = 0 ∨ jw v8 = 1) <| some (v8, M7))
    else (
      jbW (self 1 l1 M4) fun v12 M11 =>
      if jw v12 = 0 then (
        some (0, M11))
      else (
        jk (fun (M13 : jM) =>
          jk (fun (s0_15 : Int) =>
            jk (fun (l3_17 : Int) (M18 : jM) =>
              jk (
                jk (fun (s0_21 : Int) =>
                  jbV (f_X4_advance M18) fun M24 =>
                  jlet (l4_3 + 1) fun l4_25 =>
                  self5 s0_15 s0_21 l4_25 M24) fun (k22 : Int → Option (Int × jM)) =>
                if jw s0_15 = 0 then (
                  if jw (M18 109 3) = jw 43 then (
                    k22 (-1))
                  else (
                    k22 (-2)))
                else (
                  k22 l3_17)) fun (k20 : Option (Int × jM)) =>
              if jw s0_15 = 0 then (
                if jw (M18 109 3) = jw 43 then (
                  k20)
                else (
                  if jw (M18 109 3) = jw 45 then (
                    k20)
                  else (
                    some (1, M18))))
              else (
                k20)) fun (k19 : Int → jM → Option (Int × jM)) =>
            if jw s0_15 = 0 then (
              if jw l3_2 = 0 then (
                k19 l3_2 M13)
              else (
                jck (jkd (M13 109 1) = 1) <|
                jbV (f_X5_add ((M13 109 1) + 7) l3_2 M13) fun M28 =>
                k19 0 M28))
            else (
              k19 l3_2 M13)) fun (k16 : Int → Option (Int × jM)) =>
          if jw (M13 109 3) = jw 42 then (
            k16 1)
          else (
            k16 0)) fun (k14 : jM → Option (Int × jM)) =>
        if jw l2_1 = 0 then (
          k14 M11)
        else (
          jck (jkd (M11 109 1) = 1) <|
          jbV (f_X5_add ((M11 109 1) + 7) (-3) M11) fun M31 =>
          k14 M31)))) jfuel 0 0 0 M
def g_X4_atom (self : Nat → Int → jM → Option (Int × jM)) (l1 : Int) (M : jM) : Option (Int × jM) :=
  if jw (M 109 3) = jw 40 then (
    if jw l1 < jw 4 then (
      jbV (f_X4_advance M) fun M15 =>
      jbW (self 0 (l1 + 1) M15) fun v18 M17 =>
      if jw v18 = 0 then (
        some (0, M17))
      else (
        jbW (f_X4_sign 41 M17) fun v21 M20 =>
        if jw v21 = 0 then (
          some (0, M20))
        else (
          some (1, M20))))
    else (
      jbW (f_X4_refuse M) fun v24 M23 =>
      jck (jw v24 = 0 ∨ jw v24 = 1) <| some (v24, M23)))
  else (
    jbR (f_X4_among 2 M) fun v2 =>
    if jw v2 = jw (-1) then (
      jbW (f_X4_number 0 9999 M) fun v5 M4 =>
      if jw v5 = 0 then (
        some (0, M4))
      else (
        jck (jkd (M4 109 1) = 1) <|
        jbV (f_X5_add ((M4 109 1) + 7) (M4 109 6) M4) fun M8 =>
        some (1, M8)))
    else (
      jck (jkd (M 109 1) = 1) <|
      jbV (f_X5_add ((M 109 1) + 7) (10000 + v2) M) fun M11 =>
      jbV (f_X4_advance M11) fun M13 =>
      some (1, M13)))
def f_X4_g : Nat → Nat → Int → jM → Option (Int × jM)
  | 0, _, _, _ => none
  | f + 1, k, l1, M => if k = 0 then g_X4_sum (f_X4_g f) l1 M else g_X4_atom (f_X4_g f) l1 M
def f_X4_sum (l1 : Int) (M : jM) : Option (Int × jM) := f_X4_g 24 0 l1 M
def f_X4_atom (l1 : Int) (M : jM) : Option (Int × jM) := f_X4_g 24 1 l1 M
def g_X10_saysNumber (self : Nat → Int → jM → Option (jM)) (l1 : Int) (M : jM) : Option (jM) :=
  jk (fun (M1 : jM) =>
    jbV (f_X10_says (48 + ((jw l1).tmod (jw 10))) M1) fun M4 =>
    some M4) fun (k2 : jM → Option (jM)) =>
  if jw l1 ≤ jw 9 then (
    k2 M)
  else (
    jbV (self 0 ((jw l1).tdiv (jw 10)) M) fun M6 =>
    k2 M6)
def f_X10_sn : Nat → Nat → Int → jM → Option (jM)
  | 0, _, _, _ => none
  | f + 1, k, l1, M => g_X10_saysNumber (f_X10_sn f) l1 M
def f_X10_saysNumber (l1 : Int) (M : jM) : Option (jM) := f_X10_sn 12 0 l1 M
def f_X4_test (M : jM) : Option (Int × jM) :=
  jck (jkd (M 109 1) = 1) <|
  jlp4 (fun (self6 : Int → Int → Int → jM → Option (Int × jM)) (l2_2 : Int) (l3_3 : Int) (l4_4 : Int) (M5 : jM) =>
    if jw 600 < jw l4_4 then (
      jbW (f_X4_refuse M5) fun v9 M8 =>
      jck (jw v9 = 0 ∨ jw v9 = 1) <| some (v9, M8))
    else (
      jbW (f_X4_sum 0 M5) fun v13 M12 =>
      if jw v13 = 0 then (
        some (0, M12))
      else (
        jbR (f_X4_relation M12) fun v15 =>
        if jw v15 = jw (-1) then (
          jbW (f_X4_refuse M12) fun v44 M43 =>
          jck (jw v44 = 0 ∨ jw v44 = 1) <| some (v44, M43))
        else (
          jbV (f_X4_advance M12) fun M17 =>
          jbW (f_X4_sum 0 M17) fun v20 M19 =>
          if jw v20 = 0 then (
            some (0, M19))
          else (
            jbV (f_X5_add ((M 109 1) + 7) v15 M19) fun M22 =>
            jk (fun (M23 : jM) =>
              jbR (f_X4_among 4 M23) fun v26 =>
              jk (fun (s0_27 : Int) =>
                jk (fun (l3_29 : Int) (M30 : jM) =>
                  if jw v26 = jw (-1) then (
                    some (1, M30))
                  else (
                    jk (fun (s0_32 : Int) =>
                      jbV (f_X4_advance M30) fun M35 =>
                      jlet (l4_4 + 1) fun l4_36 =>
                      self6 s0_27 s0_32 l4_36 M35) fun (k33 : Int → Option (Int × jM)) =>
                    jk (
                      k33 1) fun (k37 : Option (Int × jM)) =>
                    if jw l3_29 = 0 then (
                      if jw s0_27 = 0 then (
                        k37)
                      else (
                        k33 0))
                    else (
                      k37))) fun (k31 : Int → jM → Option (Int × jM)) =>
                if jw l3_3 = 0 then (
                  k31 l3_3 M23)
                else (
                  if jw s0_27 = 0 then (
                    jbV (f_X5_add ((M 109 1) + 7) (-8) M23) fun M39 =>
                    k31 0 M39)
                  else (
                    k31 l3_3 M23))) fun (k28 : Int → Option (Int × jM)) =>
              if jw v26 = 0 then (
                k28 1)
              else (
                k28 0)) fun (k24 : jM → Option (Int × jM)) =>
            if jw l2_2 = 0 then (
              k24 M22)
            else (
              jbV (f_X5_add ((M 109 1) + 7) (-7) M22) fun M41 =>
              k24 M41)))))) jfuel 0 0 0 M
def f_X4_deductLine (M : jM) : Option (Int × jM) :=
  jck (jkd (M 109 1) = 1) <|
  jbR (f_X5_isFull ((M 109 1) + 7) M) fun v3 =>
  if jw v3 = 0 then (
    jlet ((M ((M 109 1) + 7) 1)) fun l2_4 =>
    jbV (f_X4_advance M) fun M6 =>
    jbW (f_X4_sum 0 M6) fun v9 M8 =>
    if jw v9 = 0 then (
      some (0, M8))
    else (
      jlet ((M8 ((M 109 1) + 7) 1)) fun l3_10 =>
      jbR (f_X4_among 3 M8) fun v12 =>
      jk (fun (M13 : jM) =>
        jbV (f_X5_close ((M 109 1) + 7) l2_4 l3_10 M13) fun M16 =>
        some (1, M16)) fun (k14 : jM → Option (Int × jM)) =>
      if jw v12 = jw (-1) then (
        k14 M8)
      else (
        jbV (f_X4_advance M8) fun M18 =>
        jbW (f_X4_test M18) fun v21 M20 =>
        if jw v21 = 0 then (
          some (0, M20))
        else (
          k14 M20))))
  else (
    jbW (f_X4_refuse M) fun v24 M23 =>
    jck (jw v24 = 0 ∨ jw v24 = 1) <| some (v24, M23))
def f_X4_faultOf (l1 : Int) (l2 : Int) (M : jM) : Option (Int × jM) :=
  jbV (f_X4_start l1 l2 M) fun M2 =>
  jlp3 (fun (self6 : Int → Int → jM → Option (Int × jM)) (l3_3 : Int) (l4_4 : Int) (M5 : jM) =>
    jk (
      some ((M5 109 7), M5)) fun (k7 : Option (Int × jM)) =>
    if jw 600 < jw l4_4 then (
      k7)
    else (
      if jw l3_3 = 0 then (
        k7)
      else (
        if jw (M5 109 3) = jw (-1) then (
          k7)
        else (
          jbR (f_X4_among 0 M5) fun v9 =>
          jk (fun (l3_10 : Int) (M11 : jM) =>
            jk (fun (s0_13 : Int) (M14 : jM) =>
              jlet (l4_4 + 1) fun l4_16 =>
              self6 s0_13 l4_16 M14) fun (k15 : Int → jM → Option (Int × jM)) =>
            jk (fun (M17 : jM) =>
              k15 0 M17) fun (k18 : jM → Option (Int × jM)) =>
            if jw l3_10 = 0 then (
              k18 M11)
            else (
              jbW (f_X4_sign 59 M11) fun v21 M20 =>
              if jw v21 = 0 then (
                k18 M20)
              else (
                k15 1 M20))) fun (k12 : Int → jM → Option (Int × jM)) =>
          if jw v9 < (-1) ∨ 6 < jw v9 then (
            jbW (f_X4_settingLine (v9 - 7) M5) fun v24 M23 =>
            k12 v24 M23)
          else if jw v9 = (-1) then (
            jbW (f_X4_refuse M5) fun v27 M26 =>
            k12 v27 M26)
          else if jw v9 = 0 then (
            jbW (f_X4_elementLine M5) fun v30 M29 =>
            k12 v30 M29)
          else if jw v9 = 1 then (
            jbW (f_X4_judgesLine M5) fun v33 M32 =>
            k12 v33 M32)
          else if jw v9 = 2 then (
            jbW (f_X4_deductLine M5) fun v36 M35 =>
            k12 v36 M35)
          else if jw v9 = 3 then (
            jbW (f_X4_skaterLine M5) fun v39 M38 =>
            k12 v39 M38)
          else if jw v9 = 4 then (
            jbW (f_X4_doLine M5) fun v42 M41 =>
            k12 v42 M41)
          else if jw v9 = 5 then (
            jbW (f_X4_showLine M5) fun v45 M44 =>
            k12 v45 M44)
          else (
            jbW (f_X4_lastsLine M5) fun v48 M47 =>
            k12 v48 M47))))) jfuel 1 0 M2
def f_X9_read (M : jM) : Option (Int × Int × jM) :=
  jlet ((M 1 1)) fun l1_1 =>
  jlet (jst M 1 1 0) fun M2 =>
  jck (jkd (M2 1 4) = 1) <|
  jbW (f_X4_faultOf l1_1 (M2 1 4) M2) fun v6 M5 =>
  jlet (jst M5 1 2 v6) fun M7 =>
  if jw (M7 1 2) = jw (-1) then (
    jck (jkd (M7 1 3) = 1) <|
    jck (jkd (M7 1 4) = 1) <|
    jlet (jst M7 1 3 (M7 1 4)) fun M10 =>
    jlet (jst M10 1 4 (M7 1 3)) fun M11 =>
    jbV (f_X0_forget M11) fun M13 =>
    jck (jkd (M13 1 3) = 1) <|
    some (0, (M13 ((M13 1 3) + 13) 3), M13))
  else (
    some (1, 0, M7))
def f_X9_wantSkater (l1 : Int) (M : jM) : Option (Int) :=
  jk (
    some 2) fun (k1 : Option (Int)) =>
  if jw l1 < 0 then (
    k1)
  else (
    jck (jkd (M 1 3) = 1) <|
    if jw l1 < jw (M ((M 1 3) + 13) 3) then (
      some 0)
    else (
      k1))
def f_X9_wantElement (l1 : Int) (M : jM) : Option (Int) :=
  jk (
    some 2) fun (k1 : Option (Int)) =>
  if jw l1 < 0 then (
    k1)
  else (
    jck (jkd (M 1 3) = 1) <|
    if jw l1 < jw (M ((M 1 3) + 2) 3) then (
      some 0)
    else (
      k1))
def f_X9_name (l1 : Int) (l2 : Int) (l3 : Int) (M : jM) : Option (Int × Int) :=
  if jw l1 = 0 then (
    jbR (f_X9_wantElement l2 M) fun c1 =>
    if c1 = 0 then (
    jck (jkd (M 1 3) = 1) <|
    jbR (f_X2_letter ((M 1 3) + 2) l2 l3 M) fun v5 =>
    some (0, v5))
    else some (c1, 0))
  else (
    jbR (f_X9_wantSkater l2 M) fun c6 =>
    if c6 = 0 then (
    jck (jkd (M 1 3) = 1) <|
    jbR (f_X2_letter ((M 1 3) + 13) l2 l3 M) fun v10 =>
    some (0, v10))
    else some (c6, 0))
def f_X9_element (l1 : Int) (l2 : Int) (M : jM) : Option (Int × Int) :=
  jbR (f_X9_wantElement l1 M) fun c1 =>
  if c1 = 0 then (
  if jw l2 = 0 then (
    jck (jkd (M 1 3) = 1) <|
    jck (0 ≤ jw l1 ∧ jw l1 < 10) <|
    some (0, (M ((M 1 3) + 5) (jw l1))))
  else if jw l2 = 1 then (
    jck (jkd (M 1 3) = 1) <|
    jck (0 ≤ jw l1 ∧ jw l1 < 10) <|
    some (0, (M ((M 1 3) + 6) (jw l1))))
  else (
    some (3, 0)))
  else some (c1, 0)
def f_X9_wantAttempt (l1 : Int) (l2 : Int) (M : jM) : Option (Int) :=
  jbR (f_X9_wantSkater l1 M) fun c1 =>
  if c1 = 0 then (
  jck (jkd (M 1 3) = 1) <|
  jck (0 ≤ jw l1 ∧ jw l1 < 6) <|
  jbR (f_X6_has (((M 1 3) + 16) + 1 + 6 * jw l1) l2 M) fun v6 =>
  if jw v6 = 0 then (
    some 2)
  else (
    some 0))
  else some c1
def f_X9_attempt (l1 : Int) (l2 : Int) (l3 : Int) (M : jM) : Option (Int × Int × jM) :=
  jbR (f_X9_wantAttempt l1 l2 M) fun c1 =>
  if c1 = 0 then (
  jck (jkd (M 1 3) = 1) <|
  jck (0 ≤ jw l1 ∧ jw l1 < 6) <|
  jbW (f_X9_tallied l1 M) fun v7 M6 =>
  jck (jkd v7 = 8) <|
  if jw l3 < 0 ∨ 10 < jw l3 then (
    some (3, 0, M6))
  else if jw l3 = 0 then (
    jck (0 ≤ jw l2 ∧ jw l2 < 12) <|
    some (0, (M6 ((((M 1 3) + 16) + 1 + 6 * jw l1) + 1) (jw l2)), M6))
  else if jw l3 = 1 then (
    jck (0 ≤ jw l2 ∧ jw l2 < 12) <|
    some (0, (M6 ((((M 1 3) + 16) + 1 + 6 * jw l1) + 2) (jw l2)), M6))
  else if jw l3 = 2 then (
    jbR (f_X6_elementAt (((M 1 3) + 16) + 1 + 6 * jw l1) l2 0 M6) fun v12 =>
    some (0, v12, M6))
  else if jw l3 = 3 then (
    jbR (f_X6_elementAt (((M 1 3) + 16) + 1 + 6 * jw l1) l2 1 M6) fun v14 =>
    some (0, v14, M6))
  else if jw l3 = 4 then (
    jbR (f_X6_elementAt (((M 1 3) + 16) + 1 + 6 * jw l1) l2 2 M6) fun v16 =>
    some (0, v16, M6))
  else if jw l3 = 5 then (
    jck (0 ≤ jw l2 ∧ jw l2 < 12) <|
    some (0, (M6 ((((M 1 3) + 16) + 1 + 6 * jw l1) + 4) (jw l2)), M6))
  else if jw l3 = 6 then (
    jbR (f_X8_isLate v7 l2 M6) fun v19 =>
    if jw v19 = 0 then (
      some (0, 0, M6))
    else (
      some (0, 1, M6)))
  else if jw l3 = 7 then (
    jck (0 ≤ jw l2 ∧ jw l2 < 12) <|
    some (0, (M6 (v7 + 1) (jw l2)), M6))
  else if jw l3 = 8 then (
    jbR (f_X8_worthOf v7 l2 M6) fun v22 =>
    some (0, v22, M6))
  else if jw l3 = 9 then (
    jbR (f_X9_everyJudge M6) fun v24 =>
    jbR (f_X8_gainOf v7 l2 v24 M6) fun v26 =>
    some (0, v26, M6))
  else (
    jbR (f_X9_everyJudge M6) fun v28 =>
    jbR (f_X8_pointsOf v7 l2 v28 M6) fun v30 =>
    some (0, v30, M6)))
  else some (c1, 0, M)
def f_X9_wantJudge (l1 : Int) (M : jM) : Option (Int) :=
  jk (
    some 2) fun (k1 : Option (Int)) =>
  if jw l1 < 0 then (
    k1)
  else (
    jck (jkd (M 1 3) = 1) <|
    if jw l1 < jw (M (M 1 3) 0) then (
      some 0)
    else (
      k1))
def f_X9_grade (l1 : Int) (l2 : Int) (l3 : Int) (M : jM) : Option (Int × Int) :=
  jbR (f_X9_wantAttempt l1 l2 M) fun c1 =>
  if c1 = 0 then (
  jbR (f_X9_wantJudge l3 M) fun c3 =>
  if c3 = 0 then (
  jck (jkd (M 1 3) = 1) <|
  jck (0 ≤ jw l1 ∧ jw l1 < 6) <|
  jbR (f_X9_voteOfGrade l2 l3) fun v8 =>
  jck (0 ≤ jw v8 ∧ jw v8 < 135) <|
  some (0, (M ((((M 1 3) + 16) + 1 + 6 * jw l1) + 5) (jw v8))))
  else some (c3, 0))
  else some (c1, 0)
def f_X9_mean (l1 : Int) (l2 : Int) (M : jM) : Option (Int × Int × jM) :=
  jbR (f_X9_wantAttempt l1 l2 M) fun c1 =>
  if c1 = 0 then (
  jbW (f_X9_tallied l1 M) fun v5 M4 =>
  jck (jkd v5 = 8) <|
  jbR (f_X9_everyJudge M4) fun v8 =>
  jbR (f_X8_trimmed v5 l2 v8 M4) fun v10 =>
  some (0, v10, M4))
  else some (c1, 0, M)
def f_X9_wantComponent (l1 : Int) : Option (Int) :=
  jk (
    some 2) fun (k1 : Option (Int)) =>
  if jw l1 < 0 then (
    k1)
  else (
    if jw l1 < jw 3 then (
      some 0)
    else (
      k1))
def f_X9_mark (l1 : Int) (l2 : Int) (l3 : Int) (M : jM) : Option (Int × Int) :=
  jbR (f_X9_wantSkater l1 M) fun c1 =>
  if c1 = 0 then (
  jbR (f_X9_wantComponent l2) fun c3 =>
  if c3 = 0 then (
  jbR (f_X9_wantJudge l3 M) fun c5 =>
  if c5 = 0 then (
  jck (jkd (M 1 3) = 1) <|
  jck (0 ≤ jw l1 ∧ jw l1 < 6) <|
  jbR (f_X9_voteOfMark l2 l3) fun v10 =>
  jck (0 ≤ jw v10 ∧ jw v10 < 135) <|
  some (0, (M ((((M 1 3) + 16) + 1 + 6 * jw l1) + 5) (jw v10))))
  else some (c5, 0))
  else some (c3, 0))
  else some (c1, 0)
def f_X9_component (l1 : Int) (l2 : Int) (M : jM) : Option (Int × Int × jM) :=
  jbR (f_X9_wantSkater l1 M) fun c1 =>
  if c1 = 0 then (
  jbR (f_X9_wantComponent l2) fun c3 =>
  if c3 = 0 then (
  jbW (f_X9_tallied l1 M) fun v7 M6 =>
  jck (jkd v7 = 8) <|
  jbR (f_X9_everyJudge M6) fun v10 =>
  jbR (f_X8_shownOf v7 l2 v10 M6) fun v12 =>
  some (0, v12, M6))
  else some (c3, 0, M))
  else some (c1, 0, M)
def f_X9_total (l1 : Int) (l2 : Int) (M : jM) : Option (Int × Int × jM) :=
  jbR (f_X9_wantSkater l1 M) fun c1 =>
  if c1 = 0 then (
  jbW (f_X9_tallied l1 M) fun v5 M4 =>
  jck (jkd v5 = 8) <|
  if jw l2 < 0 ∨ 4 < jw l2 then (
    some (3, 0, M4))
  else if jw l2 = 0 then (
    some (0, (M4 v5 6), M4))
  else if jw l2 = 1 then (
    some (0, (M4 v5 7), M4))
  else if jw l2 = 2 then (
    jck (0 ≤ jw 0 ∧ jw 0 < 10) <|
    some (0, (M4 (v5 + 4) (jw 0)), M4))
  else if jw l2 = 3 then (
    some (0, (M4 v5 5), M4))
  else (
    some (0, (M4 v5 8), M4)))
  else some (c1, 0, M)
def f_X9_rule (l1 : Int) (l2 : Int) (M : jM) : Option (Int × Int × jM) :=
  jbR (f_X9_wantSkater l1 M) fun c1 =>
  if c1 = 0 then (
  jk (
    some (3, 0, M)) fun (k3 : Option (Int × Int × jM)) =>
  if jw l2 < 0 then (
    k3)
  else (
    jck (jkd (M 1 3) = 1) <|
    if jw l2 < jw (M ((M 1 3) + 7) 0) then (
      jbW (f_X9_tallied l1 M) fun v7 M6 =>
      jck (jkd v7 = 8) <|
      jbW (f_X5_amount ((M 1 3) + 7) l2 (v7 + 4) M6) fun v11 M10 =>
      some (0, v11, M10))
    else (
      k3)))
  else some (c1, 0, M)
def f_X9_rank (l1 : Int) (M : jM) : Option (Int × Int × jM) :=
  jbR (f_X9_wantSkater l1 M) fun c1 =>
  if c1 = 0 then (
  jck (jkd (M 1 3) = 1) <|
  jbV (f_X7_weigh (M 1 3) 600 M) fun M5 =>
  jbR (f_X7_rankOf l1 M5) fun v7 =>
  some (0, v7, M5))
  else some (c1, 0, M)
def f_X9_tell (l1 : Int) (l2 : Int) (l3 : Int) (l4 : Int) (M : jM) : Option (Int × Int × jM) :=
  jbR (f_X9_wantAttempt l1 l2 M) fun c1 =>
  if c1 = 0 then (
  jbR (f_X9_wantJudge l3 M) fun c3 =>
  if c3 = 0 then (
  jk (
    some (1, 0, M)) fun (k5 : Option (Int × Int × jM)) =>
  if jw l4 < jw (-5) then (
    k5)
  else (
    if jw l4 ≤ jw 5 then (
      jbR (f_X9_voteOfGrade l2 l3) fun v7 =>
      jbW (f_X9_tellVote l1 v7 l4 M) fun v10 M9 =>
      some (0, v10, M9))
    else (
      k5)))
  else some (c3, 0, M))
  else some (c1, 0, M)
def f_X9_show (l1 : Int) (l2 : Int) (l3 : Int) (l4 : Int) (M : jM) : Option (Int × Int × jM) :=
  jbR (f_X9_wantSkater l1 M) fun c1 =>
  if c1 = 0 then (
  jbR (f_X9_wantComponent l2) fun c3 =>
  if c3 = 0 then (
  jbR (f_X9_wantJudge l3 M) fun c5 =>
  if c5 = 0 then (
  jk (
    some (1, 0, M)) fun (k7 : Option (Int × Int × jM)) =>
  if jw l4 < 0 then (
    k7)
  else (
    if jw l4 ≤ jw 10 then (
      jbR (f_X9_voteOfMark l2 l3) fun v9 =>
      jbW (f_X9_tellVote l1 v9 l4 M) fun v12 M11 =>
      some (0, v12, M11))
    else (
      k7)))
  else some (c5, 0, M))
  else some (c3, 0, M))
  else some (c1, 0, M)
def f_X9_call (l1 : Int) (l2 : Int) (l3 : Int) (l4 : Int) (M : jM) : Option (Int × Int × jM) :=
  jbR (f_X9_wantAttempt l1 l2 M) fun c1 =>
  if c1 = 0 then (
  jk (
    some (1, 0, M)) fun (k3 : Option (Int × Int × jM)) =>
  if jw l3 < 0 then (
    k3)
  else (
    if jw l3 < jw 3 then (
      jck (jkd (M 1 3) = 1) <|
      jck (0 ≤ jw l1 ∧ jw l1 < 6) <|
      jck (0 ≤ jw l2 ∧ jw l2 < 12) <|
      jlet ((M ((((M 1 3) + 16) + 1 + 6 * jw l1) + 4) (jw l2))) fun l6_7 =>
      jlet ((jsl 1 l3)) fun l7_8 =>
      jbV (f_X0_keep 1 l1 l2 l6_7 M) fun M10 =>
      jk (fun (s2_11 : Int) =>
        jck (0 ≤ jw l2 ∧ jw l2 < 12) <|
        jlet (jst M10 ((((M 1 3) + 16) + 1 + 6 * jw l1) + 4) (jw l2) s2_11) fun M14 =>
        if jw (jnd l6_7 l7_8) = 0 then (
          some (0, 0, M14))
        else (
          some (0, 1, M14))) fun (k12 : Int → Option (Int × Int × jM)) =>
      if jw l4 = 0 then (
        k12 (jnd l6_7 (jxr l7_8 (-1))))
      else (
        k12 (jor l6_7 l7_8)))
    else (
      k3)))
  else some (c1, 0, M)
def f_X9_base (l1 : Int) (l2 : Int) (M : jM) : Option (Int × Int × jM) :=
  jbR (f_X9_wantElement l1 M) fun c1 =>
  if c1 = 0 then (
  jk (
    some (1, 0, M)) fun (k3 : Option (Int × Int × jM)) =>
  if jw l2 < 0 then (
    k3)
  else (
    if jw l2 ≤ jw 2000 then (
      jck (jkd (M 1 3) = 1) <|
      jck (0 ≤ jw l1 ∧ jw l1 < 10) <|
      jlet ((M ((M 1 3) + 5) (jw l1))) fun l3_6 =>
      jbV (f_X0_keep 2 0 l1 l3_6 M) fun M8 =>
      jck (jkd (M8 1 3) = 1) <|
      jck (0 ≤ jw l1 ∧ jw l1 < 10) <|
      jlet (jst M8 ((M8 1 3) + 5) (jw l1) l2) fun M11 =>
      some (0, l3_6, M11))
    else (
      k3)))
  else some (c1, 0, M)
def f_X9_set (l1 : Int) (l2 : Int) (M : jM) : Option (Int × Int × jM) :=
  jk (
    some (3, 0, M)) fun (k1 : Option (Int × Int × jM)) =>
  if jw l1 < 0 then (
    k1)
  else (
    if jw l1 < jw 7 then (
      jck (0 ≤ jw l1 ∧ jw l1 < 7) <|
      jk (
        some (1, 0, M)) fun (k3 : Option (Int × Int × jM)) =>
      if jw l2 < jw (jstt 0 (jw l1)) then (
        k3)
      else (
        jck (0 ≤ jw l1 ∧ jw l1 < 7) <|
        if jw l2 ≤ jw (jstt 1 (jw l1)) then (
          jck (jkd (M 1 3) = 1) <|
          jck (0 ≤ jw l1 ∧ jw l1 < 7) <|
          jlet ((M ((M 1 3) + 1) (jw l1))) fun l3_7 =>
          jbV (f_X0_keep 3 0 l1 l3_7 M) fun M9 =>
          jck (jkd (M9 1 3) = 1) <|
          jck (0 ≤ jw l1 ∧ jw l1 < 7) <|
          jlet (jst M9 ((M9 1 3) + 1) (jw l1) l2) fun M12 =>
          some (0, l3_7, M12))
        else (
          k3)))
    else (
      k1))
def f_X9_scratch (l1 : Int) (l2 : Int) (M : jM) : Option (Int × Int × jM) :=
  jbR (f_X9_wantAttempt l1 l2 M) fun c1 =>
  if c1 = 0 then (
  jck (jkd (M 1 3) = 1) <|
  jck (0 ≤ jw l1 ∧ jw l1 < 6) <|
  jbV (f_X0_keep 4 l1 0 (M (((M 1 3) + 16) + 1 + 6 * jw l1) 1) M) fun M6 =>
  jlet (jst M6 (((M 1 3) + 16) + 1 + 6 * jw l1) 1 (jor (M6 (((M 1 3) + 16) + 1 + 6 * jw l1) 1) (jsl 1 l2))) fun M7 =>
  jbR (f_X6_left (((M 1 3) + 16) + 1 + 6 * jw l1) M7) fun v9 =>
  some (0, v9, M7))
  else some (c1, 0, M)
def f_X9_bias (l1 : Int) (M : jM) : Option (Int × Int × jM) :=
  jbR (f_X9_wantJudge l1 M) fun c1 =>
  if c1 = 0 then (
  jck (jkd (M 1 3) = 1) <|
  jbV (f_X7_weigh (M 1 3) 600 M) fun M5 =>
  jbR (f_X7_leaning l1 M5) fun v7 =>
  some (0, v7, M5))
  else some (c1, 0, M)
def f_X9_wantOtherJudge (M : jM) : Option (Int) :=
  jck (jkd (M 1 3) = 1) <|
  if jw 2 ≤ jw (M (M 1 3) 0) then (
    some 0)
  else (
    some 4)
def f_X9_without (l1 : Int) (l2 : Int) (M : jM) : Option (Int × Int × jM) :=
  jbR (f_X9_wantSkater l1 M) fun c1 =>
  if c1 = 0 then (
  jbR (f_X9_wantJudge l2 M) fun c3 =>
  if c3 = 0 then (
  jbR (f_X9_wantOtherJudge M) fun c5 =>
  if c5 = 0 then (
  jbR (f_X9_everyJudge M) fun v8 =>
  jbW (f_X9_totalBy l1 (jnd v8 (jxr (jsl 1 l2) (-1))) M) fun v11 M10 =>
  some (0, v11, M10))
  else some (c5, 0, M))
  else some (c3, 0, M))
  else some (c1, 0, M)
def f_X9_sways (l1 : Int) (M : jM) : Option (Int × Int × jM) :=
  jbR (f_X9_wantJudge l1 M) fun c1 =>
  if c1 = 0 then (
  jbR (f_X9_wantOtherJudge M) fun c3 =>
  if c3 = 0 then (
  jck (jkd (M 1 3) = 1) <|
  jbV (f_X7_weigh (M 1 3) 600 M) fun M7 =>
  jbR (f_X9_everyJudge M7) fun v9 =>
  jbW (f_X7_turnedPairs (jnd v9 (jxr (jsl 1 l1) (-1))) M7) fun v12 M11 =>
  some (0, v12, M11))
  else some (c3, 0, M))
  else some (c1, 0, M)
def f_X9_alone (l1 : Int) (l2 : Int) (M : jM) : Option (Int × Int × jM) :=
  jbR (f_X9_wantSkater l1 M) fun c1 =>
  if c1 = 0 then (
  jbR (f_X9_wantJudge l2 M) fun c3 =>
  if c3 = 0 then (
  jbW (f_X9_totalBy l1 (jsl 1 l2) M) fun v7 M6 =>
  some (0, v7, M6))
  else some (c3, 0, M))
  else some (c1, 0, M)
def f_X9_place (l1 : Int) (l2 : Int) (M : jM) : Option (Int × Int × jM) :=
  jbR (f_X9_wantSkater l1 M) fun c1 =>
  if c1 = 0 then (
  jbR (f_X9_wantJudge l2 M) fun c3 =>
  if c3 = 0 then (
  jck (jkd (M 1 3) = 1) <|
  jbV (f_X7_weigh (M 1 3) 600 M) fun M7 =>
  jbV (f_X7_judgeBy (jsl 1 l2) M7) fun M9 =>
  jbR (f_X7_rankOf l1 M9) fun v11 =>
  some (0, v11, M9))
  else some (c3, 0, M))
  else some (c1, 0, M)
def f_X9_majority (l1 : Int) (M : jM) : Option (Int × Int × jM) :=
  jbR (f_X9_wantSkater l1 M) fun c1 =>
  if c1 = 0 then (
  jck (jkd (M 1 3) = 1) <|
  jbV (f_X7_weigh (M 1 3) 600 M) fun M5 =>
  jbV (f_X7_findMajorities M5) fun M7 =>
  jck (0 ≤ jw l1 ∧ jw l1 < 6) <|
  some (0, (M7 114 (jw l1)), M7))
  else some (c1, 0, M)
def f_X9_wantPanelSize (l1 : Int) (M : jM) : Option (Int) :=
  jk (
    some 1) fun (k1 : Option (Int)) =>
  if jw l1 < jw 1 then (
    k1)
  else (
    jck (jkd (M 1 3) = 1) <|
    if jw l1 ≤ jw (M (M 1 3) 0) then (
      some 0)
    else (
      k1))
def f_X9_panel (l1 : Int) (l2 : Int) (M : jM) : Option (Int × Int) :=
  jbR (f_X9_wantPanelSize l2 M) fun c1 =>
  if c1 = 0 then (
  jck (jkd (M 1 3) = 1) <|
  jlet ((M (M 1 3) 0)) fun l5_4 =>
  jlp3 (fun (self8 : Int → Int → Int → Option (Int × Int)) (l3_5 : Int) (l4_6 : Int) (l5_7 : Int) =>
    if jw l5_7 ≤ jw ((M (M 1 3) 0) - l2) then (
      some (0, l4_6))
    else (
      if jw l5_7 ≤ 0 then (
        some (0, l4_6))
      else (
        jlet (((1103515245 * l3_5) + 12345)) fun l3_9 =>
        jck (jw l5_7 ≠ 0) <|
        jbR (f_X9_judgeOutside l4_6 ((jw (jnd (jus l3_9 16) 32767)).tmod (jw l5_7)) M) fun v12 =>
        jlet ((jor l4_6 (jsl 1 v12))) fun l4_13 =>
        jlet (l5_7 + (-1)) fun l5_14 =>
        self8 l3_9 l4_13 l5_14))) jfuel l1 0 l5_4)
  else some (c1, 0)
def f_X9_by (l1 : Int) (l2 : Int) (M : jM) : Option (Int × Int × jM) :=
  jbR (f_X9_wantSkater l1 M) fun c1 =>
  if c1 = 0 then (
  jk (
    some (1, 0, M)) fun (k3 : Option (Int × Int × jM)) =>
  if jw l2 < jw 1 then (
    k3)
  else (
    jbR (f_X9_everyJudge M) fun v5 =>
    if jw l2 ≤ jw v5 then (
      jbW (f_X9_totalBy l1 l2 M) fun v8 M7 =>
      some (0, v8, M7))
    else (
      k3)))
  else some (c1, 0, M)
def f_X9_firsts (l1 : Int) (l2 : Int) (M : jM) : Option (Int × Int × jM) :=
  jbR (f_X9_wantSkater l1 M) fun c1 =>
  if c1 = 0 then (
  jbR (f_X9_wantPanelSize l2 M) fun c3 =>
  if c3 = 0 then (
  jck (jkd (M 1 3) = 1) <|
  jbV (f_X7_weigh (M 1 3) 600 M) fun M7 =>
  jlp3 (fun (self11 : Int → Int → jM → Option (Int × Int × jM)) (l3_8 : Int) (l4_9 : Int) (M10 : jM) =>
    jbR (f_X9_everyJudge M10) fun v13 =>
    if jw v13 < jw l4_9 then (
      some (0, l3_8, M10))
    else (
      jbR (f_J6_bitCount_0f7a4 l4_9) fun v15 =>
      if jw v15 = jw l2 then (
        jbW (f_X7_leadsBy l1 l4_9 M10) fun v19 M18 =>
        if jw v19 = 0 then (
          jlet (l4_9 + 1) fun l4_20 =>
          self11 l3_8 l4_20 M18)
        else (
          jlet (l3_8 + 1) fun l3_21 =>
          jlet (l4_9 + 1) fun l4_22 =>
          self11 l3_21 l4_22 M18))
      else (
        jlet (l4_9 + 1) fun l4_16 =>
        self11 l3_8 l4_16 M10))) jfuel 0 1 M7)
  else some (c3, 0, M))
  else some (c1, 0, M)
def f_X9_needed (l1 : Int) (l2 : Int) (M : jM) : Option (Int × Int × jM) :=
  jbR (f_X9_wantSkater l1 M) fun c1 =>
  if c1 = 0 then (
  jbR (f_X9_wantSkater l2 M) fun c3 =>
  if c3 = 0 then (
  if jw l1 = jw l2 then (
    some (1, 0, M))
  else (
    jck (jkd (M 1 3) = 1) <|
    jck (0 ≤ jw l1 ∧ jw l1 < 6) <|
    jbR (f_X6_last (((M 1 3) + 16) + 1 + 6 * jw l1) M) fun v8 =>
    if jw v8 = jw (-1) then (
      some (0, (-100), M))
    else (
      jbV (f_X7_weigh (M 1 3) 600 M) fun M10 =>
      jbW (f_X7_leastGradeAhead l1 l2 v8 M10) fun v13 M12 =>
      some (0, v13, M12))))
  else some (c3, 0, M))
  else some (c1, 0, M)
def f_X9_raise (l1 : Int) (l2 : Int) (l3 : Int) (M : jM) : Option (Int × Int × jM) :=
  jbR (f_X9_wantAttempt l1 l2 M) fun c1 =>
  if c1 = 0 then (
  jbR (f_X9_wantJudge l3 M) fun c3 =>
  if c3 = 0 then (
  jck (jkd (M 1 3) = 1) <|
  jck (0 ≤ jw l1 ∧ jw l1 < 6) <|
  jbR (f_X9_voteOfGrade l2 l3) fun v8 =>
  jck (0 ≤ jw v8 ∧ jw v8 < 135) <|
  if jw (M ((((M 1 3) + 16) + 1 + 6 * jw l1) + 5) (jw v8)) < jw 5 then (
    jbR (f_X9_everyJudge M) fun v11 =>
    jbW (f_X9_totalBy l1 v11 M) fun v14 M13 =>
    jck (0 ≤ jw v8 ∧ jw v8 < 135) <|
    jck (0 ≤ jw v8 ∧ jw v8 < 135) <|
    jlet (jst M13 ((((M 1 3) + 16) + 1 + 6 * jw l1) + 5) (jw v8) ((M13 ((((M 1 3) + 16) + 1 + 6 * jw l1) + 5) (jw v8)) + 1)) fun M17 =>
    jbR (f_X9_everyJudge M17) fun v19 =>
    jbW (f_X9_totalBy l1 v19 M17) fun v22 M21 =>
    jck (0 ≤ jw v8 ∧ jw v8 < 135) <|
    jck (0 ≤ jw v8 ∧ jw v8 < 135) <|
    jlet (jst M21 ((((M 1 3) + 16) + 1 + 6 * jw l1) + 5) (jw v8) ((M21 ((((M 1 3) + 16) + 1 + 6 * jw l1) + 5) (jw v8)) - 1)) fun M25 =>
    some (0, (v22 - v14), M25))
  else (
    some (4, 0, M)))
  else some (c3, 0, M))
  else some (c1, 0, M)
def f_X9_prime (l1 : Int) (l2 : Int) (M : jM) : Option (Int × Int × jM) :=
  jbR (f_X9_wantSkater l1 M) fun c1 =>
  if c1 = 0 then (
  jk (
    some (1, 0, M)) fun (k3 : Option (Int × Int × jM)) =>
  if jw l2 < 0 then (
    k3)
  else (
    if jw l2 ≤ jw 12 then (
      jbW (f_X9_tallied l1 M) fun v6 M5 =>
      jck (jkd v6 = 8) <|
      jbR (f_X8_bestLate v6 l2 M5) fun v9 =>
      some (0, v9, M5))
    else (
      k3)))
  else some (c1, 0, M)
def f_X9_led (l1 : Int) (M : jM) : Option (Int × Int × jM) :=
  jk (
    some (1, 0, M)) fun (k1 : Option (Int × Int × jM)) =>
  if jw l1 < 0 then (
    k1)
  else (
    if jw l1 ≤ jw 600 then (
      jck (jkd (M 1 3) = 1) <|
      jbV (f_X7_weigh (M 1 3) l1 M) fun M4 =>
      jbR (f_X7_skaterAt 0 M4) fun v6 =>
      some (0, v6, M4))
    else (
      k1))
def f_X9_doubt (l1 : Int) (M : jM) : Option (Int × Int) :=
  jbR (f_X9_wantSkater l1 M) fun c1 =>
  if c1 = 0 then (
  jck (jkd (M 1 3) = 1) <|
  jck (0 ≤ jw l1 ∧ jw l1 < 6) <|
  jbR (f_X6_widest (((M 1 3) + 16) + 1 + 6 * jw l1) (M (M 1 3) 0) M) fun v6 =>
  some (0, v6))
  else some (c1, 0)
def f_X9_clean (l1 : Int) (M : jM) : Option (Int × Int × jM) :=
  jbR (f_X9_wantSkater l1 M) fun c1 =>
  if c1 = 0 then (
  jck (0 ≤ jw l1 ∧ jw l1 < 6) <|
  jck (jkd (M 1 3) = 1) <|
  jbV (f_X8_weigh (111 + 6 + 7 * jw l1) (M 1 3) l1 600 0 M) fun M6 =>
  some (0, (M6 (111 + 6 + 7 * jw l1) 8), M6))
  else some (c1, 0, M)
def f_X9_write (l1 : Int) (M : jM) : Option (Int × Int × jM) :=
  jbR (f_X9_wantSkater l1 M) fun c1 =>
  if c1 = 0 then (
  jck (jkd (M 1 3) = 1) <|
  jbW (f_X9_tallied l1 M) fun v6 M5 =>
  jck (jkd v6 = 8) <|
  jbV (f_X3_putSkater (M 1 3) l1 v6 M5) fun M9 =>
  some (0, (M9 164 1), M9))
  else some (c1, 0, M)
def f_X10_fact (M : jM) : Option (jM) :=
  jbV (f_X10_sum M) fun M2 =>
  jbV (f_X10_blanks M2) fun M4 =>
  jk (fun (s0_5 : Int) =>
    jbR (f_X10_hasFailed M4) fun v8 =>
    jk (
      jbV (f_X10_fails M4) fun M11 =>
      some M11) fun (k9 : Option (jM)) =>
    if jw v8 = 0 then (
      jk (
        jlet (jst M4 166 4 ((M4 166 4) + 1)) fun M13 =>
        jbV (f_X10_sum M13) fun M15 =>
        jk (fun (s1_16 : Int) =>
          jbV (f_X10_code s1_16 M15) fun M19 =>
          some M19) fun (k17 : Int → Option (jM)) =>
        if jw s0_5 = jw 60 then (
          k17 10004)
        else (
          if jw s0_5 = jw 61 then (
            k17 10005)
          else (
            k17 10006))) fun (k12 : Option (jM)) =>
      if jw s0_5 = jw 60 then (
        k12)
      else (
        if jw s0_5 = jw 61 then (
          k12)
        else (
          if jw s0_5 = jw 62 then (
            k12)
          else (
            k9))))
    else (
      k9)) fun (k6 : Int → Option (jM)) =>
  if jw (M4 166 6) ≤ jw (M4 166 4) then (
    k6 0)
  else (
    jck (0 ≤ jw (M4 166 4) ∧ jw (M4 166 4) < 600) <|
    k6 (M4 167 (jw (M4 166 4))))
def f_X10_part (M : jM) : Option (jM) :=
  jbV (f_X10_fact M) fun M2 =>
  jlp1 (fun (self4 : jM → Option (jM)) (M3 : jM) =>
    jbW (f_X10_takesWord 49 M3) fun v7 M6 =>
    if jw v7 = 0 then (
      some M6)
    else (
      jbV (f_X10_fact M6) fun M9 =>
      jbV (f_X10_code 10007 M9) fun M11 =>
      self4 M11)) jfuel M2
def f_X10_test (M : jM) : Option (jM) :=
  jbV (f_X10_part M) fun M2 =>
  jlp1 (fun (self4 : jM → Option (jM)) (M3 : jM) =>
    jbW (f_X10_takesWord 50 M3) fun v7 M6 =>
    if jw v7 = 0 then (
      some M6)
    else (
      jbV (f_X10_part M6) fun M9 =>
      jbV (f_X10_code 10008 M9) fun M11 =>
      self4 M11)) jfuel M2
def f_X10_ruleLine (M : jM) : Option (jM) :=
  jck (0 ≤ jw 3 ∧ jw 3 < 1089) <|
  jck (0 ≤ jw 3 ∧ jw 3 < 1089) <|
  jck (0 ≤ jw (482 + (M 171 (jw 3))) ∧ jw (482 + (M 171 (jw 3))) < 1089) <|
  jck (0 ≤ jw ((482 + (M 171 (jw 3))) + 1) ∧ jw ((482 + (M 171 (jw 3))) + 1) < 1089) <|
  jlet (jst M 171 (jw ((482 + (M 171 (jw 3))) + 1)) (M 171 (jw (482 + (M 171 (jw 3)))))) fun M5 =>
  jbV (f_X10_sum M5) fun M7 =>
  jbW (f_X10_takesWord 48 M7) fun v10 M9 =>
  jk (fun (M11 : jM) =>
    jck (0 ≤ jw 3 ∧ jw 3 < 1089) <|
    jck (0 ≤ jw 3 ∧ jw 3 < 1089) <|
    jlet (jst M11 171 (jw 3) ((M11 171 (jw 3)) + 1)) fun M15 =>
    some M15) fun (k12 : jM → Option (jM)) =>
  if jw v10 = 0 then (
    k12 M9)
  else (
    jbV (f_X10_test M9) fun M17 =>
    jbV (f_X10_code 10009 M17) fun M19 =>
    k12 M19)
def f_X10_line (M : jM) : Option (jM) :=
  jbV (f_X10_blanks M) fun M2 =>
  jck (0 ≤ jw 1 ∧ jw 1 < 1089) <|
  jlet (((M2 171 (jw 1)) - 1)) fun l1_4 =>
  jk (fun (s0_5 : Int) =>
    jck (0 ≤ jw 0 ∧ jw 0 < 1089) <|
    jk (fun (s2_8 : Int) =>
      jbW (f_X10_begins 29 s2_8 M2) fun v12 M11 =>
      jk (fun (M13 : jM) =>
        jbV (f_X10_asksSign 59 M13) fun M16 =>
        some M16) fun (k14 : jM → Option (jM)) =>
      if jw v12 = 0 then (
        jk (fun (s2_17 : Int) =>
          jbW (f_X10_begins 33 s2_17 M11) fun v21 M20 =>
          if jw v21 = 0 then (
            jbW (f_X10_takesWord 34 M20) fun v24 M23 =>
            if jw v24 = 0 then (
              jbW (f_X10_takesWord 35 M23) fun v27 M26 =>
              if jw v27 = 0 then (
                jbW (f_X10_takesWord 36 M26) fun v30 M29 =>
                if jw v30 = 0 then (
                  jbW (f_X10_takesWord 37 M29) fun v33 M32 =>
                  if jw v33 = 0 then (
                    jbW (f_X10_takesWord 38 M32) fun v36 M35 =>
                    if jw v36 = 0 then (
                      jck (0 ≤ jw 3 ∧ jw 3 < 1089) <|
                      jk (fun (s2_38 : Int) =>
                        jbW (f_X10_begins 39 s2_38 M35) fun v42 M41 =>
                        if jw v42 = 0 then (
                          jck (0 ≤ jw 1 ∧ jw 1 < 1089) <|
                          jk (fun (s2_44 : Int) =>
                            jbW (f_X10_begins 51 s2_44 M41) fun v48 M47 =>
                            if jw v48 = 0 then (
                              jk (fun (s2_49 : Int) =>
                                jbW (f_X10_begins 52 s2_49 M47) fun v53 M52 =>
                                if jw v53 = 0 then (
                                  jbW (f_X10_begins 56 s0_5 M52) fun v56 M55 =>
                                  if jw v56 = 0 then (
                                    jbW (f_X10_begins 57 s0_5 M55) fun v59 M58 =>
                                    if jw v59 = 0 then (
                                      jbV (f_X10_fails M58) fun M61 =>
                                      k14 M61)
                                    else (
                                      jbR (f_J9_max_7cf53 0 l1_4) fun v63 =>
                                      jbW (f_X10_number 0 600 M58) fun v66 M65 =>
                                      jck (0 ≤ jw (110 + v63) ∧ jw (110 + v63) < 1089) <|
                                      jlet (jst M65 171 (jw (110 + v63)) v66) fun M68 =>
                                      k14 M68))
                                  else (
                                    jlp2 (fun (self71 : Int → jM → Option (jM)) (l3_69 : Int) (M70 : jM) =>
                                      if jw 3 ≤ jw l3_69 then (
                                        jlet (jst M70 166 14 1) fun M72 =>
                                        k14 M72)
                                      else (
                                        jbR (f_J9_max_7cf53 0 l1_4) fun v74 =>
                                        jbV (f_X10_letters (648 + (9 * ((3 * v74) + l3_69))) 0 M70) fun M76 =>
                                        jlet (l3_69 + 1) fun l3_77 =>
                                        self71 l3_77 M76)) jfuel 0 M55))
                                else (
                                  jbR (f_X10_hasFailed M52) fun v79 =>
                                  if jw v79 = 0 then (
                                    jbV (f_X10_doLine M52) fun M81 =>
                                    k14 M81)
                                  else (
                                    k14 M52))) fun (k50 : Int → Option (jM)) =>
                              jk (
                                k50 0) fun (k82 : Option (jM)) =>
                              if jw s0_5 = 0 then (
                                k82)
                              else (
                                jbR (f_J9_max_7cf53 0 l1_4) fun v84 =>
                                jck (0 ≤ jw (116 + v84) ∧ jw (116 + v84) < 1089) <|
                                if jw 12 ≤ jw (M47 171 (jw (116 + v84))) then (
                                  k82)
                                else (
                                  k50 1)))
                            else (
                              jck (0 ≤ jw 1 ∧ jw 1 < 1089) <|
                              jbV (f_X10_freshName 74 (M47 171 (jw 1)) M47) fun M88 =>
                              jck (0 ≤ jw 1 ∧ jw 1 < 1089) <|
                              jck (0 ≤ jw 1 ∧ jw 1 < 1089) <|
                              jlet (jst M88 171 (jw 1) ((M88 171 (jw 1)) + 1)) fun M91 =>
                              k14 M91)) fun (k45 : Int → Option (jM)) =>
                          if jw 6 ≤ jw (M41 171 (jw 1)) then (
                            k45 0)
                          else (
                            k45 1))
                        else (
                          jbR (f_X10_hasFailed M41) fun v93 =>
                          if jw v93 = 0 then (
                            jbV (f_X10_ruleLine M41) fun M95 =>
                            k14 M95)
                          else (
                            k14 M41))) fun (k39 : Int → Option (jM)) =>
                      if jw 6 ≤ jw (M35 171 (jw 3)) then (
                        k39 0)
                      else (
                        k39 1))
                    else (
                      jbW (f_X10_number 1 3 M35) fun v98 M97 =>
                      jck (0 ≤ jw 967 ∧ jw 967 < 971) <|
                      jlet (jst M97 172 (jw 967) v98) fun M100 =>
                      k14 M100))
                  else (
                    jbW (f_X10_number 0 50 M32) fun v103 M102 =>
                    jck (0 ≤ jw 966 ∧ jw 966 < 971) <|
                    jlet (jst M102 172 (jw 966) v103) fun M105 =>
                    k14 M105))
                else (
                  jbW (f_X10_number 0 600 M29) fun v108 M107 =>
                  jck (0 ≤ jw 965 ∧ jw 965 < 971) <|
                  jlet (jst M107 172 (jw 965) v108) fun M110 =>
                  k14 M110))
              else (
                jlp2 (fun (self113 : Int → jM → Option (jM)) (l3_111 : Int) (M112 : jM) =>
                  if jw 3 ≤ jw l3_111 then (
                    k14 M112)
                  else (
                    jbW (f_X10_number 0 300 M112) fun v116 M115 =>
                    jck (0 ≤ jw (968 + l3_111) ∧ jw (968 + l3_111) < 971) <|
                    jlet (jst M115 172 (jw (968 + l3_111)) v116) fun M118 =>
                    jlet (l3_111 + 1) fun l3_119 =>
                    self113 l3_119 M118)) jfuel 0 M26))
            else (
              jbW (f_X10_number 0 3 M23) fun v122 M121 =>
              jck (0 ≤ jw 964 ∧ jw 964 < 971) <|
              jlet (jst M121 172 (jw 964) v122) fun M124 =>
              k14 M124))
          else (
            jbW (f_X10_number 1 9 M20) fun v127 M126 =>
            jck (0 ≤ jw 2 ∧ jw 2 < 1089) <|
            jlet (jst M126 171 (jw 2) v127) fun M129 =>
            k14 M129)) fun (k18 : Int → Option (jM)) =>
        if jw (M11 166 14) = 0 then (
          k18 1)
        else (
          k18 0))
      else (
        jbR (f_X10_hasFailed M11) fun v131 =>
        if jw v131 = 0 then (
          jbV (f_X10_elementLine M11) fun M133 =>
          k14 M133)
        else (
          k14 M11))) fun (k9 : Int → Option (jM)) =>
    if jw 10 ≤ jw (M2 171 (jw 0)) then (
      k9 0)
    else (
      k9 1)) fun (k6 : Int → Option (jM)) =>
  if jw l1_4 < 0 then (
    k6 0)
  else (
    k6 1)
def f_X10_read (M : jM) : Option (Int × jM) :=
  jlet (jst M 166 0 0) fun M1 =>
  jlet (jst M1 166 6 (M1 166 2)) fun M2 =>
  jlet (jst M2 166 2 0) fun M3 =>
  jlet (jst M3 166 4 0) fun M4 =>
  jlet (jst M4 166 7 (-1)) fun M5 =>
  jlet (jst M5 166 13 0) fun M6 =>
  jlet (jst M6 166 14 0) fun M7 =>
  jbV (f_X10_usual M7) fun M9 =>
  jbV (f_X10_blanks M9) fun M11 =>
  jlp1 (fun (self13 : jM → Option (Int × jM)) (M12 : jM) =>
    jbR (f_X10_hasFailed M12) fun v15 =>
    jk (
      jlet (jst M12 166 8 (M12 166 7)) fun M17 =>
      jbR (f_X10_hasFailed M17) fun v19 =>
      jbW (f_X10_throwsIf v19 1 M17) fun v22 M21 =>
      if jw v22 = 0 then (
        jbV (f_X10_taken M21) fun M24 =>
        jlet (jst M24 166 29 0) fun M25 =>
        jck (0 ≤ jw 1 ∧ jw 1 < 1089) <|
        some ((M25 169 (jw 1)), M25))
      else (
        some (0, M21))) fun (k16 : Option (Int × jM)) =>
    if jw v15 = 0 then (
      if jw (M12 166 6) ≤ jw (M12 166 4) then (
        k16)
      else (
        jbV (f_X10_line M12) fun M28 =>
        jbV (f_X10_blanks M28) fun M30 =>
        self13 M30))
    else (
      k16)) jfuel M11
def f_X10_saysHundredths (l1 : Int) (M : jM) : Option (jM) :=
  jbR (f_J9_abs_0f7a4 l1) fun v2 =>
  jk (fun (M3 : jM) =>
    jbV (f_X10_saysNumber ((jw v2).tdiv (jw 100)) M3) fun M6 =>
    jbV (f_X10_says 46 M6) fun M8 =>
    jbV (f_X10_says (48 + ((jw ((jw v2).tdiv (jw 10))).tmod (jw 10))) M8) fun M10 =>
    jbV (f_X10_says (48 + ((jw v2).tmod (jw 10))) M10) fun M12 =>
    some M12) fun (k4 : jM → Option (jM)) =>
  if 0 ≤ jw l1 then (
    k4 M)
  else (
    jbV (f_X10_says 45 M) fun M14 =>
    k4 M14)
def f_X10_saysTry (l1 : Int) (l2 : Int) (M : jM) : Option (jM) :=
  jbV (f_X10_says 10 M) fun M2 =>
  jlp2 (fun (self5 : Int → jM → Option (jM)) (l3_3 : Int) (M4 : jM) =>
    jbR (f_X10_elementsOf l1 l2 M4) fun v7 =>
    if jw v7 ≤ jw l3_3 then (
      jbR (f_X10_callsOf l1 l2 M4) fun v9 =>
      jbR (f_X10_isIn v9 0) fun v11 =>
      jk (fun (M12 : jM) =>
        jbR (f_X10_callsOf l1 l2 M12) fun v15 =>
        jbR (f_X10_isIn v15 1) fun v17 =>
        jk (fun (M18 : jM) =>
          jbR (f_X10_isLate l1 l2 M18) fun v21 =>
          jk (fun (M22 : jM) =>
            jbV (f_X10_says 32 M22) fun M25 =>
            jbW (f_X10_pointsAt l1 l2 M25) fun v28 M27 =>
            jbV (f_X10_saysHundredths v28 M27) fun M30 =>
            some M30) fun (k23 : jM → Option (jM)) =>
          if jw v21 = 0 then (
            k23 M18)
          else (
            jbV (f_X10_says 120 M18) fun M32 =>
            k23 M32)) fun (k19 : jM → Option (jM)) =>
        if jw v17 = 0 then (
          k19 M12)
        else (
          jbV (f_X10_says 33 M12) fun M34 =>
          k19 M34)) fun (k13 : jM → Option (jM)) =>
      if jw v11 = 0 then (
        k13 M4)
      else (
        jbV (f_X10_says 60 M4) fun M36 =>
        k13 M36))
    else (
      jk (fun (M37 : jM) =>
        jbR (f_X10_elementOf l1 l2 l3_3 M37) fun v40 =>
        jbV (f_X10_saysName (14 + (6 * v40)) M37) fun M42 =>
        jlet (l3_3 + 1) fun l3_43 =>
        self5 l3_43 M42) fun (k38 : jM → Option (jM)) =>
      if jw l3_3 ≤ 0 then (
        k38 M4)
      else (
        jbV (f_X10_says 43 M4) fun M45 =>
        k38 M45))) jfuel 0 M2
def f_X10_write (l1 : Int) (M : jM) : Option (Int × jM) :=
  jlet (jst M 166 0 0) fun M1 =>
  jbV (f_X10_all M1) fun M3 =>
  jbW (f_X10_noSkater l1 M3) fun v6 M5 =>
  if jw v6 = 0 then (
    jlet (jst M5 166 31 0) fun M7 =>
    jbV (f_X10_saysName (74 + (6 * l1)) M7) fun M9 =>
    jbV (f_X10_says 32 M9) fun M11 =>
    jbW (f_X10_totalOf l1 M11) fun v14 M13 =>
    jbV (f_X10_saysHundredths v14 M13) fun M16 =>
    jlp2 (fun (self19 : Int → jM → Option (Int × jM)) (l2_17 : Int) (M18 : jM) =>
      jck (0 ≤ jw (116 + l1) ∧ jw (116 + l1) < 1089) <|
      if jw (M18 169 (jw (116 + l1))) ≤ jw l2_17 then (
        some ((M18 166 31), M18))
      else (
        jbR (f_X10_is l1 l2_17 M18) fun v22 =>
        if jw v22 = 0 then (
          jlet (l2_17 + 1) fun l2_23 =>
          self19 l2_23 M18)
        else (
          jbV (f_X10_saysTry l1 l2_17 M18) fun M25 =>
          jlet (l2_17 + 1) fun l2_26 =>
          self19 l2_26 M25))) jfuel 0 M16)
  else (
    some (0, M5))
