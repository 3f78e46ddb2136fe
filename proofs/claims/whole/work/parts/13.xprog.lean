noncomputable def b_X0_lets_44 (c : Nat → Nat) (M : q_MM) : Option (Int32) :=
  q_bl 1 (some 1)
noncomputable def b_X0_lets_22 (c : Nat → Nat) (M : q_MM) (x0 : Nat) (x1 : Nat) : Option (Int32) :=
  q_ck ((qTX c) x1) 15 <|
  q_ck ((qTX c) x0) 10 <|
  if (M x0 3) < (M x1 1) then
    q_bl 0 (some 0)
  else
    if (M x0 2) < (M x1 2) then
      q_bl 0 (some 0)
    else
      b_X0_lets_44 c M
noncomputable def f_X0_lets (c : Nat → Nat) (M : q_MM) (o0 : Nat) (a1 : Nat) : Option (Int32) :=
  q_ck ((qTX c) a1) 15 <|
  q_ck ((qTX c) o0) 10 <|
  if (M o0 2) < (M a1 1) then
    b_X0_lets_22 c M o0 a1
  else
    if (M a1 2) ≤ (M o0 3) then
      b_X0_lets_44 c M
    else
      b_X0_lets_22 c M o0 a1
noncomputable def f_X1_put (c : Nat → Nat) (M0 : q_MM) (o0 : Nat) (a1 : Int32) (a2 : Int32) (a3 : Int32) : Option (q_MM) :=
  if a1 < 0 then
    some M0
  else
    if (24 : Int32) ≤ a1 then
      some M0
    else
      q_ck ((qTX c) o0) 11 <|
      q_ck ((qTX c) ((qPX c) o0 0)) 1 <|
      q_as M0 ((qPX c) o0 0) ((qLX c) ((qPX c) o0 0)) a1 a2 fun M5 =>
      q_ck ((qTX c) ((qPX c) o0 1)) 1 <|
      q_as M5 ((qPX c) o0 1) ((qLX c) ((qPX c) o0 1)) a1 a3 fun M7 =>
      some M7
noncomputable def f_X1_take (c : Nat → Nat) (M0 : q_MM) (o0 : Nat) (a1 : Int32) : Option (q_MM) :=
  q_ck ((qTX c) o0) 11 <|
  (f_X1_put c M0 o0 a1 (-1) (-1)).bind fun r2 =>
  some r2
noncomputable def f_X1_become (c : Nat → Nat) (M0 : q_MM) (o0 : Nat) (a1 : Nat) : Option (q_MM) :=
  q_ck ((qTX c) a1) 11 <|
  q_ck ((qTX c) o0) 11 <|
  q_ck ((qTX c) ((qPX c) a1 0)) 1 <|
  q_ck ((qTX c) ((qPX c) o0 0)) 1 <|
  q_if (Int32.toNatClampNeg 0 + Int32.toNatClampNeg 24 ≤ ((qLX c) ((qPX c) a1 0)) ∧ Int32.toNatClampNeg 0 + Int32.toNatClampNeg 24 ≤ ((qLX c) ((qPX c) o0 0))) <|
  q_let (fun o' => if o' = ((qPX c) o0 0) then va_cpy (M0 ((qPX c) a1 0)) (M0 ((qPX c) o0 0)) (Int32.toNatClampNeg 0) (Int32.toNatClampNeg 0) (Int32.toNatClampNeg 24) else M0 o') fun M6 =>
  q_ck ((qTX c) ((qPX c) a1 1)) 1 <|
  q_ck ((qTX c) ((qPX c) o0 1)) 1 <|
  q_if (Int32.toNatClampNeg 0 + Int32.toNatClampNeg 24 ≤ ((qLX c) ((qPX c) a1 1)) ∧ Int32.toNatClampNeg 0 + Int32.toNatClampNeg 24 ≤ ((qLX c) ((qPX c) o0 1))) <|
  q_let (fun o' => if o' = ((qPX c) o0 1) then va_cpy (M6 ((qPX c) a1 1)) (M6 ((qPX c) o0 1)) (Int32.toNatClampNeg 0) (Int32.toNatClampNeg 0) (Int32.toNatClampNeg 24) else M6 o') fun M10 =>
  some M10
noncomputable def f_X1_wallUnder (c : Nat → Nat) (M : q_MM) (o0 : Nat) (a1 : Int32) : Option (Int32) :=
  if a1 < 0 then
    some (-1)
  else
    if (24 : Int32) ≤ a1 then
      some (-1)
    else
      q_ck ((qTX c) o0) 11 <|
      q_ck ((qTX c) ((qPX c) o0 0)) 1 <|
      q_ld M ((qPX c) o0 0) ((qLX c) ((qPX c) o0 0)) a1 fun v5 =>
      some v5
noncomputable def f_X1_has (c : Nat → Nat) (M : q_MM) (o0 : Nat) (a1 : Int32) : Option (Int32) :=
  q_ck ((qTX c) o0) 11 <|
  (f_X1_wallUnder c M o0 a1).bind fun r2 =>
  if r2 = ((-1) : Int32) then
    q_bl 0 (some 0)
  else
    q_bl 1 (some 1)
noncomputable def f_X1_leftSide (c : Nat → Nat) (M : q_MM) (o0 : Nat) (a1 : Int32) : Option (Int32) :=
  if a1 < 0 then
    some (-1)
  else
    if (24 : Int32) ≤ a1 then
      some (-1)
    else
      q_ck ((qTX c) o0) 11 <|
      q_ck ((qTX c) ((qPX c) o0 1)) 1 <|
      q_ld M ((qPX c) o0 1) ((qLX c) ((qPX c) o0 1)) a1 fun v5 =>
      some v5
noncomputable def b_X1_howMany_26 (c : Nat → Nat) (M : q_MM) (k4 : Nat → Int32 → Int32 → Option (Int32)) (x0 : Nat) (x2 : Int32) (s0 : Int32) (s1 : Int32) : Option (Int32) :=
  q_let (s1 + s0) fun v1 =>
  k4 x0 v1 (x2 + 1)
noncomputable def b_X1_howMany_4 (c : Nat → Nat) (M : q_MM) : Nat → Nat → Int32 → Int32 → Option (Int32)
  | 0, _, _, _ => none
  | nf + 1, x0, x1, x2 =>
    if (24 : Int32) ≤ x2 then
      some x1
    else
      q_ck ((qTX c) x0) 11 <|
      q_ck ((qTX c) ((qPX c) x0 0)) 1 <|
      q_ld M ((qPX c) x0 0) ((qLX c) ((qPX c) x0 0)) x2 fun v5 =>
      if v5 = ((-1) : Int32) then
        b_X1_howMany_26 c M (b_X1_howMany_4 c M nf) x0 x2 0 x1
      else
        b_X1_howMany_26 c M (b_X1_howMany_4 c M nf) x0 x2 1 x1
noncomputable def f_X1_howMany (c : Nat → Nat) (M : q_MM) (o0 : Nat) : Option (Int32) :=
  b_X1_howMany_4 c M q_fu o0 0 0
noncomputable def b_X1_leftOf_80 (c : Nat → Nat) (M : q_MM) (k6 : Nat → Int32 → Int32 → Int32 → Int32 → Int32 → Option (Int32)) (x0 : Nat) (x1 : Int32) (x2 : Int32) (x3 : Int32) (x4 : Int32) (x5 : Int32) : Option (Int32) :=
  k6 x0 x1 x2 x3 x4 (x5 + 1)
noncomputable def b_X1_leftOf_76 (c : Nat → Nat) (M : q_MM) (k6 : Nat → Int32 → Int32 → Int32 → Int32 → Int32 → Option (Int32)) (x0 : Nat) (x1 : Int32) (x2 : Int32) (x3 : Int32) (x5 : Int32) : Option (Int32) :=
  b_X1_leftOf_80 c M k6 x0 x1 x2 x3 x5 x5
noncomputable def b_X1_leftOf_46 (c : Nat → Nat) (M : q_MM) (k6 : Nat → Int32 → Int32 → Int32 → Int32 → Int32 → Option (Int32)) (x0 : Nat) (x1 : Int32) (x2 : Int32) (x3 : Int32) (x4 : Int32) (x5 : Int32) (s0 : Int32) : Option (Int32) :=
  if s0 = 0 then
    b_X1_leftOf_80 c M k6 x0 x1 x2 x3 x4 x5
  else
    if x4 = ((-1) : Int32) then
      b_X1_leftOf_76 c M k6 x0 x1 x2 x3 x5
    else
      q_ck ((qTX c) x0) 11 <|
      q_ck ((qTX c) ((qPX c) x0 1)) 1 <|
      q_ld M ((qPX c) x0 1) ((qLX c) ((qPX c) x0 1)) x5 fun v5 =>
      q_ld M ((qPX c) x0 1) ((qLX c) ((qPX c) x0 1)) x4 fun v6 =>
      if v5 < v6 then
        b_X1_leftOf_80 c M k6 x0 x1 x2 x3 x4 x5
      else
        b_X1_leftOf_76 c M k6 x0 x1 x2 x3 x5
noncomputable def b_X1_leftOf_45 (c : Nat → Nat) (M : q_MM) (k6 : Nat → Int32 → Int32 → Int32 → Int32 → Int32 → Option (Int32)) (x0 : Nat) (x1 : Int32) (x2 : Int32) (x3 : Int32) (x4 : Int32) (x5 : Int32) : Option (Int32) :=
  b_X1_leftOf_46 c M k6 x0 x1 x2 x3 x4 x5 0
noncomputable def b_X1_leftOf_6 (c : Nat → Nat) (M : q_MM) : Nat → Nat → Int32 → Int32 → Int32 → Int32 → Int32 → Option (Int32)
  | 0, _, _, _, _, _, _ => none
  | nf + 1, x0, x1, x2, x3, x4, x5 =>
    if (24 : Int32) ≤ x5 then
      some x4
    else
      if x5 = x1 then
        b_X1_leftOf_45 c M (b_X1_leftOf_6 c M nf) x0 x1 x2 x3 x4 x5
      else
        q_ck ((qTX c) x0) 11 <|
        q_ck ((qTX c) ((qPX c) x0 0)) 1 <|
        q_ld M ((qPX c) x0 0) ((qLX c) ((qPX c) x0 0)) x5 fun v12 =>
        if v12 = x2 then
          q_ck ((qTX c) ((qPX c) x0 1)) 1 <|
          q_ld M ((qPX c) x0 1) ((qLX c) ((qPX c) x0 1)) x5 fun v15 =>
          if x3 < v15 then
            b_X1_leftOf_45 c M (b_X1_leftOf_6 c M nf) x0 x1 x2 x3 x4 x5
          else
            b_X1_leftOf_46 c M (b_X1_leftOf_6 c M nf) x0 x1 x2 x3 x4 x5 1
        else
          b_X1_leftOf_45 c M (b_X1_leftOf_6 c M nf) x0 x1 x2 x3 x4 x5
noncomputable def f_X1_leftOf (c : Nat → Nat) (M : q_MM) (o0 : Nat) (a1 : Int32) (a2 : Int32) (a3 : Int32) : Option (Int32) :=
  b_X1_leftOf_6 c M q_fu o0 a1 a2 a3 (-1) 0
noncomputable def b_X1_rightOf_80 (c : Nat → Nat) (M : q_MM) (k6 : Nat → Int32 → Int32 → Int32 → Int32 → Int32 → Option (Int32)) (x0 : Nat) (x1 : Int32) (x2 : Int32) (x3 : Int32) (x4 : Int32) (x5 : Int32) : Option (Int32) :=
  k6 x0 x1 x2 x3 x4 (x5 + 1)
noncomputable def b_X1_rightOf_76 (c : Nat → Nat) (M : q_MM) (k6 : Nat → Int32 → Int32 → Int32 → Int32 → Int32 → Option (Int32)) (x0 : Nat) (x1 : Int32) (x2 : Int32) (x3 : Int32) (x5 : Int32) : Option (Int32) :=
  b_X1_rightOf_80 c M k6 x0 x1 x2 x3 x5 x5
noncomputable def b_X1_rightOf_46 (c : Nat → Nat) (M : q_MM) (k6 : Nat → Int32 → Int32 → Int32 → Int32 → Int32 → Option (Int32)) (x0 : Nat) (x1 : Int32) (x2 : Int32) (x3 : Int32) (x4 : Int32) (x5 : Int32) (s0 : Int32) : Option (Int32) :=
  if s0 = 0 then
    b_X1_rightOf_80 c M k6 x0 x1 x2 x3 x4 x5
  else
    if x4 = ((-1) : Int32) then
      b_X1_rightOf_76 c M k6 x0 x1 x2 x3 x5
    else
      q_ck ((qTX c) x0) 11 <|
      q_ck ((qTX c) ((qPX c) x0 1)) 1 <|
      q_ld M ((qPX c) x0 1) ((qLX c) ((qPX c) x0 1)) x5 fun v5 =>
      q_ld M ((qPX c) x0 1) ((qLX c) ((qPX c) x0 1)) x4 fun v6 =>
      if v6 ≤ v5 then
        b_X1_rightOf_80 c M k6 x0 x1 x2 x3 x4 x5
      else
        b_X1_rightOf_76 c M k6 x0 x1 x2 x3 x5
noncomputable def b_X1_rightOf_45 (c : Nat → Nat) (M : q_MM) (k6 : Nat → Int32 → Int32 → Int32 → Int32 → Int32 → Option (Int32)) (x0 : Nat) (x1 : Int32) (x2 : Int32) (x3 : Int32) (x4 : Int32) (x5 : Int32) : Option (Int32) :=
  b_X1_rightOf_46 c M k6 x0 x1 x2 x3 x4 x5 0
noncomputable def b_X1_rightOf_6 (c : Nat → Nat) (M : q_MM) : Nat → Nat → Int32 → Int32 → Int32 → Int32 → Int32 → Option (Int32)
  | 0, _, _, _, _, _, _ => none
  | nf + 1, x0, x1, x2, x3, x4, x5 =>
    if (24 : Int32) ≤ x5 then
      some x4
    else
      if x5 = x1 then
        b_X1_rightOf_45 c M (b_X1_rightOf_6 c M nf) x0 x1 x2 x3 x4 x5
      else
        q_ck ((qTX c) x0) 11 <|
        q_ck ((qTX c) ((qPX c) x0 0)) 1 <|
        q_ld M ((qPX c) x0 0) ((qLX c) ((qPX c) x0 0)) x5 fun v12 =>
        if v12 = x2 then
          q_ck ((qTX c) ((qPX c) x0 1)) 1 <|
          q_ld M ((qPX c) x0 1) ((qLX c) ((qPX c) x0 1)) x5 fun v15 =>
          if v15 ≤ x3 then
            b_X1_rightOf_45 c M (b_X1_rightOf_6 c M nf) x0 x1 x2 x3 x4 x5
          else
            b_X1_rightOf_46 c M (b_X1_rightOf_6 c M nf) x0 x1 x2 x3 x4 x5 1
        else
          b_X1_rightOf_45 c M (b_X1_rightOf_6 c M nf) x0 x1 x2 x3 x4 x5
noncomputable def f_X1_rightOf (c : Nat → Nat) (M : q_MM) (o0 : Nat) (a1 : Int32) (a2 : Int32) (a3 : Int32) : Option (Int32) :=
  b_X1_rightOf_6 c M q_fu o0 a1 a2 a3 (-1) 0
noncomputable def f_X2_hasRoom (c : Nat → Nat) (M : q_MM) (a1 : Int32) : Option (Int32) :=
  if a1 < 0 then
    q_bl 0 (some 0)
  else
    if (M 2 10) ≤ a1 then
      q_bl 0 (some 0)
    else
      q_bl 1 (some 1)
noncomputable def f_X2_wallAt (c : Nat → Nat) (M : q_MM) (a1 : Int32) : Option (Nat) :=
  if a1 < 0 then
    some 0
  else
    (f_Jx4a65c_size_8abf5 (qTX c) (qLX c) (qPX c) M 14).bind fun r2 =>
    if r2 ≤ a1 then
      some 0
    else
      (f_Jx4a65c_get_915e3 (qTX c) (qLX c) (qPX c) M 14 a1).bind fun r4 =>
      q_ck ((qTX c) r4) 20 <|
      some r4
noncomputable def f_X2_pictureAt (c : Nat → Nat) (M : q_MM) (a1 : Int32) : Option (Nat) :=
  if a1 < 0 then
    some 0
  else
    (f_Jx4a65c_size_8abf5 (qTX c) (qLX c) (qPX c) M 15).bind fun r2 =>
    if r2 ≤ a1 then
      some 0
    else
      (f_Jx4a65c_get_915e3 (qTX c) (qLX c) (qPX c) M 15 a1).bind fun r4 =>
      q_ck ((qTX c) r4) 15 <|
      some r4
noncomputable def f_X2_present (c : Nat → Nat) (M : q_MM) (a1 : Int32) : Option (Nat) :=
  (f_X2_pictureAt c M a1).bind fun r1 =>
  if r1 = 0 then
    some 0
  else
    q_ck ((qTX c) r1) 15 <|
    if (M r1 12) = 0 then
      some r1
    else
      some 0
noncomputable def f_X2_wallOf (c : Nat → Nat) (M : q_MM) (a1 : Nat) : Option (Nat) :=
  q_ck ((qTX c) a1) 15 <|
  (f_X1_wallUnder c M 21 (M a1 0)).bind fun r2 =>
  (f_X2_wallAt c M r2).bind fun r3 =>
  some r3
noncomputable def f_X2_stateOf (c : Nat → Nat) (M : q_MM) (a1 : Nat) : Option (Int32) :=
  q_ck ((qTX c) a1) 15 <|
  if (M a1 12) = 0 then
    (f_X1_has c M 21 (M a1 0)).bind fun r3 =>
    if r3 = 0 then
      some 0
    else
      some 1
  else
    some (M a1 12)
noncomputable def b_X2_part_18 (c : Nat → Nat) (x1 : Nat) (M : q_MM) : Option (q_MM) :=
  q_ck ((qTX c) x1) 15 <|
  q_let (q_u2 M x1 8 (-1)) fun M2 =>
  some M2
noncomputable def f_X2_part (c : Nat → Nat) (M0 : q_MM) (a1 : Nat) : Option (q_MM) :=
  q_ck ((qTX c) a1) 15 <|
  (f_X2_pictureAt c M0 (M0 a1 8)).bind fun r4 =>
  if r4 = 0 then
    b_X2_part_18 c a1 M0
  else
    q_ck ((qTX c) r4) 15 <|
    q_let (q_u2 M0 r4 8 (-1)) fun M7 =>
    b_X2_part_18 c a1 M7
noncomputable def f_X2_pair (c : Nat → Nat) (M0 : q_MM) (a1 : Nat) (a2 : Nat) : Option (q_MM) :=
  (f_X2_part c M0 a1).bind fun r1 =>
  if a2 = 0 then
    some r1
  else
    (f_X2_part c r1 a2).bind fun r3 =>
    q_ck ((qTX c) a2) 15 <|
    q_ck ((qTX c) a1) 15 <|
    q_let (q_u2 r3 a1 8 (r3 a2 0)) fun M6 =>
    q_let (q_u2 M6 a2 8 (M6 a1 0)) fun M7 =>
    some M7
noncomputable def b_X10_lightIn_31 (c : Nat → Nat) (M : q_MM) (x0 : Nat) (x1 : Int32) (s0 : Int32) : Option (Int32) :=
  if s0 = 0 then
    q_ck ((qTX c) x0) 20 <|
    q_ck ((qTX c) ((qPX c) x0 5)) 1 <|
    q_ld M ((qPX c) x0 5) ((qLX c) ((qPX c) x0 5)) x1 fun v4 =>
    some v4
  else
    some 0
noncomputable def b_X10_lightIn_26 (c : Nat → Nat) (M : q_MM) (x0 : Nat) (x1 : Int32) : Option (Int32) :=
  b_X10_lightIn_31 c M x0 x1 1
noncomputable def b_X10_lightIn_30 (c : Nat → Nat) (M : q_MM) (x0 : Nat) (x1 : Int32) : Option (Int32) :=
  b_X10_lightIn_31 c M x0 x1 0
noncomputable def f_X10_lightIn (c : Nat → Nat) (M : q_MM) (o0 : Nat) (a1 : Int32) : Option (Int32) :=
  if a1 < 0 then
    b_X10_lightIn_26 c M o0 a1
  else
    if (24 : Int32) ≤ a1 then
      b_X10_lightIn_26 c M o0 a1
    else
      q_ck ((qTX c) o0) 20 <|
      if a1 < (M o0 6) then
        b_X10_lightIn_30 c M o0 a1
      else
        if (M o0 7) < a1 then
          b_X10_lightIn_30 c M o0 a1
        else
          b_X10_lightIn_26 c M o0 a1
noncomputable def b_X2_daylight_9 (c : Nat → Nat) (M : q_MM) : Nat → Nat → Int32 → Int32 → Option (Int32)
  | 0, _, _, _ => none
  | nf + 1, x1, x2, x3 =>
    q_ld M 16 4 3 fun v1 =>
    if v1 < x3 then
      some x2
    else
      q_ck ((qTX c) x1) 20 <|
      (f_X10_lightIn c M x1 x3).bind fun r4 =>
      q_let (x2 + r4) fun v5 =>
      b_X2_daylight_9 c M nf x1 v5 (x3 + 1)
noncomputable def f_X2_daylight (c : Nat → Nat) (M : q_MM) (a1 : Nat) : Option (Int32) :=
  q_ld M 16 4 2 fun v6 =>
  b_X2_daylight_9 c M q_fu a1 0 v6
noncomputable def b_X2_peak_9 (c : Nat → Nat) (M : q_MM) : Nat → Nat → Int32 → Int32 → Option (Int32)
  | 0, _, _, _ => none
  | nf + 1, x1, x2, x3 =>
    q_ld M 16 4 3 fun v1 =>
    if v1 < x3 then
      some x2
    else
      q_ck ((qTX c) x1) 20 <|
      (f_X10_lightIn c M x1 x3).bind fun r4 =>
      q_let (if x2 < r4 then r4 else x2) fun v5 =>
      b_X2_peak_9 c M nf x1 v5 (x3 + 1)
noncomputable def f_X2_peak (c : Nat → Nat) (M : q_MM) (a1 : Nat) : Option (Int32) :=
  q_ld M 16 4 2 fun v6 =>
  b_X2_peak_9 c M q_fu a1 0 v6
noncomputable def b_X2_weightOn_49 (c : Nat → Nat) (M : q_MM) (k4 : Nat → Int32 → Int32 → Option (Int32)) (x1 : Nat) (x3 : Int32) (s0 : Int32) (s1 : Int32) : Option (Int32) :=
  q_let (s1 + s0) fun v1 =>
  k4 x1 v1 (x3 + 1)
noncomputable def b_X2_weightOn_4 (c : Nat → Nat) (M : q_MM) : Nat → Nat → Int32 → Int32 → Option (Int32)
  | 0, _, _, _ => none
  | nf + 1, x1, x2, x3 =>
    (f_Jx4a65c_size_8abf5 (qTX c) (qLX c) (qPX c) M 15).bind fun r2 =>
    if r2 ≤ x3 then
      some x2
    else
      (f_X1_wallUnder c M 21 x3).bind fun r4 =>
      q_ck ((qTX c) x1) 20 <|
      if r4 = (M x1 0) then
        (f_Jx4a65c_get_915e3 (qTX c) (qLX c) (qPX c) M 15 x3).bind fun r7 =>
        q_ck ((qTX c) r7) 15 <|
        b_X2_weightOn_49 c M (b_X2_weightOn_4 c M nf) x1 x3 (M r7 3) x2
      else
        b_X2_weightOn_49 c M (b_X2_weightOn_4 c M nf) x1 x3 0 x2
noncomputable def f_X2_weightOn (c : Nat → Nat) (M : q_MM) (a1 : Nat) : Option (Int32) :=
  b_X2_weightOn_4 c M q_fu a1 0 0
noncomputable def b_X2_widthOn_49 (c : Nat → Nat) (M : q_MM) (k4 : Nat → Int32 → Int32 → Option (Int32)) (x1 : Nat) (x3 : Int32) (s0 : Int32) (s1 : Int32) : Option (Int32) :=
  q_let (s1 + s0) fun v1 =>
  k4 x1 v1 (x3 + 1)
noncomputable def b_X2_widthOn_4 (c : Nat → Nat) (M : q_MM) : Nat → Nat → Int32 → Int32 → Option (Int32)
  | 0, _, _, _ => none
  | nf + 1, x1, x2, x3 =>
    (f_Jx4a65c_size_8abf5 (qTX c) (qLX c) (qPX c) M 15).bind fun r2 =>
    if r2 ≤ x3 then
      some x2
    else
      (f_X1_wallUnder c M 21 x3).bind fun r4 =>
      q_ck ((qTX c) x1) 20 <|
      if r4 = (M x1 0) then
        (f_Jx4a65c_get_915e3 (qTX c) (qLX c) (qPX c) M 15 x3).bind fun r7 =>
        q_ck ((qTX c) r7) 15 <|
        b_X2_widthOn_49 c M (b_X2_widthOn_4 c M nf) x1 x3 (M r7 1) x2
      else
        b_X2_widthOn_49 c M (b_X2_widthOn_4 c M nf) x1 x3 0 x2
noncomputable def f_X2_widthOn (c : Nat → Nat) (M : q_MM) (a1 : Nat) : Option (Int32) :=
  b_X2_widthOn_4 c M q_fu a1 0 0
noncomputable def b_X2_tooHigh_32 (c : Nat → Nat) (M : q_MM) : Option (Int32) :=
  q_bl 1 (some 1)
noncomputable def f_X2_tooHigh (c : Nat → Nat) (M : q_MM) (a1 : Nat) (a2 : Nat) : Option (Int32) :=
  q_ld M 16 4 0 fun v1 =>
  q_ck ((qTX c) a1) 15 <|
  if ((2 : Int32) * v1) < (M a1 2) then
    b_X2_tooHigh_32 c M
  else
    q_ck ((qTX c) a2) 20 <|
    if (M a1 2) ≤ ((2 : Int32) * ((M a2 3) - v1)) then
      q_bl 0 (some 0)
    else
      b_X2_tooHigh_32 c M
noncomputable def b_X2_hindrance_151 (c : Nat → Nat) (M : q_MM) (k49 : Nat → Nat → Nat → Int32 → Int32 → Int32 → Int32 → Option (Int32)) (x1 : Nat) (x2 : Nat) (x3 : Nat) (x4 : Int32) (x5 : Int32) (x6 : Int32) (x7 : Int32) : Option (Int32) :=
  k49 x1 x2 x3 x4 x5 x6 (x7 + 1)
noncomputable def b_X2_hindrance_141 (c : Nat → Nat) (M : q_MM) (k49 : Nat → Nat → Nat → Int32 → Int32 → Int32 → Int32 → Option (Int32)) (x1 : Nat) (x2 : Nat) (x3 : Nat) (x4 : Int32) (x5 : Int32) (x6 : Int32) (x7 : Int32) (x8 : Nat) : Option (Int32) :=
  q_ck ((qTX c) x8) 15 <|
  q_let (x6 + (M x8 3)) fun v2 =>
  b_X2_hindrance_151 c M k49 x1 x2 x3 x4 x5 v2 x7
noncomputable def b_X2_hindrance_49 (c : Nat → Nat) (M : q_MM) : Nat → Nat → Nat → Nat → Int32 → Int32 → Int32 → Int32 → Option (Int32)
  | 0, _, _, _, _, _, _, _ => none
  | nf + 1, x1, x2, x3, x4, x5, x6, x7 =>
    (f_Jx4a65c_size_8abf5 (qTX c) (qLX c) (qPX c) M 15).bind fun r3 =>
    if r3 ≤ x7 then
      q_ck ((qTX c) x3) 20 <|
      if x6 ≤ (M x3 4) then
        some 0
      else
        some 4
    else
      q_ck ((qTX c) x2) 15 <|
      if x7 = (M x2 0) then
        b_X2_hindrance_151 c M (b_X2_hindrance_49 c M nf) x1 x2 x3 x4 x5 x6 x7
      else
        q_ck ((qTX c) x1) 11 <|
        (f_X1_wallUnder c M x1 x7).bind fun r10 =>
        q_ck ((qTX c) x3) 20 <|
        if r10 = (M x3 0) then
          (f_Jx4a65c_get_915e3 (qTX c) (qLX c) (qPX c) M 15 x7).bind fun r13 =>
          q_ck ((qTX c) r13) 15 <|
          (f_X1_leftSide c M x1 x7).bind fun r15 =>
          if ((r15 + (M r13 1)) + x5) ≤ x4 then
            b_X2_hindrance_141 c M (b_X2_hindrance_49 c M nf) x1 x2 x3 x4 x5 x6 x7 r13
          else
            if ((x4 + (M x2 1)) + x5) ≤ r15 then
              b_X2_hindrance_141 c M (b_X2_hindrance_49 c M nf) x1 x2 x3 x4 x5 x6 x7 r13
            else
              some 3
        else
          b_X2_hindrance_151 c M (b_X2_hindrance_49 c M nf) x1 x2 x3 x4 x5 x6 x7
noncomputable def f_X2_hindrance (c : Nat → Nat) (M : q_MM) (a1 : Nat) (a2 : Nat) (a3 : Nat) (a4 : Int32) : Option (Int32) :=
  if a4 < 0 then
    some 1
  else
    q_ck ((qTX c) a3) 20 <|
    q_ck ((qTX c) a2) 15 <|
    if a4 ≤ ((M a3 2) - (M a2 1)) then
      (f_X2_tooHigh c M a2 a3).bind fun r22 =>
      if r22 = 0 then
        q_ld M 16 4 1 fun v24 =>
        q_let (M a2 3) fun v25 =>
        b_X2_hindrance_49 c M q_fu a1 a2 a3 a4 v24 v25 0
      else
        some 2
    else
      some 1
noncomputable def f_X2_isIn (c : Nat → Nat) (M : q_MM) (a1 : Nat) (a2 : Int32) (a3 : Int32) : Option (Int32) :=
  q_ck ((qTX c) a1) 11 <|
  (f_X1_wallUnder c M a1 a2).bind fun r2 =>
  (f_X2_wallAt c M r2).bind fun r3 =>
  if r3 = 0 then
    q_bl 0 (some 0)
  else
    q_ck ((qTX c) r3) 20 <|
    if (M r3 1) = a3 then
      q_bl 1 (some 1)
    else
      q_bl 0 (some 0)
noncomputable def b_X2_meetsFoe_71 (c : Nat → Nat) (M : q_MM) (k3 : Nat → Nat → Int32 → Int32 → Option (Int32)) (x1 : Nat) (x2 : Nat) (x3 : Int32) (x4 : Int32) : Option (Int32) :=
  k3 x1 x2 x3 (x4 + 1)
noncomputable def b_X2_meetsFoe_51 (c : Nat → Nat) (M : q_MM) (k3 : Nat → Nat → Int32 → Int32 → Option (Int32)) (x1 : Nat) (x2 : Nat) (x3 : Int32) (x4 : Int32) (s0 : Int32) : Option (Int32) :=
  if s0 = 0 then
    b_X2_meetsFoe_71 c M k3 x1 x2 x3 x4
  else
    (f_X2_isIn c M x1 x4 x3).bind fun r2 =>
    if r2 = 0 then
      b_X2_meetsFoe_71 c M k3 x1 x2 x3 x4
    else
      q_bl 1 (some 1)
noncomputable def b_X2_meetsFoe_46 (c : Nat → Nat) (M : q_MM) (k3 : Nat → Nat → Int32 → Int32 → Option (Int32)) (x1 : Nat) (x2 : Nat) (x3 : Int32) (x4 : Int32) : Option (Int32) :=
  b_X2_meetsFoe_51 c M k3 x1 x2 x3 x4 1
noncomputable def b_X2_meetsFoe_3 (c : Nat → Nat) (M : q_MM) : Nat → Nat → Nat → Int32 → Int32 → Option (Int32)
  | 0, _, _, _, _ => none
  | nf + 1, x1, x2, x3, x4 =>
    (f_Jx4a65c_size_8abf5 (qTX c) (qLX c) (qPX c) M 15).bind fun r4 =>
    if r4 ≤ x4 then
      q_bl 0 (some 0)
    else
      q_ck ((qTX c) x2) 15 <|
      if (M x2 9) = x4 then
        b_X2_meetsFoe_46 c M (b_X2_meetsFoe_3 c M nf) x1 x2 x3 x4
      else
        (f_Jx4a65c_get_915e3 (qTX c) (qLX c) (qPX c) M 15 x4).bind fun r8 =>
        q_ck ((qTX c) r8) 15 <|
        if (M r8 9) = (M x2 0) then
          b_X2_meetsFoe_46 c M (b_X2_meetsFoe_3 c M nf) x1 x2 x3 x4
        else
          b_X2_meetsFoe_51 c M (b_X2_meetsFoe_3 c M nf) x1 x2 x3 x4 0
noncomputable def f_X2_meetsFoe (c : Nat → Nat) (M : q_MM) (a1 : Nat) (a2 : Nat) (a3 : Int32) : Option (Int32) :=
  b_X2_meetsFoe_3 c M q_fu a1 a2 a3 0
noncomputable def b_X2_othersIn_60 (c : Nat → Nat) (M : q_MM) (k6 : Nat → Nat → Int32 → Int32 → Int32 → Option (Int32)) (x1 : Nat) (x2 : Nat) (x3 : Int32) (x5 : Int32) (s0 : Int32) (s1 : Int32) : Option (Int32) :=
  q_let (s1 + s0) fun v1 =>
  k6 x1 x2 x3 v1 (x5 + 1)
noncomputable def b_X2_othersIn_59 (c : Nat → Nat) (M : q_MM) (k6 : Nat → Nat → Int32 → Int32 → Int32 → Option (Int32)) (x1 : Nat) (x2 : Nat) (x3 : Int32) (x5 : Int32) (s0 : Int32) : Option (Int32) :=
  b_X2_othersIn_60 c M k6 x1 x2 x3 x5 0 s0
noncomputable def b_X2_othersIn_6 (c : Nat → Nat) (M : q_MM) : Nat → Nat → Nat → Int32 → Int32 → Int32 → Option (Int32)
  | 0, _, _, _, _, _ => none
  | nf + 1, x1, x2, x3, x4, x5 =>
    (f_Jx4a65c_size_8abf5 (qTX c) (qLX c) (qPX c) M 15).bind fun r2 =>
    if r2 ≤ x5 then
      some x4
    else
      q_ck ((qTX c) x1) 11 <|
      (f_X1_wallUnder c M x1 x5).bind fun r5 =>
      (f_X2_wallAt c M r5).bind fun r6 =>
      q_ck ((qTX c) x2) 15 <|
      if x5 = (M x2 0) then
        b_X2_othersIn_59 c M (b_X2_othersIn_6 c M nf) x1 x2 x3 x5 x4
      else
        if r6 = 0 then
          b_X2_othersIn_59 c M (b_X2_othersIn_6 c M nf) x1 x2 x3 x5 x4
        else
          q_ck ((qTX c) r6) 20 <|
          if (M r6 1) = x3 then
            b_X2_othersIn_60 c M (b_X2_othersIn_6 c M nf) x1 x2 x3 x5 1 x4
          else
            b_X2_othersIn_59 c M (b_X2_othersIn_6 c M nf) x1 x2 x3 x5 x4
noncomputable def f_X2_othersIn (c : Nat → Nat) (M : q_MM) (a1 : Nat) (a2 : Nat) (a3 : Int32) : Option (Int32) :=
  b_X2_othersIn_6 c M q_fu a1 a2 a3 0 0
noncomputable def f_X2_likingOf (c : Nat → Nat) (M : q_MM) (a1 : Nat) (a2 : Nat) : Option (Int32) :=
  q_ck ((qTX c) a1) 15 <|
  q_ck ((qTX c) a2) 15 <|
  q_ld M 17 64 (((M a1 4) * 8) + (M a2 4)) fun v3 =>
  some v3
noncomputable def b_X2_likedAt_72 (c : Nat → Nat) (M : q_MM) (s0 : Int32) (s1 : Int32) : Option (Int32) :=
  some (s1 + s0)
noncomputable def b_X2_likedAt_56 (c : Nat → Nat) (M : q_MM) (x2 : Nat) (x6 : Nat) (s0 : Int32) : Option (Int32) :=
  if x6 = 0 then
    b_X2_likedAt_72 c M 0 s0
  else
    (f_X2_likingOf c M x2 x6).bind fun r2 =>
    b_X2_likedAt_72 c M r2 s0
noncomputable def f_X2_likedAt (c : Nat → Nat) (M : q_MM) (a1 : Nat) (a2 : Nat) (a3 : Nat) (a4 : Int32) : Option (Int32) :=
  q_ck ((qTX c) a2) 15 <|
  q_ck ((qTX c) a3) 20 <|
  q_ck ((qTX c) a1) 11 <|
  (f_X1_leftOf c M a1 (M a2 0) (M a3 0) a4).bind fun r6 =>
  (f_X2_pictureAt c M r6).bind fun r7 =>
  (f_X1_rightOf c M a1 (M a2 0) (M a3 0) a4).bind fun r8 =>
  (f_X2_pictureAt c M r8).bind fun r9 =>
  if r7 = 0 then
    b_X2_likedAt_56 c M a2 r9 0
  else
    (f_X2_likingOf c M a2 r7).bind fun r11 =>
    b_X2_likedAt_56 c M a2 r9 r11
noncomputable def b_X2_pass_75 (c : Nat → Nat) (k13 : Int32 → q_MM → Option (q_MM)) (x1 : Int32) (M : q_MM) : Option (q_MM) :=
  k13 (x1 + 1) M
noncomputable def b_X2_pass_140 (c : Nat → Nat) (k93 : Int32 → q_MM → Option (q_MM)) (x1 : Int32) (M : q_MM) : Option (q_MM) :=
  k93 (x1 + 1) M
noncomputable def b_X2_pass_93 (c : Nat → Nat) : Nat → Int32 → q_MM → Option (q_MM)
  | 0, _, _ => none
  | nf + 1, x1, M =>
    (f_Jx4a65c_size_8abf5 (qTX c) (qLX c) (qPX c) M 15).bind fun r1 =>
    if r1 ≤ x1 then
      some M
    else
      (f_Jx4a65c_get_915e3 (qTX c) (qLX c) (qPX c) M 15 x1).bind fun r3 =>
      q_ck ((qTX c) r3) 15 <|
      if (M 2 12) < (M r3 11) then
        b_X2_pass_140 c (b_X2_pass_93 c nf) x1 M
      else
        q_let (q_u2 M r3 12 3) fun M6 =>
        (f_X1_take c M6 21 x1).bind fun r7 =>
        b_X2_pass_140 c (b_X2_pass_93 c nf) x1 r7
noncomputable def b_X2_pass_13 (c : Nat → Nat) : Nat → Int32 → q_MM → Option (q_MM)
  | 0, _, _ => none
  | nf + 1, x1, M =>
    (f_Jx4a65c_size_8abf5 (qTX c) (qLX c) (qPX c) M 15).bind fun r8 =>
    if r8 ≤ x1 then
      q_let (q_u2 M 2 12 ((M 2 12) + 1)) fun M10 =>
      b_X2_pass_93 c q_fu 0 M10
    else
      (f_Jx4a65c_get_915e3 (qTX c) (qLX c) (qPX c) M 15 x1).bind fun r11 =>
      q_ck ((qTX c) r11) 15 <|
      (f_X2_wallOf c M r11).bind fun r13 =>
      if r13 = 0 then
        b_X2_pass_75 c (b_X2_pass_13 c nf) x1 M
      else
        (f_X2_daylight c M r13).bind fun r15 =>
        q_let (q_u2 M r11 13 ((M r11 13) + r15)) fun M16 =>
        q_ld M16 20 400 (M16 2 12) fun v17 =>
        q_as M16 20 400 (M16 2 12) (v17 ||| ((1 : Int32) <<< (x1 &&& 31))) fun M18 =>
        b_X2_pass_75 c (b_X2_pass_13 c nf) x1 M18
noncomputable def f_X2_pass (c : Nat → Nat) (M0 : q_MM) : Option (q_MM) :=
  if (M0 2 12) < (400 : Int32) then
    b_X2_pass_13 c q_fu 0 M0
  else
    some M0
noncomputable def b_X2_nightsShown_47 (c : Nat → Nat) (M : q_MM) (x4 : Int32) : Option (Int32) :=
  some x4
noncomputable def b_X2_nightsShown_10 (c : Nat → Nat) (M : q_MM) : Nat → Int32 → Int32 → Int32 → Int32 → Option (Int32)
  | 0, _, _, _, _ => none
  | nf + 1, x1, x3, x4, x5 =>
    if x3 ≤ x5 then
      b_X2_nightsShown_47 c M x4
    else
      if (400 : Int32) ≤ x5 then
        b_X2_nightsShown_47 c M x4
      else
        q_ld M 20 400 x5 fun v3 =>
        (f_J6_bitCount_0f7a4 (qTX c) (qLX c) (qPX c) M (v3 &&& x1)).bind fun r4 =>
        q_let (x4 + r4) fun v5 =>
        b_X2_nightsShown_10 c M nf x1 x3 v5 (x5 + 1)
noncomputable def f_X2_nightsShown (c : Nat → Nat) (M : q_MM) (a1 : Int32) (a2 : Int32) (a3 : Int32) : Option (Int32) :=
  q_let (if 0 < a2 then a2 else 0) fun v6 =>
  b_X2_nightsShown_10 c M q_fu a1 a3 0 v6
noncomputable def b_X2_givenBy_41 (c : Nat → Nat) (M : q_MM) (k4 : Int32 → Int32 → Int32 → Option (Int32)) (x1 : Int32) (x3 : Int32) (s0 : Int32) (s1 : Int32) : Option (Int32) :=
  q_let (s1 ||| s0) fun v1 =>
  k4 x1 v1 (x3 + 1)
noncomputable def b_X2_givenBy_4 (c : Nat → Nat) (M : q_MM) : Nat → Int32 → Int32 → Int32 → Option (Int32)
  | 0, _, _, _ => none
  | nf + 1, x1, x2, x3 =>
    (f_Jx4a65c_size_8abf5 (qTX c) (qLX c) (qPX c) M 15).bind fun r2 =>
    if r2 ≤ x3 then
      some x2
    else
      (f_Jx4a65c_get_915e3 (qTX c) (qLX c) (qPX c) M 15 x3).bind fun r4 =>
      q_ck ((qTX c) r4) 15 <|
      if (M r4 7) = x1 then
        b_X2_givenBy_41 c M (b_X2_givenBy_4 c M nf) x1 x3 ((1 : Int32) <<< (x3 &&& 31)) x2
      else
        b_X2_givenBy_41 c M (b_X2_givenBy_4 c M nf) x1 x3 0 x2
noncomputable def f_X2_givenBy (c : Nat → Nat) (M : q_MM) (a1 : Int32) : Option (Int32) :=
  b_X2_givenBy_4 c M q_fu a1 0 0
noncomputable def f_X2_isShut (c : Nat → Nat) (M : q_MM) (a1 : Int32) : Option (Int32) :=
  if (((M 2 11) >>> (a1 &&& 31)) &&& 1) = 0 then
    q_bl 0 (some 0)
  else
    q_bl 1 (some 1)
noncomputable def b_X2_goesThrough_55 (c : Nat → Nat) (M : q_MM) : Option (Int32) :=
  q_bl 1 (some 1)
noncomputable def f_X2_goesThrough (c : Nat → Nat) (M : q_MM) (a1 : Nat) (a2 : Int32) (a3 : Int32) : Option (Int32) :=
  (f_Jx4a65c_get_915e3 (qTX c) (qLX c) (qPX c) M 13 a2).bind fun r1 =>
  q_ck ((qTX c) r1) 10 <|
  if a1 = 0 then
    b_X2_goesThrough_55 c M
  else
    (f_X2_isShut c M (M r1 0)).bind fun r4 =>
    if r4 = 0 then
      (f_X2_isShut c M (M r1 1)).bind fun r6 =>
      if r6 = 0 then
        if a2 = a3 then
          b_X2_goesThrough_55 c M
        else
          (f_X0_lets c M r1 a1).bind fun r9 =>
          if r9 = 0 then
            q_bl 0 (some 0)
          else
            b_X2_goesThrough_55 c M
      else
        q_bl 0 (some 0)
    else
      q_bl 0 (some 0)
noncomputable def b_X2_measure_25 (c : Nat → Nat) (k3 : Nat → Int32 → Nat → Int32 → Int32 → q_MM → Option (q_MM)) (x1 : Nat) (x2 : Int32) (x3 : Nat) (x4 : Int32) (x5 : Int32) (s0 : Int32) (s1 : Int32) (s2 : Nat) (M : q_MM) : Option (q_MM) :=
  q_ck ((qTX c) s2) 1 <|
  q_as M s2 ((qLX c) s2) s1 s0 fun M2 =>
  k3 x1 x2 x3 x4 (x5 + 1) M2
noncomputable def b_X2_measure_137 (c : Nat → Nat) (k47 : Nat → Nat → Int32 → Int32 → Int32 → q_MM → Option (q_MM)) (x1 : Nat) (x3 : Nat) (x4 : Int32) (x5 : Int32) (x6 : Int32) (M : q_MM) : Option (q_MM) :=
  k47 x1 x3 x4 x5 (x6 + 1) M
noncomputable def b_X2_measure_47 (c : Nat → Nat) (k35 : Nat → Nat → Int32 → Int32 → q_MM → Option (q_MM)) : Nat → Nat → Nat → Int32 → Int32 → Int32 → q_MM → Option (q_MM)
  | 0, _, _, _, _, _, _ => none
  | nf + 1, x1, x3, x4, x5, x6, M =>
    (f_Jx4a65c_size_8abf5 (qTX c) (qLX c) (qPX c) M 13).bind fun r3 =>
    if r3 ≤ x6 then
      k35 x1 x3 x4 (x5 + 1) M
    else
      (f_X2_goesThrough c M x3 x6 x4).bind fun r5 =>
      if r5 = 0 then
        b_X2_measure_137 c (b_X2_measure_47 c k35 nf) x1 x3 x4 x5 x6 M
      else
        (f_Jx4a65c_get_915e3 (qTX c) (qLX c) (qPX c) M 13 x6).bind fun r7 =>
        q_ck ((qTX c) r7) 10 <|
        q_ck ((qTX c) x1) 1 <|
        q_ld M x1 ((qLX c) x1) (M r7 0) fun v10 =>
        q_ld M x1 ((qLX c) x1) (M r7 1) fun v11 =>
        q_as M x1 ((qLX c) x1) (M r7 0) (if (v11 + 1) < v10 then (v11 + 1) else v10) fun M12 =>
        q_ld M12 x1 ((qLX c) x1) (M12 r7 1) fun v13 =>
        q_ld M12 x1 ((qLX c) x1) (M12 r7 0) fun v14 =>
        q_as M12 x1 ((qLX c) x1) (M12 r7 1) (if (v14 + 1) < v13 then (v14 + 1) else v13) fun M15 =>
        b_X2_measure_137 c (b_X2_measure_47 c k35 nf) x1 x3 x4 x5 x6 M15
noncomputable def b_X2_measure_35 (c : Nat → Nat) : Nat → Nat → Nat → Int32 → Int32 → q_MM → Option (q_MM)
  | 0, _, _, _, _, _ => none
  | nf + 1, x1, x3, x4, x5, M =>
    if (M 2 10) ≤ x5 then
      some M
    else
      b_X2_measure_47 c (b_X2_measure_35 c nf) q_fu x1 x3 x4 x5 0 M
noncomputable def b_X2_measure_3 (c : Nat → Nat) : Nat → Nat → Int32 → Nat → Int32 → Int32 → q_MM → Option (q_MM)
  | 0, _, _, _, _, _, _ => none
  | nf + 1, x1, x2, x3, x4, x5, M =>
    q_ck ((qTX c) x1) 1 <|
    if (Int32.ofNat ((qLX c) x1)) ≤ x5 then
      b_X2_measure_35 c q_fu x1 x3 x4 1 M
    else
      if x5 = x2 then
        b_X2_measure_25 c (b_X2_measure_3 c nf) x1 x2 x3 x4 x5 0 x5 x1 M
      else
        b_X2_measure_25 c (b_X2_measure_3 c nf) x1 x2 x3 x4 x5 99 x5 x1 M
noncomputable def f_X2_measure (c : Nat → Nat) (M0 : q_MM) (a1 : Nat) (a2 : Int32) (a3 : Nat) (a4 : Int32) : Option (q_MM) :=
  b_X2_measure_3 c q_fu a1 a2 a3 a4 0 M0
noncomputable def f_X2_doorsBetween (c : Nat → Nat) (M0 : q_MM) (a1 : Nat) (a2 : Int32) (a3 : Int32) (a4 : Int32) : Option (Int32 × q_MM) :=
  (f_X2_hasRoom c M0 a2).bind fun r1 =>
  if r1 = 0 then
    some (99, M0)
  else
    (f_X2_isShut c M0 a2).bind fun r3 =>
    if r3 = 0 then
      (f_X2_isShut c M0 a3).bind fun r5 =>
      if r5 = 0 then
        (f_X2_measure c M0 19 a3 a1 a4).bind fun r7 =>
        q_ld r7 19 10 a2 fun v8 =>
        some (v8, r7)
      else
        some (99, M0)
    else
      some (99, M0)
noncomputable def b_X2_nextRoom_126 (c : Nat → Nat) (M : q_MM) (k6 : Nat → Int32 → Int32 → Int32 → Int32 → Option (Int32)) (x1 : Nat) (x2 : Int32) (x3 : Int32) (x4 : Int32) (x5 : Int32) : Option (Int32) :=
  k6 x1 x2 x3 x4 (x5 + 1)
noncomputable def b_X2_nextRoom_122 (c : Nat → Nat) (M : q_MM) (k6 : Nat → Int32 → Int32 → Int32 → Int32 → Option (Int32)) (x1 : Nat) (x2 : Int32) (x3 : Int32) (x5 : Int32) (x7 : Int32) : Option (Int32) :=
  b_X2_nextRoom_126 c M k6 x1 x2 x3 x7 x5
noncomputable def b_X2_nextRoom_102 (c : Nat → Nat) (M : q_MM) (k6 : Nat → Int32 → Int32 → Int32 → Int32 → Option (Int32)) (x1 : Nat) (x2 : Int32) (x3 : Int32) (x4 : Int32) (x5 : Int32) (x7 : Int32) (s0 : Int32) : Option (Int32) :=
  if s0 = 0 then
    b_X2_nextRoom_126 c M k6 x1 x2 x3 x4 x5
  else
    if x4 = ((-1) : Int32) then
      b_X2_nextRoom_122 c M k6 x1 x2 x3 x5 x7
    else
      if x4 ≤ x7 then
        b_X2_nextRoom_126 c M k6 x1 x2 x3 x4 x5
      else
        b_X2_nextRoom_122 c M k6 x1 x2 x3 x5 x7
noncomputable def b_X2_nextRoom_101 (c : Nat → Nat) (M : q_MM) (k6 : Nat → Int32 → Int32 → Int32 → Int32 → Option (Int32)) (x1 : Nat) (x2 : Int32) (x3 : Int32) (x4 : Int32) (x5 : Int32) (x7 : Int32) : Option (Int32) :=
  b_X2_nextRoom_102 c M k6 x1 x2 x3 x4 x5 x7 0
noncomputable def b_X2_nextRoom_67 (c : Nat → Nat) (M : q_MM) (k6 : Nat → Int32 → Int32 → Int32 → Int32 → Option (Int32)) (x1 : Nat) (x2 : Int32) (x3 : Int32) (x4 : Int32) (x5 : Int32) (s0 : Int32) : Option (Int32) :=
  if s0 = ((-1) : Int32) then
    b_X2_nextRoom_101 c M k6 x1 x2 x3 x4 x5 s0
  else
    q_ld M 19 10 s0 fun v5 =>
    if v5 = x3 then
      (f_X2_goesThrough c M x1 x5 (-1)).bind fun r7 =>
      if r7 = 0 then
        b_X2_nextRoom_101 c M k6 x1 x2 x3 x4 x5 s0
      else
        b_X2_nextRoom_102 c M k6 x1 x2 x3 x4 x5 s0 1
    else
      b_X2_nextRoom_101 c M k6 x1 x2 x3 x4 x5 s0
noncomputable def b_X2_nextRoom_6 (c : Nat → Nat) (M : q_MM) : Nat → Nat → Int32 → Int32 → Int32 → Int32 → Option (Int32)
  | 0, _, _, _, _, _ => none
  | nf + 1, x1, x2, x3, x4, x5 =>
    (f_Jx4a65c_size_8abf5 (qTX c) (qLX c) (qPX c) M 13).bind fun r9 =>
    if r9 ≤ x5 then
      some x4
    else
      (f_Jx4a65c_get_915e3 (qTX c) (qLX c) (qPX c) M 13 x5).bind fun r11 =>
      q_ck ((qTX c) r11) 10 <|
      if (M r11 0) = x2 then
        b_X2_nextRoom_67 c M (b_X2_nextRoom_6 c M nf) x1 x2 x3 x4 x5 (M r11 1)
      else
        if (M r11 1) = x2 then
          b_X2_nextRoom_67 c M (b_X2_nextRoom_6 c M nf) x1 x2 x3 x4 x5 (M r11 0)
        else
          b_X2_nextRoom_67 c M (b_X2_nextRoom_6 c M nf) x1 x2 x3 x4 x5 (-1)
noncomputable def f_X2_nextRoom (c : Nat → Nat) (M : q_MM) (a1 : Nat) (a2 : Int32) (a3 : Int32) : Option (Int32) :=
  b_X2_nextRoom_6 c M q_fu a1 a2 a3 (-1) 0
noncomputable def b_X2_wallsWith_65 (c : Nat → Nat) (M : q_MM) (k4 : Int32 → Int32 → Int32 → Option (Int32)) (x1 : Int32) (x2 : Int32) (x3 : Int32) : Option (Int32) :=
  k4 x1 x2 (x3 + 1)
noncomputable def b_X2_wallsWith_4 (c : Nat → Nat) (M : q_MM) : Nat → Int32 → Int32 → Int32 → Option (Int32)
  | 0, _, _, _ => none
  | nf + 1, x1, x2, x3 =>
    (f_Jx4a65c_size_8abf5 (qTX c) (qLX c) (qPX c) M 15).bind fun r1 =>
    if r1 ≤ x3 then
      some x2
    else
      (f_Jx4a65c_get_915e3 (qTX c) (qLX c) (qPX c) M 15 x3).bind fun r3 =>
      q_ck ((qTX c) r3) 15 <|
      (f_X2_wallOf c M r3).bind fun r5 =>
      if r5 = 0 then
        b_X2_wallsWith_65 c M (b_X2_wallsWith_4 c M nf) x1 x2 x3
      else
        (f_Jx4a65c_get_915e3 (qTX c) (qLX c) (qPX c) M 15 x3).bind fun r7 =>
        q_ck ((qTX c) r7) 15 <|
        if (M r7 6) < x1 then
          b_X2_wallsWith_65 c M (b_X2_wallsWith_4 c M nf) x1 x2 x3
        else
          q_ck ((qTX c) r5) 20 <|
          q_let (x2 ||| ((1 : Int32) <<< ((M r5 0) &&& 31))) fun v11 =>
          b_X2_wallsWith_65 c M (b_X2_wallsWith_4 c M nf) x1 v11 x3
noncomputable def f_X2_wallsWith (c : Nat → Nat) (M : q_MM) (a1 : Int32) : Option (Int32) :=
  b_X2_wallsWith_4 c M q_fu a1 0 0
noncomputable def b_X2_areSeen_42 (c : Nat → Nat) (M : q_MM) (k2 : Int32 → Int32 → Int32 → Option (Int32)) (x1 : Int32) (x2 : Int32) (x3 : Int32) : Option (Int32) :=
  k2 x1 x2 (x3 + 1)
noncomputable def b_X2_areSeen_2 (c : Nat → Nat) (M : q_MM) : Nat → Int32 → Int32 → Int32 → Option (Int32)
  | 0, _, _, _ => none
  | nf + 1, x1, x2, x3 =>
    (f_Jx4a65c_size_8abf5 (qTX c) (qLX c) (qPX c) M 14).bind fun r1 =>
    if r1 ≤ x3 then
      q_bl 1 (some 1)
    else
      if ((x1 >>> (x3 &&& 31)) &&& 1) = 0 then
        b_X2_areSeen_42 c M (b_X2_areSeen_2 c M nf) x1 x2 x3
      else
        (f_Jx4a65c_get_915e3 (qTX c) (qLX c) (qPX c) M 14 x3).bind fun r4 =>
        q_ck ((qTX c) r4) 20 <|
        if ((M r4 8) &&& x2) = 0 then
          q_bl 0 (some 0)
        else
          b_X2_areSeen_42 c M (b_X2_areSeen_2 c M nf) x1 x2 x3
noncomputable def f_X2_areSeen (c : Nat → Nat) (M : q_MM) (a1 : Int32) (a2 : Int32) : Option (Int32) :=
  b_X2_areSeen_2 c M q_fu a1 a2 0
noncomputable def f_X4_clear (c : Nat → Nat) (M0 : q_MM) (o0 : Nat) : Option (q_MM) :=
  q_ck ((qTX c) o0) 14 <|
  q_let (q_u2 M0 o0 1 0) fun M2 =>
  some M2
noncomputable def f_X3_forget (c : Nat → Nat) (M0 : q_MM) : Option (q_MM) :=
  (f_X4_clear c M0 39).bind fun r1 =>
  (f_X4_clear c r1 40).bind fun r2 =>
  (f_X4_clear c r2 41).bind fun r3 =>
  some r3
noncomputable def f_X3_allMoves (c : Nat → Nat) (M : q_MM) : Option (Int32) :=
  some (((1 : Int32) <<< ((M 39 1) &&& 31)) - 1)
noncomputable def f_X4_get (c : Nat → Nat) (M : q_MM) (o0 : Nat) (a1 : Int32) : Option (Int32) :=
  if a1 < 0 then
    some (-1)
  else
    q_ck ((qTX c) o0) 14 <|
    if (M o0 1) ≤ a1 then
      some (-1)
    else
      q_ck ((qTX c) ((qPX c) o0 0)) 1 <|
      q_ld M ((qPX c) o0 0) ((qLX c) ((qPX c) o0 0)) a1 fun v5 =>
      some v5
noncomputable def b_X3_tryDone_72 (c : Nat → Nat) (k19 : Int32 → Int32 → q_MM → Option (q_MM)) (x1 : Int32) (x2 : Int32) (M : q_MM) : Option (q_MM) :=
  k19 x1 (x2 + 1) M
noncomputable def b_X3_tryDone_19 (c : Nat → Nat) : Nat → Int32 → Int32 → q_MM → Option (q_MM)
  | 0, _, _, _ => none
  | nf + 1, x1, x2, M =>
    if (M 39 1) ≤ x2 then
      some M
    else
      if ((x1 >>> (x2 &&& 31)) &&& 1) = 0 then
        b_X3_tryDone_72 c (b_X3_tryDone_19 c nf) x1 x2 M
      else
        (f_X4_get c M 39 x2).bind fun r3 =>
        (f_X4_get c M 40 x2).bind fun r4 =>
        (f_X4_get c M 41 x2).bind fun r5 =>
        (f_X1_put c M 22 r3 r4 r5).bind fun r6 =>
        b_X3_tryDone_72 c (b_X3_tryDone_19 c nf) x1 x2 r6
noncomputable def f_X3_tryDone (c : Nat → Nat) (M0 : q_MM) (a1 : Int32) : Option (q_MM) :=
  (f_X1_become c M0 22 21).bind fun r7 =>
  b_X3_tryDone_19 c q_fu a1 0 r7
noncomputable def f_X3_canStand (c : Nat → Nat) (M : q_MM) (a1 : Int32) : Option (Int32) :=
  (f_X4_get c M 39 a1).bind fun r1 =>
  (f_X2_present c M r1).bind fun r2 =>
  (f_X4_get c M 40 a1).bind fun r3 =>
  (f_X2_wallAt c M r3).bind fun r4 =>
  if r2 = 0 then
    q_bl 0 (some 0)
  else
    if r4 = 0 then
      q_bl 0 (some 0)
    else
      (f_X4_get c M 41 a1).bind fun r7 =>
      (f_X2_hindrance c M 22 r2 r4 r7).bind fun r8 =>
      if r8 = 0 then
        q_bl 1 (some 1)
      else
        q_bl 0 (some 0)
noncomputable def b_X3_allCanStand_10 (c : Nat → Nat) : Nat → Int32 → q_MM → Option (Int32 × q_MM)
  | 0, _, _ => none
  | nf + 1, x1, M =>
    if (M 39 1) ≤ x1 then
      q_bl 1 (some (1, M))
    else
      (f_X3_canStand c M x1).bind fun r2 =>
      if r2 = 0 then
        q_bl 0 (some (0, M))
      else
        b_X3_allCanStand_10 c nf (x1 + 1) M
noncomputable def f_X3_allCanStand (c : Nat → Nat) (M0 : q_MM) : Option (Int32 × q_MM) :=
  (f_X3_allMoves c M0).bind fun r4 =>
  (f_X3_tryDone c M0 r4).bind fun r5 =>
  b_X3_allCanStand_10 c q_fu 0 r5
noncomputable def b_X3_roomsOf_70 (c : Nat → Nat) (M : q_MM) (s0 : Int32) (s1 : Int32) : Option (Int32) :=
  some (s1 ||| s0)
noncomputable def b_X3_roomsOf_56 (c : Nat → Nat) (M : q_MM) (x3 : Nat) (s0 : Int32) : Option (Int32) :=
  if x3 = 0 then
    b_X3_roomsOf_70 c M 0 s0
  else
    q_ck ((qTX c) x3) 20 <|
    b_X3_roomsOf_70 c M ((1 : Int32) <<< ((M x3 1) &&& 31)) s0
noncomputable def f_X3_roomsOf (c : Nat → Nat) (M : q_MM) (a1 : Int32) : Option (Int32) :=
  (f_X4_get c M 39 a1).bind fun r3 =>
  (f_X1_wallUnder c M 21 r3).bind fun r4 =>
  (f_X2_wallAt c M r4).bind fun r5 =>
  (f_X4_get c M 40 a1).bind fun r6 =>
  (f_X2_wallAt c M r6).bind fun r7 =>
  if r5 = 0 then
    b_X3_roomsOf_56 c M r7 0
  else
    q_ck ((qTX c) r5) 20 <|
    b_X3_roomsOf_56 c M r7 ((1 : Int32) <<< ((M r5 1) &&& 31))
noncomputable def b_X3_lookAtSets_89 (c : Nat → Nat) (k33 : Int32 → Int32 → Int32 → q_MM → Option (q_MM)) (x1 : Int32) (x2 : Int32) (x3 : Int32) (M : q_MM) : Option (q_MM) :=
  k33 x1 x2 (x3 + 1) M
noncomputable def b_X3_lookAtSets_33 (c : Nat → Nat) (k7 : Int32 → Int32 → q_MM → Option (q_MM)) : Nat → Int32 → Int32 → Int32 → q_MM → Option (q_MM)
  | 0, _, _, _, _ => none
  | nf + 1, x1, x2, x3, M =>
    if (M 39 1) ≤ x3 then
      k7 x1 (x2 + 1) M
    else
      if ((x2 >>> (x3 &&& 31)) &&& 1) = 0 then
        (f_X3_canStand c M x3).bind fun r3 =>
        if r3 = 0 then
          b_X3_lookAtSets_89 c (b_X3_lookAtSets_33 c k7 nf) x1 x2 x3 M
        else
          q_ld M 42 256 x2 fun v5 =>
          q_as M 42 256 x2 (v5 ||| ((1 : Int32) <<< (x3 &&& 31))) fun M6 =>
          b_X3_lookAtSets_89 c (b_X3_lookAtSets_33 c k7 nf) x1 x2 x3 M6
      else
        q_ld M 43 256 x2 fun v7 =>
        (f_X3_roomsOf c M x3).bind fun r8 =>
        q_as M 43 256 x2 (v7 ||| r8) fun M9 =>
        b_X3_lookAtSets_89 c (b_X3_lookAtSets_33 c k7 nf) x1 x2 x3 M9
noncomputable def b_X3_lookAtSets_7 (c : Nat → Nat) : Nat → Int32 → Int32 → q_MM → Option (q_MM)
  | 0, _, _, _ => none
  | nf + 1, x1, x2, M =>
    if x1 < x2 then
      some M
    else
      (f_X3_tryDone c M x2).bind fun r11 =>
      q_as r11 42 256 x2 0 fun M12 =>
      q_as M12 43 256 x2 0 fun M13 =>
      b_X3_lookAtSets_33 c (b_X3_lookAtSets_7 c nf) q_fu x1 x2 0 M13
noncomputable def f_X3_lookAtSets (c : Nat → Nat) (M0 : q_MM) : Option (q_MM) :=
  (f_X3_allMoves c M0).bind fun r14 =>
  b_X3_lookAtSets_7 c q_fu r14 0 M0
noncomputable def b_X3_reachFrom_122 (c : Nat → Nat) (k31 : Int32 → Int32 → Int32 → Int32 → q_MM → Option (q_MM)) (x1 : Int32) (x2 : Int32) (x3 : Int32) (x4 : Int32) (s0 : Int32) (s1 : Int32) (s2 : Nat) (M : q_MM) : Option (q_MM) :=
  q_ck ((qTX c) s2) 2 <|
  q_as M s2 ((qLX c) s2) s1 (vp_nar .boolean s0) fun M2 =>
  k31 x1 x2 x3 (x4 + 1) M2
noncomputable def b_X3_reachFrom_121 (c : Nat → Nat) (k31 : Int32 → Int32 → Int32 → Int32 → q_MM → Option (q_MM)) (x1 : Int32) (x2 : Int32) (x3 : Int32) (x4 : Int32) (s0 : Int32) (s1 : Nat) (M : q_MM) : Option (q_MM) :=
  b_X3_reachFrom_122 c k31 x1 x2 x3 x4 0 s0 s1 M
noncomputable def b_X3_reachFrom_80 (c : Nat → Nat) (k31 : Int32 → Int32 → Int32 → Int32 → q_MM → Option (q_MM)) (x1 : Int32) (x2 : Int32) (x3 : Int32) (x4 : Int32) (x5 : Int32) (s0 : Int32) (M : q_MM) : Option (q_MM) :=
  if s0 = 0 then
    b_X3_reachFrom_121 c k31 x1 x2 x3 x4 x3 45 M
  else
    q_ld M 45 256 x5 fun v4 =>
    if v4 = 0 then
      b_X3_reachFrom_121 c k31 x1 x2 x3 x4 x3 45 M
    else
      q_ld M 42 256 x5 fun v6 =>
      if ((v6 >>> (x4 &&& 31)) &&& 1) = 0 then
        b_X3_reachFrom_121 c k31 x1 x2 x3 x4 x3 45 M
      else
        b_X3_reachFrom_122 c k31 x1 x2 x3 x4 1 x3 45 M
noncomputable def b_X3_reachFrom_129 (c : Nat → Nat) (k7 : Int32 → Int32 → Int32 → q_MM → Option (q_MM)) (x1 : Int32) (x2 : Int32) (x3 : Int32) (M : q_MM) : Option (q_MM) :=
  q_let ((x3 + 1) ||| x1) fun v8 =>
  k7 x1 x2 v8 M
noncomputable def b_X3_reachFrom_31 (c : Nat → Nat) (k7 : Int32 → Int32 → Int32 → q_MM → Option (q_MM)) : Nat → Int32 → Int32 → Int32 → Int32 → q_MM → Option (q_MM)
  | 0, _, _, _, _, _ => none
  | nf + 1, x1, x2, x3, x4, M =>
    if (M 39 1) ≤ x4 then
      b_X3_reachFrom_129 c k7 x1 x2 x3 M
    else
      q_ld M 45 256 x3 fun v10 =>
      if v10 = 0 then
        q_let (x3 &&& (((1 : Int32) <<< (x4 &&& 31)) ^^^ (-1))) fun v12 =>
        if ((x3 &&& (x1 ^^^ (-1))) &&& ((1 : Int32) <<< (x4 &&& 31))) = 0 then
          b_X3_reachFrom_80 c (b_X3_reachFrom_31 c k7 nf) x1 x2 x3 x4 v12 0 M
        else
          b_X3_reachFrom_80 c (b_X3_reachFrom_31 c k7 nf) x1 x2 x3 x4 v12 1 M
      else
        b_X3_reachFrom_129 c k7 x1 x2 x3 M
noncomputable def b_X3_reachFrom_27 (c : Nat → Nat) (k7 : Int32 → Int32 → Int32 → q_MM → Option (q_MM)) (x1 : Int32) (x2 : Int32) (x3 : Int32) (s0 : Int32) (s1 : Int32) (s2 : Nat) (M : q_MM) : Option (q_MM) :=
  q_ck ((qTX c) s2) 2 <|
  q_as M s2 ((qLX c) s2) s1 (vp_nar .boolean s0) fun M15 =>
  b_X3_reachFrom_31 c k7 q_fu x1 x2 x3 0 M15
noncomputable def b_X3_reachFrom_7 (c : Nat → Nat) : Nat → Int32 → Int32 → Int32 → q_MM → Option (q_MM)
  | 0, _, _, _, _ => none
  | nf + 1, x1, x2, x3, M =>
    if x2 < x3 then
      some M
    else
      if x3 = x1 then
        b_X3_reachFrom_27 c (b_X3_reachFrom_7 c nf) x1 x2 x3 1 x3 45 M
      else
        b_X3_reachFrom_27 c (b_X3_reachFrom_7 c nf) x1 x2 x3 0 x3 45 M
noncomputable def f_X3_reachFrom (c : Nat → Nat) (M0 : q_MM) (a1 : Int32) : Option (q_MM) :=
  (f_X3_allMoves c M0).bind fun r18 =>
  b_X3_reachFrom_7 c q_fu a1 r18 a1 M0
noncomputable def f_X3_isNight (c : Nat → Nat) (M : q_MM) (a1 : Int32) (a2 : Int32) (a3 : Int32) (a4 : Int32) : Option (Int32) :=
  q_let (a2 ^^^ a1) fun v1 =>
  if v1 = 0 then
    q_bl 0 (some 0)
  else
    q_ld M 45 256 a2 fun v3 =>
    if v3 = 0 then
      q_bl 0 (some 0)
    else
      (f_J6_bitCount_0f7a4 (qTX c) (qLX c) (qPX c) M v1).bind fun r5 =>
      if a3 < r5 then
        q_bl 0 (some 0)
      else
        q_ld M 43 256 v1 fun v7 =>
        (f_J6_bitCount_0f7a4 (qTX c) (qLX c) (qPX c) M v7).bind fun r8 =>
        if a4 < r8 then
          q_bl 0 (some 0)
        else
          q_bl 1 (some 1)
noncomputable def b_X3_plan_90 (c : Nat → Nat) (k45 : Int32 → Int32 → Int32 → Int32 → Int32 → q_MM → Option (Int32 × q_MM)) (x1 : Int32) (x2 : Int32) (x3 : Int32) (x4 : Int32) (x5 : Int32) (M : q_MM) : Option (Int32 × q_MM) :=
  q_let ((x5 + 1) ||| x4) fun v1 =>
  k45 x1 x2 x3 x4 v1 M
noncomputable def b_X3_plan_45 (c : Nat → Nat) (k21 : Int32 → Int32 → Int32 → Int32 → q_MM → Option (Int32 × q_MM)) : Nat → Int32 → Int32 → Int32 → Int32 → Int32 → q_MM → Option (Int32 × q_MM)
  | 0, _, _, _, _, _, _ => none
  | nf + 1, x1, x2, x3, x4, x5, M =>
    if x3 < x5 then
      k21 x1 x2 x3 (x4 + (-1)) M
    else
      (f_X3_isNight c M x4 x5 x1 x2).bind fun r3 =>
      if r3 = 0 then
        b_X3_plan_90 c (b_X3_plan_45 c k21 nf) x1 x2 x3 x4 x5 M
      else
        q_ld M 44 256 x4 fun v5 =>
        q_ld M 44 256 x5 fun v6 =>
        q_as M 44 256 x4 (if (v6 + 1) < v5 then (v6 + 1) else v5) fun M7 =>
        b_X3_plan_90 c (b_X3_plan_45 c k21 nf) x1 x2 x3 x4 x5 M7
noncomputable def b_X3_plan_21 (c : Nat → Nat) : Nat → Int32 → Int32 → Int32 → Int32 → q_MM → Option (Int32 × q_MM)
  | 0, _, _, _, _, _ => none
  | nf + 1, x1, x2, x3, x4, M =>
    if x4 < 0 then
      q_ld M 44 256 0 fun v9 =>
      some (v9, M)
    else
      q_as M 44 256 x4 99 fun M10 =>
      (f_X3_reachFrom c M10 x4).bind fun r11 =>
      b_X3_plan_45 c (b_X3_plan_21 c nf) q_fu x1 x2 x3 x4 x4 r11
noncomputable def f_X3_plan (c : Nat → Nat) (M0 : q_MM) (a1 : Int32) (a2 : Int32) : Option (Int32 × q_MM) :=
  (f_X3_lookAtSets c M0).bind fun r12 =>
  (f_X3_allMoves c r12).bind fun r13 =>
  q_as r12 44 256 r13 0 fun M14 =>
  q_let (r13 - 1) fun v15 =>
  b_X3_plan_21 c q_fu a1 a2 r13 v15 M14
noncomputable def b_X3_leastNight_43 (c : Nat → Nat) (M : q_MM) (k9 : Int32 → Int32 → Int32 → Int32 → Int32 → Int32 → Option (Int32)) (x1 : Int32) (x2 : Int32) (x3 : Int32) (x4 : Int32) (x5 : Int32) (x6 : Int32) : Option (Int32) :=
  q_let ((x6 + 1) ||| x1) fun v1 =>
  k9 x1 x2 x3 x4 x5 v1
noncomputable def b_X3_leastNight_9 (c : Nat → Nat) (M : q_MM) : Nat → Int32 → Int32 → Int32 → Int32 → Int32 → Int32 → Option (Int32)
  | 0, _, _, _, _, _, _ => none
  | nf + 1, x1, x2, x3, x4, x5, x6 =>
    if x5 ≤ x6 then
      some x5
    else
      (f_X3_isNight c M x1 x6 x3 x4).bind fun r3 =>
      if r3 = 0 then
        b_X3_leastNight_43 c M (b_X3_leastNight_9 c M nf) x1 x2 x3 x4 x5 x6
      else
        q_ld M 44 256 x6 fun v5 =>
        if v5 = x2 then
          some x6
        else
          b_X3_leastNight_43 c M (b_X3_leastNight_9 c M nf) x1 x2 x3 x4 x5 x6
noncomputable def f_X3_leastNight (c : Nat → Nat) (M : q_MM) (a1 : Int32) (a2 : Int32) (a3 : Int32) (a4 : Int32) : Option (Int32) :=
  (f_X3_allMoves c M).bind fun r7 =>
  b_X3_leastNight_9 c M q_fu a1 a2 a3 a4 r7 a1
noncomputable def f_X4_add (c : Nat → Nat) (M0 : q_MM) (o0 : Nat) (a1 : Int32) : Option (q_MM) :=
  q_ck ((qTX c) o0) 14 <|
  q_ck ((qTX c) ((qPX c) o0 0)) 1 <|
  if (Int32.ofNat ((qLX c) ((qPX c) o0 0))) ≤ (M0 o0 1) then
    some M0
  else
    q_as M0 ((qPX c) o0 0) ((qLX c) ((qPX c) o0 0)) (M0 o0 1) a1 fun M4 =>
    q_let (q_u2 M4 o0 1 ((M4 o0 1) + 1)) fun M5 =>
    some M5
noncomputable def b_X3_tellPlan_13 (c : Nat → Nat) : Nat → Int32 → Int32 → Nat → Int32 → Int32 → q_MM → Option (q_MM)
  | 0, _, _, _, _, _, _ => none
  | nf + 1, x1, x2, x3, x4, x5, M =>
    if x5 < 0 then
      some M
    else
      (f_X3_reachFrom c M x4).bind fun r2 =>
      (f_X3_leastNight c r2 x4 x5 x1 x2).bind fun r3 =>
      q_ck ((qTX c) x3) 14 <|
      (f_X4_add c r2 x3 (r3 ^^^ x4)).bind fun r5 =>
      b_X3_tellPlan_13 c nf x1 x2 x3 r3 (x5 + (-1)) r5
noncomputable def f_X3_tellPlan (c : Nat → Nat) (M0 : q_MM) (a1 : Int32) (a2 : Int32) (a3 : Nat) : Option (q_MM) :=
  q_ld M0 44 256 0 fun v6 =>
  q_let (v6 - 1) fun v7 =>
  b_X3_tellPlan_13 c q_fu a1 a2 a3 0 v7 M0
noncomputable def f_X4_take (c : Nat → Nat) (M0 : q_MM) (o0 : Nat) : Option (Int32 × q_MM) :=
  q_ck ((qTX c) o0) 14 <|
  if 0 < (M0 o0 1) then
    q_let (q_u2 M0 o0 1 ((M0 o0 1) - 1)) fun M3 =>
    q_ck ((qTX c) ((qPX c) o0 0)) 1 <|
    q_ld M3 ((qPX c) o0 0) ((qLX c) ((qPX c) o0 0)) (M3 o0 1) fun v5 =>
    some (v5, M3)
  else
    some (0, M0)
noncomputable def b_X4_find_2 (c : Nat → Nat) (M : q_MM) : Nat → Nat → Int32 → Int32 → Option (Int32)
  | 0, _, _, _ => none
  | nf + 1, x0, x1, x2 =>
    q_ck ((qTX c) x0) 14 <|
    if (M x0 1) ≤ x2 then
      some (-1)
    else
      q_ck ((qTX c) ((qPX c) x0 0)) 1 <|
      q_ld M ((qPX c) x0 0) ((qLX c) ((qPX c) x0 0)) x2 fun v4 =>
      if v4 = x1 then
        some x2
      else
        b_X4_find_2 c M nf x0 x1 (x2 + 1)
noncomputable def f_X4_find (c : Nat → Nat) (M : q_MM) (o0 : Nat) (a1 : Int32) : Option (Int32) :=
  b_X4_find_2 c M q_fu o0 a1 0
noncomputable def b_X4_become_6 (c : Nat → Nat) : Nat → Nat → Nat → Int32 → q_MM → Option (q_MM)
  | 0, _, _, _, _ => none
  | nf + 1, x0, x1, x2, M =>
    q_ck ((qTX c) x1) 14 <|
    if (M x1 1) ≤ x2 then
      some M
    else
      q_ck ((qTX c) ((qPX c) x1 0)) 1 <|
      q_ld M ((qPX c) x1 0) ((qLX c) ((qPX c) x1 0)) x2 fun v4 =>
      q_ck ((qTX c) x0) 14 <|
      (f_X4_add c M x0 v4).bind fun r6 =>
      b_X4_become_6 c nf x0 x1 (x2 + 1) r6
noncomputable def f_X4_become (c : Nat → Nat) (M0 : q_MM) (o0 : Nat) (a1 : Nat) : Option (q_MM) :=
  q_ck ((qTX c) o0) 14 <|
  (f_X4_clear c M0 o0).bind fun r8 =>
  b_X4_become_6 c q_fu o0 a1 0 r8
noncomputable def b_X6_arePresent_2 (c : Nat → Nat) (M : q_MM) : Nat → Nat → Int32 → Option (Int32)
  | 0, _, _ => none
  | nf + 1, x1, x2 =>
    q_ck ((qTX c) x1) 14 <|
    if (M x1 1) ≤ x2 then
      q_bl 1 (some 1)
    else
      (f_X4_get c M x1 x2).bind fun r3 =>
      (f_X2_present c M r3).bind fun r4 =>
      if r4 = 0 then
        q_bl 0 (some 0)
      else
        b_X6_arePresent_2 c M nf x1 (x2 + 1)
noncomputable def f_X6_arePresent (c : Nat → Nat) (M : q_MM) (a1 : Nat) : Option (Int32) :=
  b_X6_arePresent_2 c M q_fu a1 0
noncomputable def b_X6_choose_46 (c : Nat → Nat) (k24 : Int32 → Int32 → q_MM → Option (Int32 × q_MM)) (x1 : Int32) (x2 : Int32) (M : q_MM) : Option (Int32 × q_MM) :=
  k24 x1 (x2 + 1) M
noncomputable def b_X6_choose_24 (c : Nat → Nat) : Nat → Int32 → Int32 → q_MM → Option (Int32 × q_MM)
  | 0, _, _, _ => none
  | nf + 1, x1, x2, M =>
    if (32 : Int32) ≤ x2 then
      (f_X6_arePresent c M 33).bind fun r2 =>
      q_bl r2 (some (r2, M))
    else
      if ((Int32.toUInt32 x1 >>> (Int32.toUInt32 x2 &&& Int32.toUInt32 31)).toInt32 &&& 1) = 0 then
        b_X6_choose_46 c (b_X6_choose_24 c nf) x1 x2 M
      else
        (f_X4_add c M 33 x2).bind fun r4 =>
        b_X6_choose_46 c (b_X6_choose_24 c nf) x1 x2 r4
noncomputable def f_X6_choose (c : Nat → Nat) (M0 : q_MM) (a1 : Int32) : Option (Int32 × q_MM) :=
  if a1 = 0 then
    q_bl 0 (some (0, M0))
  else
    (f_J6_bitCount_0f7a4 (qTX c) (qLX c) (qPX c) M0 a1).bind fun r6 =>
    if r6 ≤ (7 : Int32) then
      (f_X4_clear c M0 33).bind fun r8 =>
      b_X6_choose_24 c q_fu a1 0 r8
    else
      q_bl 0 (some (0, M0))
noncomputable def f_X6_chosenAt (c : Nat → Nat) (M : q_MM) (a1 : Int32) : Option (Nat) :=
  (f_X4_get c M 33 a1).bind fun r1 =>
  (f_X2_pictureAt c M r1).bind fun r2 =>
  some r2
noncomputable def b_X6_lengthOfAll_52 (c : Nat → Nat) (M : q_MM) (k22 : Int32 → Int32 → Option (Int32)) (x2 : Int32) (s0 : Int32) (s1 : Int32) : Option (Int32) :=
  q_let (s1 + s0) fun v1 =>
  k22 v1 (x2 + 1)
noncomputable def b_X6_lengthOfAll_22 (c : Nat → Nat) (M : q_MM) : Nat → Int32 → Int32 → Option (Int32)
  | 0, _, _ => none
  | nf + 1, x1, x2 =>
    if (M 33 1) ≤ x2 then
      some x1
    else
      (f_X6_chosenAt c M x2).bind fun r3 =>
      if r3 = 0 then
        b_X6_lengthOfAll_52 c M (b_X6_lengthOfAll_22 c M nf) x2 0 x1
      else
        q_ck ((qTX c) r3) 15 <|
        b_X6_lengthOfAll_52 c M (b_X6_lengthOfAll_22 c M nf) x2 (M r3 1) x1
noncomputable def f_X6_lengthOfAll (c : Nat → Nat) (M : q_MM) : Option (Int32) :=
  q_ld M 16 4 1 fun v6 =>
  q_let (((M 33 1) - 1) * v6) fun v7 =>
  b_X6_lengthOfAll_22 c M q_fu v7 0
noncomputable def b_X6_goOn_4 (c : Nat → Nat) (M : q_MM) : Nat → Nat → Int32 → Int32 → Option (Int32)
  | 0, _, _, _ => none
  | nf + 1, x1, x2, x3 =>
    if (M 33 1) ≤ x3 then
      q_ck ((qTX c) x1) 20 <|
      if (M x1 4) < x2 then
        q_bl 0 (some 0)
      else
        (f_X6_lengthOfAll c M).bind fun r4 =>
        if (M x1 2) < r4 then
          q_bl 0 (some 0)
        else
          q_bl 1 (some 1)
    else
      (f_X6_chosenAt c M x3).bind fun r6 =>
      if r6 = 0 then
        q_bl 0 (some 0)
      else
        (f_X2_tooHigh c M r6 x1).bind fun r8 =>
        if r8 = 0 then
          q_ck ((qTX c) r6) 15 <|
          (f_X4_find c M 33 (M r6 9)).bind fun r11 =>
          if r11 = ((-1) : Int32) then
            q_let (x2 + (M r6 3)) fun v13 =>
            b_X6_goOn_4 c M nf x1 v13 (x3 + 1)
          else
            q_bl 0 (some 0)
        else
          q_bl 0 (some 0)
noncomputable def f_X6_goOn (c : Nat → Nat) (M : q_MM) (a1 : Nat) : Option (Int32) :=
  b_X6_goOn_4 c M q_fu a1 0 0
noncomputable def b_X6_compare_97 (c : Nat → Nat) (k46 : Int32 → Nat → Int32 → q_MM → Option (q_MM)) (x1 : Int32) (x2 : Nat) (x3 : Int32) (s0 : Int32) (s1 : Int32) (s2 : Nat) (M : q_MM) : Option (q_MM) :=
  q_ck ((qTX c) s2) 1 <|
  q_as M s2 ((qLX c) s2) s1 s0 fun M2 =>
  k46 x1 x2 (x3 + 1) M2
noncomputable def b_X6_compare_83 (c : Nat → Nat) (k46 : Int32 → Nat → Int32 → q_MM → Option (q_MM)) (x1 : Int32) (x2 : Nat) (x3 : Int32) (s0 : Int32) (s1 : Nat) (M : q_MM) : Option (q_MM) :=
  b_X6_compare_97 c k46 x1 x2 x3 0 s0 s1 M
noncomputable def b_X6_compare_46 (c : Nat → Nat) (k2 : Int32 → q_MM → Option (q_MM)) : Nat → Int32 → Nat → Int32 → q_MM → Option (q_MM)
  | 0, _, _, _, _ => none
  | nf + 1, x1, x2, x3, M =>
    if (M 33 1) ≤ x3 then
      k2 (x1 + 1) M
    else
      (f_X6_chosenAt c M x3).bind fun r4 =>
      if x2 = 0 then
        b_X6_compare_83 c (b_X6_compare_46 c k2 nf) x1 x2 x3 ((x1 * 7) + x3) 35 M
      else
        if r4 = 0 then
          b_X6_compare_83 c (b_X6_compare_46 c k2 nf) x1 x2 x3 ((x1 * 7) + x3) 35 M
        else
          (f_X2_likingOf c M x2 r4).bind fun r7 =>
          b_X6_compare_97 c (b_X6_compare_46 c k2 nf) x1 x2 x3 r7 ((x1 * 7) + x3) 35 M
noncomputable def b_X6_compare_43 (c : Nat → Nat) (k2 : Int32 → q_MM → Option (q_MM)) (x1 : Int32) (x2 : Nat) (s0 : Int32) (s1 : Int32) (s2 : Nat) (M : q_MM) : Option (q_MM) :=
  q_ck ((qTX c) s2) 1 <|
  q_as M s2 ((qLX c) s2) s1 s0 fun M9 =>
  b_X6_compare_46 c k2 q_fu x1 x2 0 M9
noncomputable def b_X6_compare_2 (c : Nat → Nat) : Nat → Int32 → q_MM → Option (q_MM)
  | 0, _, _ => none
  | nf + 1, x1, M =>
    if (M 33 1) ≤ x1 then
      some M
    else
      (f_X6_chosenAt c M x1).bind fun r11 =>
      if r11 = 0 then
        b_X6_compare_43 c (b_X6_compare_2 c nf) x1 r11 (-1) x1 34 M
      else
        q_ck ((qTX c) r11) 15 <|
        (f_X4_find c M 33 (M r11 8)).bind fun r14 =>
        b_X6_compare_43 c (b_X6_compare_2 c nf) x1 r11 r14 x1 34 M
noncomputable def f_X6_compare (c : Nat → Nat) (M0 : q_MM) : Option (q_MM) :=
  b_X6_compare_2 c q_fu 0 M0
noncomputable def b_X6_mayFollow_58 (c : Nat → Nat) (M : q_MM) : Option (Int32) :=
  q_bl 1 (some 1)
noncomputable def b_X6_mayFollow_37 (c : Nat → Nat) (M : q_MM) (x1 : Int32) (x3 : Int32) (x4 : Int32) (s0 : Int32) : Option (Int32) :=
  if ((x1 >>> (x3 &&& 31)) &&& 1) = 0 then
    if s0 = 0 then
      if x4 = x3 then
        b_X6_mayFollow_58 c M
      else
        q_bl 0 (some 0)
    else
      b_X6_mayFollow_58 c M
  else
    q_bl 0 (some 0)
noncomputable def b_X6_mayFollow_32 (c : Nat → Nat) (M : q_MM) (x1 : Int32) (x3 : Int32) (x4 : Int32) : Option (Int32) :=
  b_X6_mayFollow_37 c M x1 x3 x4 1
noncomputable def b_X6_mayFollow_15 (c : Nat → Nat) (M : q_MM) (x1 : Int32) (x3 : Int32) (s0 : Int32) : Option (Int32) :=
  if s0 = ((-1) : Int32) then
    b_X6_mayFollow_32 c M x1 x3 s0
  else
    if ((x1 >>> (s0 &&& 31)) &&& 1) = 0 then
      b_X6_mayFollow_37 c M x1 x3 s0 0
    else
      b_X6_mayFollow_32 c M x1 x3 s0
noncomputable def f_X6_mayFollow (c : Nat → Nat) (M : q_MM) (a1 : Int32) (a2 : Int32) (a3 : Int32) : Option (Int32) :=
  if a2 = ((-1) : Int32) then
    b_X6_mayFollow_15 c M a1 a3 (-1)
  else
    q_ld M 34 7 a2 fun v7 =>
    b_X6_mayFollow_15 c M a1 a3 v7
noncomputable def b_X6_likingBehind_10 (c : Nat → Nat) (M : q_MM) : Option (Int32) :=
  some 0
noncomputable def f_X6_likingBehind (c : Nat → Nat) (M : q_MM) (a1 : Int32) (a2 : Int32) : Option (Int32) :=
  if a1 = ((-1) : Int32) then
    b_X6_likingBehind_10 c M
  else
    if a2 = ((-1) : Int32) then
      b_X6_likingBehind_10 c M
    else
      q_ld M 35 49 ((a1 * 7) + a2) fun v3 =>
      some v3
noncomputable def f_X6_worthWith (c : Nat → Nat) (M : q_MM) (a1 : Int32) (a2 : Int32) (a3 : Int32) : Option (Int32) :=
  (f_X6_likingBehind c M a2 a3).bind fun r1 =>
  q_ld M 36 896 (((a1 ||| ((1 : Int32) <<< (a3 &&& 31))) * 7) + a3) fun v2 =>
  some (r1 + v2)
noncomputable def b_X6_bestNext_60 (c : Nat → Nat) (M : q_MM) (k8 : Int32 → Int32 → Int32 → Int32 → Int32 → Option (Int32)) (x1 : Int32) (x2 : Int32) (x3 : Int32) (x4 : Int32) (x5 : Int32) : Option (Int32) :=
  k8 x1 x2 x3 x4 (x5 + 1)
noncomputable def b_X6_bestNext_53 (c : Nat → Nat) (M : q_MM) (k8 : Int32 → Int32 → Int32 → Int32 → Int32 → Option (Int32)) (x1 : Int32) (x2 : Int32) (x5 : Int32) (x6 : Int32) : Option (Int32) :=
  b_X6_bestNext_60 c M k8 x1 x2 x5 x6 x5
noncomputable def b_X6_bestNext_8 (c : Nat → Nat) (M : q_MM) : Nat → Int32 → Int32 → Int32 → Int32 → Int32 → Option (Int32)
  | 0, _, _, _, _, _ => none
  | nf + 1, x1, x2, x3, x4, x5 =>
    if (M 33 1) ≤ x5 then
      some x3
    else
      (f_X6_mayFollow c M x1 x2 x5).bind fun r2 =>
      if r2 = 0 then
        b_X6_bestNext_60 c M (b_X6_bestNext_8 c M nf) x1 x2 x3 x4 x5
      else
        (f_X6_worthWith c M x1 x2 x5).bind fun r4 =>
        if x3 = ((-1) : Int32) then
          b_X6_bestNext_53 c M (b_X6_bestNext_8 c M nf) x1 x2 x5 r4
        else
          if r4 ≤ x4 then
            b_X6_bestNext_60 c M (b_X6_bestNext_8 c M nf) x1 x2 x3 x4 x5
          else
            b_X6_bestNext_53 c M (b_X6_bestNext_8 c M nf) x1 x2 x5 r4
noncomputable def f_X6_bestNext (c : Nat → Nat) (M : q_MM) (a1 : Int32) (a2 : Int32) : Option (Int32) :=
  b_X6_bestNext_8 c M q_fu a1 a2 (-1) 0 0
noncomputable def b_X6_weigh_79 (c : Nat → Nat) (k20 : Int32 → Int32 → q_MM → Option (q_MM)) (x2 : Int32) (x3 : Int32) (s0 : Int32) (s1 : Int32) (s2 : Nat) (M : q_MM) : Option (q_MM) :=
  q_ck ((qTX c) s2) 1 <|
  q_as M s2 ((qLX c) s2) s1 s0 fun M2 =>
  k20 x2 (x3 + 1) M2
noncomputable def b_X6_weigh_49 (c : Nat → Nat) (k20 : Int32 → Int32 → q_MM → Option (q_MM)) (x2 : Int32) (x3 : Int32) (s0 : Int32) (M : q_MM) : Option (q_MM) :=
  if s0 = ((-1) : Int32) then
    b_X6_weigh_79 c k20 x2 x3 0 ((x2 * 7) + x3) 36 M
  else
    (f_X6_worthWith c M x2 x3 s0).bind fun r4 =>
    b_X6_weigh_79 c k20 x2 x3 r4 ((x2 * 7) + x3) 36 M
noncomputable def b_X6_weigh_20 (c : Nat → Nat) (k14 : Int32 → q_MM → Option (q_MM)) : Nat → Int32 → Int32 → q_MM → Option (q_MM)
  | 0, _, _, _ => none
  | nf + 1, x2, x3, M =>
    if (M 33 1) ≤ x3 then
      k14 (x2 + (-1)) M
    else
      if ((x2 >>> (x3 &&& 31)) &&& 1) = 0 then
        b_X6_weigh_49 c (b_X6_weigh_20 c k14 nf) x2 x3 (-1) M
      else
        (f_X6_bestNext c M x2 x3).bind fun r7 =>
        b_X6_weigh_49 c (b_X6_weigh_20 c k14 nf) x2 x3 r7 M
noncomputable def b_X6_weigh_14 (c : Nat → Nat) : Nat → Int32 → q_MM → Option (q_MM)
  | 0, _, _ => none
  | nf + 1, x2, M =>
    if x2 ≤ 0 then
      some M
    else
      b_X6_weigh_20 c (b_X6_weigh_14 c nf) q_fu x2 0 M
noncomputable def f_X6_weigh (c : Nat → Nat) (M0 : q_MM) : Option (q_MM) :=
  q_let (((1 : Int32) <<< ((M0 33 1) &&& 31)) - 1) fun v9 =>
  b_X6_weigh_14 c q_fu v9 M0
noncomputable def b_X6_find_134 (c : Nat → Nat) (k53 : Int32 → Int32 → Int32 → Int32 → Int32 → q_MM → Option (Int32 × q_MM)) (x3 : Int32) (x5 : Int32) (x6 : Int32) (x7 : Int32) (s0 : Int32) (s1 : Int32) (M : q_MM) : Option (Int32 × q_MM) :=
  q_ld M 16 4 1 fun v1 =>
  q_let (s1 + (s0 + v1)) fun v2 =>
  q_let (x3 ||| ((1 : Int32) <<< (x7 &&& 31))) fun v3 =>
  k53 v2 v3 x7 x5 (x6 + 1) M
noncomputable def b_X6_find_53 (c : Nat → Nat) : Nat → Int32 → Int32 → Int32 → Int32 → Int32 → q_MM → Option (Int32 × q_MM)
  | 0, _, _, _, _, _, _ => none
  | nf + 1, x2, x3, x4, x5, x6, M =>
    if (M 33 1) ≤ x6 then
      some (x5, M)
    else
      (f_X6_bestNext c M x3 x4).bind fun r5 =>
      (f_X6_likingBehind c M x4 r5).bind fun r6 =>
      q_let (x5 + r6) fun v7 =>
      (f_X6_chosenAt c M r5).bind fun r8 =>
      (f_X4_get c M 33 r5).bind fun r9 =>
      (f_X4_add c M 37 r9).bind fun r10 =>
      (f_X4_add c r10 38 x2).bind fun r11 =>
      if r8 = 0 then
        b_X6_find_134 c (b_X6_find_53 c nf) x3 v7 x6 r5 0 x2 r11
      else
        q_ck ((qTX c) r8) 15 <|
        b_X6_find_134 c (b_X6_find_53 c nf) x3 v7 x6 r5 (r11 r8 1) x2 r11
noncomputable def f_X6_find (c : Nat → Nat) (M0 : q_MM) (a1 : Nat) : Option (Int32 × q_MM) :=
  (f_X6_compare c M0).bind fun r14 =>
  (f_X6_weigh c r14).bind fun r15 =>
  q_ck ((qTX c) a1) 20 <|
  q_let (q_u2 r15 4 7 (r15 a1 0)) fun M17 =>
  (f_X4_clear c M17 37).bind fun r18 =>
  (f_X4_clear c r18 38).bind fun r19 =>
  (f_X6_lengthOfAll c r19).bind fun r20 =>
  if (2 : Int32) = 0 then none else
  q_let (((r19 a1 2) - r20) / 2) fun v21 =>
  b_X6_find_53 c q_fu v21 0 (-1) 0 0 r19
noncomputable def b_X6_putUp_37 (c : Nat → Nat) (k2 : Int32 → q_MM → Option (q_MM)) (x1 : Int32) (M : q_MM) : Option (q_MM) :=
  k2 (x1 + 1) M
noncomputable def b_X6_putUp_45 (c : Nat → Nat) : Nat → Int32 → q_MM → Option (q_MM)
  | 0, _, _ => none
  | nf + 1, x1, M =>
    if (M 37 1) ≤ x1 then
      (f_X4_clear c M 37).bind fun r2 =>
      some r2
    else
      (f_X4_get c M 37 x1).bind fun r3 =>
      (f_X4_get c M 38 x1).bind fun r4 =>
      (f_X1_put c M 21 r3 (M 4 7) r4).bind fun r5 =>
      b_X6_putUp_45 c nf (x1 + 1) r5
noncomputable def b_X6_putUp_2 (c : Nat → Nat) : Nat → Int32 → q_MM → Option (q_MM)
  | 0, _, _ => none
  | nf + 1, x1, M =>
    if (24 : Int32) ≤ x1 then
      b_X6_putUp_45 c q_fu 0 M
    else
      (f_X1_wallUnder c M 21 x1).bind fun r7 =>
      if r7 = (M 4 7) then
        (f_X1_take c M 21 x1).bind fun r9 =>
        b_X6_putUp_37 c (b_X6_putUp_2 c nf) x1 r9
      else
        b_X6_putUp_37 c (b_X6_putUp_2 c nf) x1 M
noncomputable def f_X6_putUp (c : Nat → Nat) (M0 : q_MM) : Option (q_MM) :=
  b_X6_putUp_2 c q_fu 0 M0
noncomputable def f_X8_isDigit (c : Nat → Nat) (M : q_MM) (a1 : Int32) : Option (Int32) :=
  if a1 < (48 : Int32) then
    q_bl 0 (some 0)
  else
    if (57 : Int32) < a1 then
      q_bl 0 (some 0)
    else
      q_bl 1 (some 1)
noncomputable def b_X8_beginsThing_63 (c : Nat → Nat) (s0 : Int32) (s1 : Nat) (M : q_MM) : Option (Int32 × q_MM) :=
  q_ck ((qTX c) s1) 14 <|
  (f_X4_add c M s1 s0).bind fun r2 =>
  q_bl 1 (some (1, r2))
noncomputable def b_X8_beginsThing_47 (c : Nat → Nat) (x1 : Int32) (M : q_MM) : Option (Int32 × q_MM) :=
  if x1 = (45 : Int32) then
    b_X8_beginsThing_63 c 126 32 M
  else
    b_X8_beginsThing_63 c x1 32 M
noncomputable def f_X8_beginsThing (c : Nat → Nat) (M0 : q_MM) (a1 : Int32) : Option (Int32 × q_MM) :=
  (f_J0_indexOf_0f7a4 (qTX c) (qLX c) (qPX c) M0 900 (Int32.toUInt32 a1 % 65536).toInt32).bind fun r4 =>
  if a1 = (40 : Int32) then
    q_let (q_u2 M0 28 4 ((M0 28 4) + 1)) fun M6 =>
    (f_X4_add c M6 32 a1).bind fun r7 =>
    q_bl 1 (some (1, r7))
  else
    if a1 = (33 : Int32) then
      b_X8_beginsThing_47 c a1 M0
    else
      if a1 = (45 : Int32) then
        b_X8_beginsThing_47 c a1 M0
      else
        (f_X8_isDigit c M0 a1).bind fun r10 =>
        if r10 = 0 then
          if r4 < 0 then
            q_bl 0 (some (0, M0))
          else
            (f_X4_add c M0 31 ((10000 : Int32) + r4)).bind fun r13 =>
            q_bl 0 <|
            q_let (q_u2 r13 28 2 0) fun M14 =>
            q_bl 1 (some (1, M14))
        else
          q_let (q_u2 M0 28 3 1) fun M15 =>
          (f_X4_add c M15 31 (a1 - 48)).bind fun r16 =>
          q_bl 0 <|
          q_let (q_u2 r16 28 2 0) fun M17 =>
          q_bl 1 (some (1, M17))
noncomputable def f_X8_takesDigit (c : Nat → Nat) (M0 : q_MM) (a1 : Int32) : Option (Int32 × q_MM) :=
  if (M0 28 3) < (1 : Int32) then
    q_bl 0 (some (0, M0))
  else
    if (M0 28 3) ≤ (3 : Int32) then
      (f_X4_take c M0 31).bind fun r3 =>
      (f_X4_add c r3.2 31 (((r3.1 * 10) + a1) - 48)).bind fun r4 =>
      q_let (q_u2 r4 28 3 ((r4 28 3) + 1)) fun M5 =>
      q_bl 1 (some (1, M5))
    else
      q_bl 0 (some (0, M0))
noncomputable def f_X8_levelOf (c : Nat → Nat) (M : q_MM) (a1 : Int32) : Option (Int32) :=
  if a1 = (33 : Int32) then
    some 6
  else
    if a1 = (37 : Int32) then
      some 5
    else
      if a1 = (38 : Int32) then
        some 2
      else
        if a1 = (42 : Int32) then
          some 5
        else
          if a1 = (43 : Int32) then
            some 4
          else
            if a1 = (45 : Int32) then
              some 4
            else
              if a1 = (47 : Int32) then
                some 5
              else
                if a1 = (60 : Int32) then
                  some 3
                else
                  if a1 = (61 : Int32) then
                    some 3
                  else
                    if a1 = (62 : Int32) then
                      some 3
                    else
                      if a1 = (124 : Int32) then
                        some 1
                      else
                        if a1 = (126 : Int32) then
                          some 6
                        else
                          some 0
noncomputable def b_X8_unload_10 (c : Nat → Nat) : Nat → Int32 → Int32 → q_MM → Option (q_MM)
  | 0, _, _, _ => none
  | nf + 1, x1, x2, M =>
    if x2 < 0 then
      some M
    else
      (f_X4_get c M 32 x2).bind fun r2 =>
      (f_X8_levelOf c M r2).bind fun r3 =>
      if r3 < x1 then
        some M
      else
        (f_X4_take c M 32).bind fun r5 =>
        (f_X4_add c r5.2 31 (-r5.1)).bind fun r6 =>
        b_X8_unload_10 c nf x1 (x2 + (-1)) r6
noncomputable def f_X8_unload (c : Nat → Nat) (M0 : q_MM) (a1 : Int32) : Option (q_MM) :=
  q_let ((M0 32 1) - 1) fun v7 =>
  b_X8_unload_10 c q_fu a1 v7 M0
noncomputable def f_X8_closes (c : Nat → Nat) (M0 : q_MM) : Option (Int32 × q_MM) :=
  if 0 < (M0 28 4) then
    (f_X8_unload c M0 1).bind fun r2 =>
    (f_X4_take c r2 32).bind fun r3 =>
    q_let (q_u2 r3.2 28 4 ((r3.2 28 4) - 1)) fun M4 =>
    q_bl 1 (some (1, M4))
  else
    q_bl 0 (some (0, M0))
noncomputable def f_X8_endExpression (c : Nat → Nat) (M0 : q_MM) : Option (q_MM) :=
  (f_X8_unload c M0 1).bind fun r1 =>
  (f_X4_add c r1 31 (-59)).bind fun r2 =>
  some r2
noncomputable def b_X8_takesOperator_54 (c : Nat → Nat) (x1 : Int32) (x2 : Int32) (M : q_MM) : Option (Int32 × q_MM) :=
  (f_X8_unload c M x2).bind fun r1 =>
  (f_X4_add c r1 32 x1).bind fun r2 =>
  q_bl 1 <|
  q_let (q_u2 r2 28 2 1) fun M3 =>
  q_bl 1 (some (1, M3))
noncomputable def f_X8_takesOperator (c : Nat → Nat) (M0 : q_MM) (a1 : Int32) : Option (Int32 × q_MM) :=
  (f_X8_levelOf c M0 a1).bind fun r4 =>
  if r4 < (1 : Int32) then
    q_bl 0 (some (0, M0))
  else
    if r4 ≤ (5 : Int32) then
      (f_X8_unload c M0 (r4 + 1)).bind fun r7 =>
      if r4 = (3 : Int32) then
        (f_X4_get c r7 32 ((r7 32 1) - 1)).bind fun r9 =>
        (f_X8_levelOf c r7 r9).bind fun r10 =>
        if r10 = (3 : Int32) then
          q_bl 0 (some (0, r7))
        else
          b_X8_takesOperator_54 c a1 r4 r7
      else
        b_X8_takesOperator_54 c a1 r4 r7
    else
      q_bl 0 (some (0, M0))
noncomputable def b_X8_takes_61 (c : Nat → Nat) (s0 : Int32) (M : q_MM) : Option (Int32 × q_MM) :=
  q_bl s0 <|
  q_let (q_u2 M 28 2 s0) fun M1 =>
  (f_X8_endExpression c M1).bind fun r2 =>
  if (r2 28 4) = 0 then
    q_bl 1 (some (1, r2))
  else
    q_bl 0 (some (0, r2))
noncomputable def f_X8_takes (c : Nat → Nat) (M0 : q_MM) (a1 : Int32) : Option (Int32 × q_MM) :=
  if (M0 28 2) = 0 then
    (f_X8_isDigit c M0 a1).bind fun r5 =>
    if r5 = 0 then
      q_let (q_u2 M0 28 3 0) fun M7 =>
      if a1 = (41 : Int32) then
        (f_X8_closes c M7).bind fun r9 =>
        q_bl r9.1 (some (r9.1, r9.2))
      else
        if a1 = (59 : Int32) then
          if (M7 28 4) = 0 then
            b_X8_takes_61 c 1 M7
          else
            b_X8_takes_61 c 0 M7
        else
          (f_X8_takesOperator c M7 a1).bind fun r12 =>
          q_bl r12.1 (some (r12.1, r12.2))
    else
      (f_X8_takesDigit c M0 a1).bind fun r13 =>
      q_bl r13.1 (some (r13.1, r13.2))
  else
    (f_X8_beginsThing c M0 a1).bind fun r14 =>
    q_bl r14.1 (some (r14.1, r14.2))
noncomputable def b_X8_firstWrong_57 (c : Nat → Nat) (x2 : Int32) (M : q_MM) : Option (Int32 × q_MM) :=
  some (x2, M)
noncomputable def b_X8_firstWrong_79 (c : Nat → Nat) (x1 : Nat) (M : q_MM) : Option (Int32 × q_MM) :=
  q_ck ((qTX c) x1) 14 <|
  some ((M x1 1), M)
noncomputable def b_X8_firstWrong_31 (c : Nat → Nat) : Nat → Nat → Int32 → q_MM → Option (Int32 × q_MM)
  | 0, _, _, _ => none
  | nf + 1, x1, x2, M =>
    q_ck ((qTX c) x1) 14 <|
    if (M x1 1) ≤ x2 then
      if (M 28 2) = 0 then
        if (M 28 4) ≤ 0 then
          (f_X8_endExpression c M).bind fun r6 =>
          some ((-1), r6)
        else
          b_X8_firstWrong_79 c x1 M
      else
        b_X8_firstWrong_79 c x1 M
    else
      if (60 : Int32) ≤ x2 then
        b_X8_firstWrong_57 c x2 M
      else
        (f_X4_get c M x1 x2).bind fun r8 =>
        (f_X8_takes c M r8).bind fun r9 =>
        if r9.1 = 0 then
          b_X8_firstWrong_57 c x2 r9.2
        else
          b_X8_firstWrong_31 c nf x1 (x2 + 1) r9.2
noncomputable def f_X8_firstWrong (c : Nat → Nat) (M0 : q_MM) (a1 : Nat) : Option (Int32 × q_MM) :=
  (f_X4_clear c M0 31).bind fun r11 =>
  (f_X4_clear c r11 32).bind fun r12 =>
  q_bl 1 <|
  q_let (q_u2 r12 28 2 1) fun M13 =>
  q_let (q_u2 M13 28 3 0) fun M14 =>
  q_let (q_u2 M14 28 4 0) fun M15 =>
  b_X8_firstWrong_31 c q_fu a1 0 M15
noncomputable def b_X9_inForce_75 (c : Nat → Nat) (M : q_MM) (k7 : Int32 → Int32 → Int32 → Int32 → Option (Int32)) (x1 : Int32) (x2 : Int32) (x3 : Int32) (x4 : Int32) : Option (Int32) :=
  k7 x1 x2 x3 (x4 + 1)
noncomputable def b_X9_inForce_7 (c : Nat → Nat) (M : q_MM) : Nat → Int32 → Int32 → Int32 → Int32 → Option (Int32)
  | 0, _, _, _, _ => none
  | nf + 1, x1, x2, x3, x4 =>
    (f_Jx4a65c_size_8abf5 (qTX c) (qLX c) (qPX c) M 27).bind fun r1 =>
    if r1 ≤ x4 then
      some x2
    else
      (f_Jx4a65c_get_915e3 (qTX c) (qLX c) (qPX c) M 27 x4).bind fun r3 =>
      q_ck ((qTX c) r3) 17 <|
      if (M r3 0) = x1 then
        if (M 2 12) < (M r3 1) then
          b_X9_inForce_75 c M (b_X9_inForce_7 c M nf) x1 x2 x3 x4
        else
          if (M r3 1) < x3 then
            b_X9_inForce_75 c M (b_X9_inForce_7 c M nf) x1 x2 x3 x4
          else
            q_let (M r3 1) fun v8 =>
            b_X9_inForce_75 c M (b_X9_inForce_7 c M nf) x1 x4 v8 x4
      else
        b_X9_inForce_75 c M (b_X9_inForce_7 c M nf) x1 x2 x3 x4
noncomputable def f_X9_inForce (c : Nat → Nat) (M : q_MM) (a1 : Int32) : Option (Int32) :=
  b_X9_inForce_7 c M q_fu a1 (-1) (-1) 0
noncomputable def b_X9_readLetters_217 (c : Nat → Nat) (x1 : Nat) (x2 : Nat) (x3 : Nat) (s0 : Int32) (s1 : Int32) (s2 : Nat) (M : q_MM) : Option (q_MM) :=
  q_ck ((qTX c) s2) 1 <|
  q_as M s2 ((qLX c) s2) s1 s0 fun M2 =>
  q_ck ((qTX c) x3) 20 <|
  (f_X2_othersIn c M2 x1 x2 (M2 x3 1)).bind fun r4 =>
  q_as M2 29 12 7 r4 fun M5 =>
  q_ck ((qTX c) x2) 15 <|
  q_as M5 29 12 8 ((M5 x2 10) - (M5 x2 13)) fun M7 =>
  q_as M7 29 12 9 (M7 2 12) fun M8 =>
  q_as M8 29 12 10 (M8 x2 5) fun M9 =>
  q_ld M9 18 10 (M9 x3 1) fun v10 =>
  q_as M9 29 12 11 v10 fun M11 =>
  some M11
noncomputable def b_X9_readLetters_216 (c : Nat → Nat) (x1 : Nat) (x2 : Nat) (x3 : Nat) (s0 : Int32) (s1 : Nat) (M : q_MM) : Option (q_MM) :=
  b_X9_readLetters_217 c x1 x2 x3 0 s0 s1 M
noncomputable def b_X9_readLetters_212 (c : Nat → Nat) (x1 : Nat) (x2 : Nat) (x3 : Nat) (s0 : Int32) (s1 : Nat) (M : q_MM) : Option (q_MM) :=
  b_X9_readLetters_217 c x1 x2 x3 1 s0 s1 M
noncomputable def b_X9_readLetters_195 (c : Nat → Nat) (x1 : Nat) (x2 : Nat) (x3 : Nat) (x6 : Nat) (s0 : Int32) (s1 : Nat) (M : q_MM) : Option (q_MM) :=
  if x6 = 0 then
    b_X9_readLetters_216 c x1 x2 x3 s0 s1 M
  else
    q_ck ((qTX c) x6) 15 <|
    q_ck ((qTX c) x2) 15 <|
    if (M x6 0) = (M x2 8) then
      b_X9_readLetters_212 c x1 x2 x3 s0 s1 M
    else
      b_X9_readLetters_216 c x1 x2 x3 s0 s1 M
noncomputable def b_X9_readLetters_170 (c : Nat → Nat) (x1 : Nat) (x2 : Nat) (x3 : Nat) (x5 : Nat) (x6 : Nat) (s0 : Int32) (s1 : Int32) (s2 : Int32) (s3 : Nat) (M : q_MM) : Option (q_MM) :=
  q_ck ((qTX c) s3) 1 <|
  q_as M s3 ((qLX c) s3) s2 (s1 + s0) fun M17 =>
  if x5 = 0 then
    b_X9_readLetters_195 c x1 x2 x3 x6 6 29 M17
  else
    q_ck ((qTX c) x5) 15 <|
    q_ck ((qTX c) x2) 15 <|
    if (M17 x5 0) = (M17 x2 8) then
      b_X9_readLetters_212 c x1 x2 x3 6 29 M17
    else
      b_X9_readLetters_195 c x1 x2 x3 x6 6 29 M17
noncomputable def b_X9_readLetters_169 (c : Nat → Nat) (x1 : Nat) (x2 : Nat) (x3 : Nat) (x5 : Nat) (x6 : Nat) (s0 : Int32) (s1 : Int32) (s2 : Nat) (M : q_MM) : Option (q_MM) :=
  b_X9_readLetters_170 c x1 x2 x3 x5 x6 0 s0 s1 s2 M
noncomputable def b_X9_readLetters_148 (c : Nat → Nat) (x1 : Nat) (x2 : Nat) (x3 : Nat) (x5 : Nat) (x6 : Nat) (s0 : Int32) (s1 : Int32) (s2 : Nat) (M : q_MM) : Option (q_MM) :=
  if x6 = 0 then
    b_X9_readLetters_169 c x1 x2 x3 x5 x6 s0 s1 s2 M
  else
    q_ck ((qTX c) x6) 15 <|
    q_ck ((qTX c) x2) 15 <|
    if (M x6 4) = (M x2 4) then
      b_X9_readLetters_170 c x1 x2 x3 x5 x6 1 s0 s1 s2 M
    else
      b_X9_readLetters_169 c x1 x2 x3 x5 x6 s0 s1 s2 M
noncomputable def b_X9_readLetters_147 (c : Nat → Nat) (x1 : Nat) (x2 : Nat) (x3 : Nat) (x5 : Nat) (x6 : Nat) (s0 : Int32) (s1 : Nat) (M : q_MM) : Option (q_MM) :=
  b_X9_readLetters_148 c x1 x2 x3 x5 x6 0 s0 s1 M
noncomputable def b_X9_readLetters_119 (c : Nat → Nat) (x1 : Nat) (x2 : Nat) (x3 : Nat) (x5 : Nat) (x6 : Nat) (s0 : Int32) (s1 : Int32) (s2 : Int32) (s3 : Nat) (M : q_MM) : Option (q_MM) :=
  q_ck ((qTX c) s3) 1 <|
  q_as M s3 ((qLX c) s3) s2 (s1 + s0) fun M27 =>
  if x5 = 0 then
    b_X9_readLetters_147 c x1 x2 x3 x5 x6 5 29 M27
  else
    q_ck ((qTX c) x5) 15 <|
    q_ck ((qTX c) x2) 15 <|
    if (M27 x5 4) = (M27 x2 4) then
      b_X9_readLetters_148 c x1 x2 x3 x5 x6 1 5 29 M27
    else
      b_X9_readLetters_147 c x1 x2 x3 x5 x6 5 29 M27
noncomputable def b_X9_readLetters_109 (c : Nat → Nat) (x1 : Nat) (x2 : Nat) (x3 : Nat) (x5 : Nat) (x6 : Nat) (s0 : Int32) (s1 : Int32) (s2 : Nat) (M : q_MM) : Option (q_MM) :=
  if x6 = 0 then
    b_X9_readLetters_119 c x1 x2 x3 x5 x6 0 s0 s1 s2 M
  else
    b_X9_readLetters_119 c x1 x2 x3 x5 x6 1 s0 s1 s2 M
noncomputable def f_X9_readLetters (c : Nat → Nat) (M0 : q_MM) (a1 : Nat) (a2 : Nat) (a3 : Nat) (a4 : Int32) : Option (q_MM) :=
  q_ck ((qTX c) a2) 15 <|
  q_ck ((qTX c) a3) 20 <|
  q_ck ((qTX c) a1) 11 <|
  (f_X1_leftOf c M0 a1 (M0 a2 0) (M0 a3 0) a4).bind fun r36 =>
  (f_X2_pictureAt c M0 r36).bind fun r37 =>
  (f_X1_rightOf c M0 a1 (M0 a2 0) (M0 a3 0) a4).bind fun r38 =>
  (f_X2_pictureAt c M0 r38).bind fun r39 =>
  q_as M0 29 12 0 (M0 a3 1) fun M40 =>
  q_as M40 29 12 1 (M40 a3 0) fun M41 =>
  (f_X2_peak c M41 a3).bind fun r42 =>
  q_as M41 29 12 2 r42 fun M43 =>
  (f_X2_daylight c M43 a3).bind fun r44 =>
  q_as M43 29 12 3 r44 fun M45 =>
  if r37 = 0 then
    b_X9_readLetters_109 c a1 a2 a3 r37 r39 0 4 29 M45
  else
    b_X9_readLetters_109 c a1 a2 a3 r37 r39 1 4 29 M45
noncomputable def b_X9_joined_92 (c : Nat → Nat) (M : q_MM) : Option (Int32) :=
  some 1
noncomputable def f_X9_joined (c : Nat → Nat) (M : q_MM) (a1 : Int32) (a2 : Int32) (a3 : Int32) : Option (Int32) :=
  if a1 = (38 : Int32) then
    if a2 = 0 then
      some 0
    else
      if a3 = 0 then
        some 0
      else
        some 1
  else
    if a1 = (42 : Int32) then
      some (a2 * a3)
    else
      if a1 = (43 : Int32) then
        some (a2 + a3)
      else
        if a1 = (45 : Int32) then
          some (a2 - a3)
        else
          if a1 = (47 : Int32) then
            if a3 = 0 then
              some 0
            else
              if (a3 : Int32) = 0 then none else
              some (a2 / a3)
          else
            if a1 = (60 : Int32) then
              if a3 ≤ a2 then
                some 0
              else
                some 1
            else
              if a1 = (61 : Int32) then
                if a2 = a3 then
                  some 1
                else
                  some 0
              else
                if a1 = (62 : Int32) then
                  if a2 ≤ a3 then
                    some 0
                  else
                    some 1
                else
                  if a1 = (124 : Int32) then
                    if a2 = 0 then
                      if a3 = 0 then
                        some 0
                      else
                        b_X9_joined_92 c M
                    else
                      b_X9_joined_92 c M
                  else
                    if a3 = 0 then
                      some 0
                    else
                      if (a3 : Int32) = 0 then none else
                      some (a2 - a2 / a3 * a3)
noncomputable def b_X9_work_38 (c : Nat → Nat) (s0 : Int32) (s1 : Nat) (M : q_MM) : Option (q_MM) :=
  q_ck ((qTX c) s1) 14 <|
  (f_X4_add c M s1 s0).bind fun r2 =>
  some r2
noncomputable def b_X9_work_84 (c : Nat → Nat) (s0 : Int32) (s1 : Nat) (M : q_MM) : Option (q_MM) :=
  q_ck ((qTX c) s1) 14 <|
  (f_X4_add c M s1 s0).bind fun r4 =>
  some r4
noncomputable def f_X9_work (c : Nat → Nat) (M0 : q_MM) (a1 : Int32) : Option (q_MM) :=
  if a1 < (10000 : Int32) then
    if a1 < 0 then
      if a1 = ((-33) : Int32) then
        (f_X4_take c M0 30).bind fun r8 =>
        if r8.1 = 0 then
          b_X9_work_84 c 1 30 r8.2
        else
          b_X9_work_84 c 0 30 r8.2
      else
        if a1 = ((-126) : Int32) then
          (f_X4_take c M0 30).bind fun r11 =>
          (f_X4_add c r11.2 30 (-r11.1)).bind fun r12 =>
          some r12
        else
          (f_X4_take c M0 30).bind fun r13 =>
          q_let r13.1 fun v14 =>
          (f_X4_take c r13.2 30).bind fun r15 =>
          (f_X9_joined c r15.2 (-a1) r15.1 v14).bind fun r16 =>
          (f_X4_add c r15.2 30 r16).bind fun r17 =>
          some r17
    else
      (f_X4_add c M0 30 a1).bind fun r18 =>
      some r18
  else
    if (12 : Int32) ≤ (a1 - 10000) then
      b_X9_work_38 c 0 30 M0
    else
      q_ld M0 29 12 (a1 - 10000) fun v20 =>
      b_X9_work_38 c v20 30 M0
noncomputable def b_X9_firstBroken_115 (c : Nat → Nat) (k69 : Nat → Int32 → Int32 → q_MM → Option (Int32 × q_MM)) (x6 : Nat) (x7 : Int32) (x8 : Int32) (M : q_MM) : Option (Int32 × q_MM) :=
  k69 x6 x7 (x8 + 1) M
noncomputable def b_X9_firstBroken_69 (c : Nat → Nat) : Nat → Nat → Int32 → Int32 → q_MM → Option (Int32 × q_MM)
  | 0, _, _, _, _ => none
  | nf + 1, x6, x7, x8, M =>
    q_ck ((qTX c) x6) 1 <|
    if (Int32.ofNat ((qLX c) x6)) ≤ x8 then
      some ((-2), M)
    else
      q_ld M x6 ((qLX c) x6) x8 fun v3 =>
      if v3 = ((-59) : Int32) then
        (f_X4_take c M 30).bind fun r5 =>
        if r5.1 = 0 then
          some (x7, r5.2)
        else
          b_X9_firstBroken_115 c (b_X9_firstBroken_69 c nf) x6 (x7 + 1) x8 r5.2
      else
        q_ld M x6 ((qLX c) x6) x8 fun v7 =>
        (f_X9_work c M v7).bind fun r8 =>
        b_X9_firstBroken_115 c (b_X9_firstBroken_69 c nf) x6 x7 x8 r8
noncomputable def f_X9_firstBroken (c : Nat → Nat) (M0 : q_MM) (a1 : Nat) (a2 : Nat) (a3 : Nat) (a4 : Int32) : Option (Int32 × q_MM) :=
  q_ck ((qTX c) a2) 15 <|
  (f_X9_inForce c M0 (M0 a2 0)).bind fun r10 =>
  if r10 < 0 then
    some ((-2), M0)
  else
    (f_Jx4a65c_size_8abf5 (qTX c) (qLX c) (qPX c) M0 27).bind fun r12 =>
    if r10 < r12 then
      (f_X9_readLetters c M0 a1 a2 a3 a4).bind fun r14 =>
      (f_Jx4a65c_get_915e3 (qTX c) (qLX c) (qPX c) r14 27 r10).bind fun r15 =>
      q_ck ((qTX c) r15) 17 <|
      (f_X4_clear c r14 30).bind fun r17 =>
      b_X9_firstBroken_69 c q_fu ((qPX c) r15 2) 0 0 r17
    else
      some ((-2), M0)
noncomputable def f_X9_unfit (c : Nat → Nat) (M0 : q_MM) (a1 : Nat) (a2 : Nat) (a3 : Nat) (a4 : Int32) : Option (Int32 × q_MM) :=
  (f_X2_hindrance c M0 a1 a2 a3 a4).bind fun r1 =>
  if r1 = 0 then
    q_ck ((qTX c) a3) 20 <|
    (f_X2_meetsFoe c M0 a1 a2 (M0 a3 1)).bind fun r4 =>
    if r4 = 0 then
      (f_X9_firstBroken c M0 a1 a2 a3 a4).bind fun r6 =>
      if r6.1 = ((-2) : Int32) then
        some (0, r6.2)
      else
        some (6, r6.2)
    else
      some (5, M0)
  else
    some (r1, M0)
noncomputable def b_X10_brightness_20 (c : Nat → Nat) (M : q_MM) (s0 : Int32) : Option (Int32) :=
  some (if 0 < (if s0 < 9999 then s0 else 9999) then (if s0 < 9999 then s0 else 9999) else 0)
noncomputable def f_X10_brightness (c : Nat → Nat) (M : q_MM) (a1 : Int32) (a2 : Int32) : Option (Int32) :=
  if a1 = 0 then
    b_X10_brightness_20 c M (Int32.toInt8 a2).toInt32
  else
    if a1 = (1 : Int32) then
      b_X10_brightness_20 c M (Int32.toInt16 a2).toInt32
    else
      b_X10_brightness_20 c M a2
noncomputable def b_X10_readSheet_35 (c : Nat → Nat) (k6 : Nat → Int32 → Int32 → Int32 → Int32 → Int32 → q_MM → Option (q_MM)) (x0 : Nat) (x1 : Int32) (x2 : Int32) (x4 : Int32) (x5 : Int32) (x6 : Int32) (s0 : Int32) (s1 : Int32) (s2 : Nat) (M : q_MM) : Option (q_MM) :=
  q_ck ((qTX c) s2) 1 <|
  q_as M s2 ((qLX c) s2) s1 s0 fun M2 =>
  q_let (x5 + x4) fun v3 =>
  k6 x0 x1 x2 x4 v3 (x6 + 1) M2
noncomputable def b_X10_readSheet_6 (c : Nat → Nat) : Nat → Nat → Int32 → Int32 → Int32 → Int32 → Int32 → q_MM → Option (q_MM)
  | 0, _, _, _, _, _, _, _ => none
  | nf + 1, x0, x1, x2, x4, x5, x6, M =>
    if (24 : Int32) ≤ x6 then
      some M
    else
      q_ck ((qTX c) x0) 20 <|
      if x2 ≤ x6 then
        b_X10_readSheet_35 c (b_X10_readSheet_6 c nf) x0 x1 x2 x4 x5 x6 0 x6 ((qPX c) x0 5) M
      else
        (f_X10_brightness c M x1 x5).bind fun r7 =>
        b_X10_readSheet_35 c (b_X10_readSheet_6 c nf) x0 x1 x2 x4 x5 x6 r7 x6 ((qPX c) x0 5) M
noncomputable def f_X10_readSheet (c : Nat → Nat) (M0 : q_MM) (o0 : Nat) (a1 : Int32) (a2 : Int32) (a3 : Int32) (a4 : Int32) : Option (q_MM) :=
  b_X10_readSheet_6 c q_fu o0 a1 a2 a4 a3 0 M0
noncomputable def f_X11_room (c : Nat → Nat) (M0 : q_MM) : Option (Int32 × q_MM) :=
  if (M0 2 10) < (10 : Int32) then
    q_let (q_u2 M0 2 10 ((M0 2 10) + 1)) fun M2 =>
    (f_X2_measure c M2 18 0 0 (-1)).bind fun r3 =>
    some (((r3 2 10) - 1), r3)
  else
    some ((-1), M0)
noncomputable def f_X11_within (c : Nat → Nat) (M : q_MM) (a1 : Int32) (a2 : Int32) (a3 : Int32) : Option (Int32) :=
  if a1 < a2 then
    q_bl 0 (some 0)
  else
    if a3 < a1 then
      q_bl 0 (some 0)
    else
      q_bl 1 (some 1)
noncomputable def f_X11_light (c : Nat → Nat) (M0 : q_MM) (a1 : Int32) (a2 : Int32) (a3 : Int32) (a4 : Int32) (a5 : Int32) : Option (Int32 × q_MM) :=
  (f_X2_wallAt c M0 a1).bind fun r1 =>
  if r1 = 0 then
    some ((-1), M0)
  else
    (f_X11_within c M0 a2 0 3).bind fun r3 =>
    if r3 = 0 then
      some ((-1), M0)
    else
      if a3 ≤ (24 : Int32) then
        if a2 = (3 : Int32) then
          q_ck ((qTX c) r1) 20 <|
          (f_J7_fill_53178 (qTX c) (qLX c) (qPX c) M0 ((qPX c) r1 5) 0).bind fun r8 =>
          some ((-3), r8)
        else
          if 0 ≤ a3 then
            q_ck ((qTX c) r1) 20 <|
            (f_X10_readSheet c M0 r1 a2 a3 a4 a5).bind fun r11 =>
            (f_X2_daylight c r11 r1).bind fun r12 =>
            some (r12, r11)
          else
            some ((-2), M0)
      else
        some ((-1), M0)
noncomputable def f_X11_blind (c : Nat → Nat) (M0 : q_MM) (a1 : Int32) (a2 : Int32) (a3 : Int32) : Option (Int32 × q_MM) :=
  (f_X2_wallAt c M0 a1).bind fun r1 =>
  if r1 = 0 then
    q_bl 0 (some (0, M0))
  else
    (f_X11_within c M0 a2 0 23).bind fun r3 =>
    if r3 = 0 then
      q_bl 0 (some (0, M0))
    else
      (f_X11_within c M0 a3 0 23).bind fun r5 =>
      if r5 = 0 then
        q_bl 0 (some (0, M0))
      else
        q_ck ((qTX c) r1) 20 <|
        q_let (q_u2 M0 r1 6 a2) fun M8 =>
        q_let (q_u2 M8 r1 7 a3) fun M9 =>
        q_bl 1 (some (1, M9))
noncomputable def f_X11_mayBecome (c : Nat → Nat) (M : q_MM) (a1 : Int32) (a2 : Int32) : Option (Int32) :=
  if a1 = (0 : Int32) then
    (f_X11_within c M a2 100 200).bind fun r2 =>
    q_bl r2 (some r2)
  else
    if a1 = (1 : Int32) then
      (f_X11_within c M a2 0 99).bind fun r4 =>
      q_bl r4 (some r4)
    else
      if a1 = (2 : Int32) then
        q_ld M 16 4 3 fun v6 =>
        (f_X11_within c M a2 0 v6).bind fun r7 =>
        q_bl r7 (some r7)
      else
        q_ld M 16 4 2 fun v8 =>
        (f_X11_within c M a2 v8 23).bind fun r9 =>
        q_bl r9 (some r9)
noncomputable def f_X11_set (c : Nat → Nat) (M0 : q_MM) (a1 : Int32) (a2 : Int32) : Option (Int32 × q_MM) :=
  (f_X11_within c M0 a1 0 3).bind fun r1 =>
  if r1 = 0 then
    some ((-1), M0)
  else
    (f_X11_mayBecome c M0 a1 a2).bind fun r3 =>
    if r3 = 0 then
      some ((-1), M0)
    else
      q_ld M0 16 4 a1 fun v5 =>
      q_as M0 16 4 a1 a2 fun M6 =>
      some (v5, M6)
noncomputable def b_X11_tell_172 (c : Nat → Nat) (x6 : Int32) (M : q_MM) : Option (Int32 × q_MM) :=
  some (x6, M)
noncomputable def b_X11_tell_143 (c : Nat → Nat) (x2 : Int32) (x3 : Int32) (x4 : Nat) (x6 : Int32) (M : q_MM) : Option (Int32 × q_MM) :=
  if x2 = (3 : Int32) then
    (f_X11_within c M x3 0 400).bind fun r2 =>
    if r2 = 0 then
      b_X11_tell_172 c x6 M
    else
      q_ck ((qTX c) x4) 15 <|
      q_let (M x4 11) fun v5 =>
      q_let (q_u2 M x4 11 x3) fun M6 =>
      b_X11_tell_172 c v5 M6
  else
    b_X11_tell_172 c x6 M
noncomputable def b_X11_tell_112 (c : Nat → Nat) (x2 : Int32) (x3 : Int32) (x4 : Nat) (x6 : Int32) (M : q_MM) : Option (Int32 × q_MM) :=
  if x2 = (2 : Int32) then
    (f_X11_within c M x3 0 1000000).bind fun r8 =>
    if r8 = 0 then
      b_X11_tell_143 c x2 x3 x4 x6 M
    else
      q_ck ((qTX c) x4) 15 <|
      q_let (M x4 10) fun v11 =>
      q_let (q_u2 M x4 10 x3) fun M12 =>
      b_X11_tell_172 c v11 M12
  else
    b_X11_tell_143 c x2 x3 x4 x6 M
noncomputable def b_X11_tell_86 (c : Nat → Nat) (x2 : Int32) (x3 : Int32) (x4 : Nat) (x5 : Int32) (x6 : Int32) (M : q_MM) : Option (Int32 × q_MM) :=
  if x2 = (1 : Int32) then
    if x5 = 0 then
      b_X11_tell_112 c x2 x3 x4 x6 M
    else
      q_ck ((qTX c) x4) 15 <|
      q_let (M x4 9) fun v16 =>
      q_let (q_u2 M x4 9 x3) fun M17 =>
      b_X11_tell_172 c v16 M17
  else
    b_X11_tell_112 c x2 x3 x4 x6 M
noncomputable def b_X11_tell_44 (c : Nat → Nat) (x2 : Int32) (x3 : Int32) (x4 : Nat) (s0 : Int32) (M : q_MM) : Option (Int32 × q_MM) :=
  if x2 = 0 then
    if s0 = 0 then
      b_X11_tell_86 c x2 x3 x4 s0 (-2) M
    else
      q_ck ((qTX c) x4) 15 <|
      q_let (M x4 8) fun v21 =>
      (f_X2_pictureAt c M x3).bind fun r22 =>
      (f_X2_pair c M x4 r22).bind fun r23 =>
      b_X11_tell_172 c v21 r23
  else
    b_X11_tell_86 c x2 x3 x4 s0 (-2) M
noncomputable def b_X11_tell_39 (c : Nat → Nat) (x2 : Int32) (x3 : Int32) (x4 : Nat) (M : q_MM) : Option (Int32 × q_MM) :=
  b_X11_tell_44 c x2 x3 x4 1 M
noncomputable def b_X11_tell_43 (c : Nat → Nat) (x2 : Int32) (x3 : Int32) (x4 : Nat) (M : q_MM) : Option (Int32 × q_MM) :=
  b_X11_tell_44 c x2 x3 x4 0 M
noncomputable def f_X11_tell (c : Nat → Nat) (M0 : q_MM) (a1 : Int32) (a2 : Int32) (a3 : Int32) : Option (Int32 × q_MM) :=
  (f_X2_pictureAt c M0 a1).bind fun r24 =>
  if r24 = 0 then
    some ((-2), M0)
  else
    if a3 = ((-1) : Int32) then
      b_X11_tell_39 c a2 a3 r24 M0
    else
      if a3 = a1 then
        b_X11_tell_43 c a2 a3 r24 M0
      else
        (f_X2_pictureAt c M0 a3).bind fun r28 =>
        if r28 = 0 then
          b_X11_tell_43 c a2 a3 r24 M0
        else
          b_X11_tell_39 c a2 a3 r24 M0
noncomputable def f_X11_sign (c : Nat → Nat) (M0 : q_MM) (a1 : Int32) : Option (Int32 × q_MM) :=
  if (M0 7 1) ≤ (96 : Int32) then
    (f_X4_add c M0 7 ((Int32.toUInt32 a1 >>> (Int32.toUInt32 24 &&& Int32.toUInt32 31)).toInt32 &&& 255)).bind fun r2 =>
    (f_X4_add c r2 7 ((Int32.toUInt32 a1 >>> (Int32.toUInt32 16 &&& Int32.toUInt32 31)).toInt32 &&& 255)).bind fun r3 =>
    (f_X4_add c r3 7 ((Int32.toUInt32 a1 >>> (Int32.toUInt32 8 &&& Int32.toUInt32 31)).toInt32 &&& 255)).bind fun r4 =>
    (f_X4_add c r4 7 (a1 &&& 255)).bind fun r5 =>
    some ((r5 7 1), r5)
  else
    some ((-1), M0)
noncomputable def f_X11_end (c : Nat → Nat) (M0 : q_MM) (a1 : Int32) : Option (Int32 × q_MM) :=
  (f_X11_within c M0 a1 0 (M0 7 1)).bind fun r1 =>
  if r1 = 0 then
    q_bl 0 (some (0, M0))
  else
    q_let (q_u2 M0 7 1 a1) fun M3 =>
    q_bl 1 (some (1, M3))
noncomputable def f_X11_force (c : Nat → Nat) (M : q_MM) (a1 : Int32) : Option (Int32) :=
  (f_X2_pictureAt c M a1).bind fun r1 =>
  if r1 = 0 then
    some (-1)
  else
    (f_X9_inForce c M a1).bind fun r3 =>
    some r3
noncomputable def b_X11_why_30 (c : Nat → Nat) (M : q_MM) : Option (Int32 × q_MM) :=
  some ((-1), M)
noncomputable def f_X11_why (c : Nat → Nat) (M0 : q_MM) (a1 : Int32) (a2 : Int32) (a3 : Int32) : Option (Int32 × q_MM) :=
  (f_X2_pictureAt c M0 a1).bind fun r1 =>
  (f_X2_wallAt c M0 a2).bind fun r2 =>
  if r1 = 0 then
    b_X11_why_30 c M0
  else
    if r2 = 0 then
      b_X11_why_30 c M0
    else
      (f_X9_firstBroken c M0 21 r1 r2 a3).bind fun r5 =>
      some (r5.1, r5.2)
noncomputable def b_X11_fits_30 (c : Nat → Nat) (M : q_MM) : Option (Int32 × q_MM) :=
  some ((-1), M)
noncomputable def f_X11_fits (c : Nat → Nat) (M0 : q_MM) (a1 : Int32) (a2 : Int32) (a3 : Int32) : Option (Int32 × q_MM) :=
  (f_X2_present c M0 a1).bind fun r1 =>
  (f_X2_wallAt c M0 a2).bind fun r2 =>
  if r1 = 0 then
    b_X11_fits_30 c M0
  else
    if r2 = 0 then
      b_X11_fits_30 c M0
    else
      (f_X9_unfit c M0 21 r1 r2 a3).bind fun r5 =>
      some (r5.1, r5.2)
noncomputable def b_X11_hang_79 (c : Nat → Nat) (x6 : Int32) (M : q_MM) : Option (Int32 × q_MM) :=
  some (x6, M)
noncomputable def f_X11_hang (c : Nat → Nat) (M0 : q_MM) (a1 : Int32) (a2 : Int32) (a3 : Int32) : Option (Int32 × q_MM) :=
  (f_X2_present c M0 a1).bind fun r1 =>
  (f_X2_wallAt c M0 a2).bind fun r2 =>
  if r1 = 0 then
    some ((-1), M0)
  else
    if r2 = 0 then
      some ((-1), M0)
    else
      (f_X9_unfit c M0 21 r1 r2 a3).bind fun r5 =>
      q_let r5.1 fun v6 =>
      if v6 = 0 then
        q_ck ((qTX c) r1) 15 <|
        q_ck ((qTX c) r2) 20 <|
        (f_X1_put c r5.2 21 (r5.2 r1 0) (r5.2 r2 0) a3).bind fun r10 =>
        b_X11_hang_79 c v6 r10
      else
        b_X11_hang_79 c v6 r5.2
noncomputable def b_X11_store_47 (c : Nat → Nat) (x2 : Nat) (M : q_MM) : Option (Int32 × q_MM) :=
  q_ck ((qTX c) x2) 15 <|
  q_let (q_u2 M x2 12 0) fun M2 =>
  (f_X1_take c M2 21 (M2 x2 0)).bind fun r3 =>
  q_bl 1 (some (1, r3))
noncomputable def f_X11_store (c : Nat → Nat) (M0 : q_MM) (a1 : Int32) : Option (Int32 × q_MM) :=
  (f_X2_pictureAt c M0 a1).bind fun r4 =>
  if r4 = 0 then
    q_bl 0 (some (0, M0))
  else
    q_ck ((qTX c) r4) 15 <|
    if (M0 r4 12) = (3 : Int32) then
      q_bl 0 (some (0, M0))
    else
      if (M0 r4 12) = 0 then
        (f_X1_has c M0 21 (M0 r4 0)).bind fun r9 =>
        if r9 = 0 then
          q_bl 0 (some (0, M0))
        else
          b_X11_store_47 c r4 M0
      else
        b_X11_store_47 c r4 M0
noncomputable def f_X11_send (c : Nat → Nat) (M0 : q_MM) (a1 : Int32) : Option (Int32 × q_MM) :=
  (f_X2_present c M0 a1).bind fun r1 =>
  if r1 = 0 then
    q_bl 0 (some (0, M0))
  else
    q_ck ((qTX c) r1) 15 <|
    q_let (q_u2 M0 r1 12 2) fun M4 =>
    (f_X1_take c M4 21 (M4 r1 0)).bind fun r5 =>
    q_bl 1 (some (1, r5))
noncomputable def f_X11_placeOf (c : Nat → Nat) (M : q_MM) (a1 : Nat) (a2 : Int32) : Option (Int32) :=
  (f_X2_wallOf c M a1).bind fun r1 =>
  if r1 = 0 then
    some (-1)
  else
    q_ck ((qTX c) a1) 15 <|
    (f_X1_leftSide c M 21 (M a1 0)).bind fun r4 =>
    if a2 = (1 : Int32) then
      q_ck ((qTX c) r1) 20 <|
      some (M r1 0)
    else
      if a2 = (2 : Int32) then
        some r4
      else
        if a2 = (4 : Int32) then
          q_ck ((qTX c) r1) 20 <|
          (f_X1_leftOf c M 21 (M a1 0) (M r1 0) r4).bind fun r10 =>
          some r10
        else
          if a2 = (5 : Int32) then
            q_ck ((qTX c) r1) 20 <|
            (f_X1_rightOf c M 21 (M a1 0) (M r1 0) r4).bind fun r13 =>
            some r13
          else
            q_ck ((qTX c) r1) 20 <|
            some (M r1 1)
noncomputable def b_X11_at_23 (c : Nat → Nat) (M : q_MM) : Option (Int32) :=
  none
noncomputable def f_X11_at (c : Nat → Nat) (M : q_MM) (a1 : Int32) (a2 : Int32) : Option (Int32) :=
  (f_X2_pictureAt c M a1).bind fun r1 =>
  if r1 = 0 then
    b_X11_at_23 c M
  else
    (f_X11_within c M a2 0 7).bind fun r3 =>
    if r3 = 0 then
      b_X11_at_23 c M
    else
      if a2 = 0 then
        (f_X2_stateOf c M r1).bind fun r6 =>
        some r6
      else
        if a2 = (3 : Int32) then
          q_ck ((qTX c) r1) 15 <|
          some (M r1 13)
        else
          if a2 = (7 : Int32) then
            q_ck ((qTX c) r1) 15 <|
            some (M r1 8)
          else
            (f_X11_placeOf c M r1 a2).bind fun r11 =>
            some r11
noncomputable def b_X11_on_91 (c : Nat → Nat) (M : q_MM) : Option (Int32 × q_MM) :=
  some ((M 6 1), M)
noncomputable def b_X11_on_39 (c : Nat → Nat) : Nat → Int32 → Int32 → Int32 → q_MM → Option (Int32 × q_MM)
  | 0, _, _, _, _ => none
  | nf + 1, x1, x3, x4, M =>
    if (24 : Int32) ≤ x4 then
      b_X11_on_91 c M
    else
      if x3 = ((-1) : Int32) then
        b_X11_on_91 c M
      else
        (f_X4_add c M 6 x3).bind fun r3 =>
        (f_X1_leftSide c r3 21 x3).bind fun r4 =>
        (f_X1_rightOf c r3 21 (-1) x1 r4).bind fun r5 =>
        b_X11_on_39 c nf x1 r5 (x4 + 1) r3
noncomputable def f_X11_on (c : Nat → Nat) (M0 : q_MM) (a1 : Int32) : Option (Int32 × q_MM) :=
  (f_X2_wallAt c M0 a1).bind fun r6 =>
  if r6 = 0 then
    some ((-1), M0)
  else
    (f_X4_clear c M0 6).bind fun r8 =>
    (f_X1_rightOf c r8 21 (-1) a1 (-1)).bind fun r9 =>
    b_X11_on_39 c q_fu a1 r9 0 r8
noncomputable def b_X11_leastPlace_163 (c : Nat → Nat) (x3 : Int32) (M : q_MM) : Option (Int32 × q_MM) :=
  some (x3, M)
noncomputable def b_X11_leastPlace_157 (c : Nat → Nat) (k29 : Nat → Nat → Int32 → Int32 → q_MM → Option (Int32 × q_MM)) (x1 : Nat) (x2 : Nat) (x3 : Int32) (x4 : Int32) (M : q_MM) : Option (Int32 × q_MM) :=
  k29 x1 x2 x3 (x4 + 1) M
noncomputable def b_X11_leastPlace_133 (c : Nat → Nat) (k29 : Nat → Nat → Int32 → Int32 → q_MM → Option (Int32 × q_MM)) (x1 : Nat) (x2 : Nat) (x3 : Int32) (x4 : Int32) (x5 : Int32) (M : q_MM) : Option (Int32 × q_MM) :=
  (f_X9_unfit c M 21 x1 x2 x5).bind fun r1 =>
  if r1.1 = 0 then
    b_X11_leastPlace_157 c k29 x1 x2 x5 x4 r1.2
  else
    b_X11_leastPlace_157 c k29 x1 x2 x3 x4 r1.2
noncomputable def b_X11_leastPlace_29 (c : Nat → Nat) : Nat → Nat → Nat → Int32 → Int32 → q_MM → Option (Int32 × q_MM)
  | 0, _, _, _, _, _ => none
  | nf + 1, x1, x2, x3, x4, M =>
    (f_Jx4a65c_size_8abf5 (qTX c) (qLX c) (qPX c) M 15).bind fun r3 =>
    if r3 ≤ x4 then
      b_X11_leastPlace_163 c x3 M
    else
      if x3 = 0 then
        b_X11_leastPlace_163 c x3 M
      else
        q_ck ((qTX c) x1) 15 <|
        if x4 = (M x1 0) then
          b_X11_leastPlace_157 c (b_X11_leastPlace_29 c nf) x1 x2 x3 x4 M
        else
          (f_X1_wallUnder c M 21 x4).bind fun r8 =>
          q_ck ((qTX c) x2) 20 <|
          if r8 = (M x2 0) then
            (f_X1_leftSide c M 21 x4).bind fun r11 =>
            (f_Jx4a65c_get_915e3 (qTX c) (qLX c) (qPX c) M 15 x4).bind fun r12 =>
            q_ck ((qTX c) r12) 15 <|
            q_ld M 16 4 1 fun v14 =>
            q_let ((r11 + (M r12 1)) + v14) fun v15 =>
            if x3 = ((-1) : Int32) then
              b_X11_leastPlace_133 c (b_X11_leastPlace_29 c nf) x1 x2 x3 x4 v15 M
            else
              if x3 ≤ v15 then
                b_X11_leastPlace_157 c (b_X11_leastPlace_29 c nf) x1 x2 x3 x4 M
              else
                b_X11_leastPlace_133 c (b_X11_leastPlace_29 c nf) x1 x2 x3 x4 v15 M
          else
            b_X11_leastPlace_157 c (b_X11_leastPlace_29 c nf) x1 x2 x3 x4 M
noncomputable def b_X11_leastPlace_25 (c : Nat → Nat) (x1 : Nat) (x2 : Nat) (s0 : Int32) (M : q_MM) : Option (Int32 × q_MM) :=
  b_X11_leastPlace_29 c q_fu x1 x2 s0 0 M
noncomputable def f_X11_leastPlace (c : Nat → Nat) (M0 : q_MM) (a1 : Nat) (a2 : Nat) : Option (Int32 × q_MM) :=
  (f_X9_unfit c M0 21 a1 a2 0).bind fun r18 =>
  if r18.1 = 0 then
    b_X11_leastPlace_25 c a1 a2 0 r18.2
  else
    b_X11_leastPlace_25 c a1 a2 (-1) r18.2
noncomputable def b_X11_places_82 (c : Nat → Nat) (k24 : Nat → Int32 → q_MM → Option (Int32 × q_MM)) (x2 : Nat) (x3 : Int32) (M : q_MM) : Option (Int32 × q_MM) :=
  k24 x2 (x3 + 1) M
noncomputable def b_X11_places_24 (c : Nat → Nat) : Nat → Nat → Int32 → q_MM → Option (Int32 × q_MM)
  | 0, _, _, _ => none
  | nf + 1, x2, x3, M =>
    (f_Jx4a65c_size_8abf5 (qTX c) (qLX c) (qPX c) M 14).bind fun r1 =>
    if r1 ≤ x3 then
      if (2 : Int32) = 0 then none else
      some (((M 6 1) / 2), M)
    else
      (f_Jx4a65c_get_915e3 (qTX c) (qLX c) (qPX c) M 14 x3).bind fun r3 =>
      q_ck ((qTX c) r3) 20 <|
      (f_X11_leastPlace c M x2 r3).bind fun r5 =>
      q_let r5.1 fun v6 =>
      if v6 = ((-1) : Int32) then
        b_X11_places_82 c (b_X11_places_24 c nf) x2 x3 r5.2
      else
        (f_X4_add c r5.2 6 x3).bind fun r8 =>
        (f_X4_add c r8 6 v6).bind fun r9 =>
        b_X11_places_82 c (b_X11_places_24 c nf) x2 x3 r9
noncomputable def f_X11_places (c : Nat → Nat) (M0 : q_MM) (a1 : Int32) : Option (Int32 × q_MM) :=
  (f_X2_present c M0 a1).bind fun r10 =>
  if r10 = 0 then
    some ((-1), M0)
  else
    (f_X4_clear c M0 6).bind fun r12 =>
    b_X11_places_24 c q_fu r10 0 r12
noncomputable def f_X11_of (c : Nat → Nat) (M : q_MM) (a1 : Int32) (a2 : Int32) : Option (Int32) :=
  (f_X2_wallAt c M a1).bind fun r1 =>
  if r1 = 0 then
    some (-1)
  else
    if a2 = (0 : Int32) then
      (f_X2_daylight c M r1).bind fun r4 =>
      some r4
    else
      if a2 = (1 : Int32) then
        (f_X2_peak c M r1).bind fun r6 =>
        some r6
      else
        if a2 = (2 : Int32) then
          (f_X2_weightOn c M r1).bind fun r8 =>
          some r8
        else
          if a2 = (3 : Int32) then
            q_ck ((qTX c) r1) 20 <|
            (f_X2_widthOn c M r1).bind fun r11 =>
            some ((M r1 2) - r11)
          else
            some (-1)
noncomputable def b_X11_step_29 (c : Nat → Nat) : Nat → Int32 → Int32 → q_MM → Option (Int32 × q_MM)
  | 0, _, _, _ => none
  | nf + 1, x1, x2, M =>
    if x1 ≤ x2 then
      some ((M 2 12), M)
    else
      (f_X2_pass c M).bind fun r2 =>
      b_X11_step_29 c nf x1 (x2 + 1) r2
noncomputable def f_X11_step (c : Nat → Nat) (M0 : q_MM) (a1 : Int32) : Option (Int32 × q_MM) :=
  (f_X11_within c M0 a1 0 100).bind fun r3 =>
  if r3 = 0 then
    some ((-1), M0)
  else
    if a1 ≤ ((400 : Int32) - (M0 2 12)) then
      b_X11_step_29 c q_fu a1 0 M0
    else
      some ((-1), M0)
noncomputable def b_X11_fades_25 (c : Nat → Nat) (M : q_MM) (x2 : Nat) (s0 : Nat) : Option (Int32) :=
  if x2 = 0 then
    some (-1)
  else
    if s0 = 0 then
      some (-1)
    else
      q_ck ((qTX c) x2) 15 <|
      if (M x2 13) ≤ (M x2 10) then
        (f_X2_daylight c M s0).bind fun r5 =>
        if 0 < r5 then
          if (r5 : Int32) = 0 then none else
          q_let ((M 2 12) + (((M x2 10) - (M x2 13)) / r5)) fun v7 =>
          if (400 : Int32) ≤ v7 then
            some (-1)
          else
            some v7
        else
          some (-1)
      else
        some (M 2 12)
noncomputable def f_X11_fades (c : Nat → Nat) (M : q_MM) (a1 : Int32) : Option (Int32) :=
  (f_X2_pictureAt c M a1).bind fun r9 =>
  if r9 = 0 then
    b_X11_fades_25 c M r9 0
  else
    (f_X2_wallOf c M r9).bind fun r11 =>
    b_X11_fades_25 c M r9 r11
noncomputable def b_X11_shown_38 (c : Nat → Nat) (M : q_MM) (x1 : Int32) (x2 : Int32) (x3 : Int32) (s0 : Int32) : Option (Int32) :=
  if s0 = 0 then
    some (-1)
  else
    (f_X2_nightsShown c M ((1 : Int32) <<< (x1 &&& 31)) x2 x3).bind fun r2 =>
    some r2
noncomputable def b_X11_shown_37 (c : Nat → Nat) (M : q_MM) (x1 : Int32) (x2 : Int32) (x3 : Int32) : Option (Int32) :=
  b_X11_shown_38 c M x1 x2 x3 0
noncomputable def f_X11_shown (c : Nat → Nat) (M : q_MM) (a1 : Int32) (a2 : Int32) (a3 : Int32) : Option (Int32) :=
  (f_X2_pictureAt c M a1).bind fun r3 =>
  if r3 = 0 then
    b_X11_shown_37 c M a1 a2 a3
  else
    (f_X11_within c M a2 0 400).bind fun r5 =>
    if r5 = 0 then
      b_X11_shown_37 c M a1 a2 a3
    else
      (f_X11_within c M a3 a2 400).bind fun r7 =>
      if r7 = 0 then
        b_X11_shown_37 c M a1 a2 a3
      else
        b_X11_shown_38 c M a1 a2 a3 1
noncomputable def f_X11_owed (c : Nat → Nat) (M : q_MM) (a1 : Int32) (a2 : Int32) : Option (Int32) :=
  (f_X11_within c M a1 0 7).bind fun r1 =>
  if r1 = 0 then
    some (-1)
  else
    (f_X11_within c M a2 0 (M 2 12)).bind fun r3 =>
    if r3 = 0 then
      some (-1)
    else
      (f_X2_givenBy c M a1).bind fun r5 =>
      (f_J6_bitCount_0f7a4 (qTX c) (qLX c) (qPX c) M r5).bind fun r6 =>
      (f_X2_nightsShown c M r5 ((M 2 12) - a2) (M 2 12)).bind fun r7 =>
      some ((a2 * r6) - r7)
noncomputable def b_X11_like_31 (c : Nat → Nat) (M : q_MM) : Option (Int32 × q_MM) :=
  none
noncomputable def f_X11_like (c : Nat → Nat) (M0 : q_MM) (a1 : Int32) (a2 : Int32) (a3 : Int32) : Option (Int32 × q_MM) :=
  (f_X11_within c M0 a1 0 7).bind fun r1 =>
  if r1 = 0 then
    b_X11_like_31 c M0
  else
    (f_X11_within c M0 a2 0 7).bind fun r3 =>
    if r3 = 0 then
      b_X11_like_31 c M0
    else
      (f_X11_within c M0 a3 (-99) 99).bind fun r5 =>
      if r5 = 0 then
        b_X11_like_31 c M0
      else
        q_ld M0 17 64 ((a1 * 8) + a2) fun v7 =>
        q_as M0 17 64 ((a1 * 8) + a2) a3 fun M8 =>
        q_as M8 17 64 ((a2 * 8) + a1) a3 fun M9 =>
        some (v7, M9)
noncomputable def b_X11_best_35 (c : Nat → Nat) (M : q_MM) : Option (Int32 × q_MM) :=
  none
noncomputable def f_X11_best (c : Nat → Nat) (M0 : q_MM) (a1 : Int32) (a2 : Int32) : Option (Int32 × q_MM) :=
  (f_X2_wallAt c M0 a1).bind fun r1 =>
  if r1 = 0 then
    b_X11_best_35 c M0
  else
    (f_X6_choose c M0 a2).bind fun r3 =>
    if r3.1 = 0 then
      b_X11_best_35 c r3.2
    else
      (f_X6_goOn c r3.2 r1).bind fun r5 =>
      if r5 = 0 then
        b_X11_best_35 c r3.2
      else
        (f_X6_find c r3.2 r1).bind fun r7 =>
        q_let r7.1 fun v8 =>
        (f_X4_become c r7.2 6 37).bind fun r9 =>
        some (v8, r9)
noncomputable def f_X11_lay (c : Nat → Nat) (M0 : q_MM) : Option (Int32 × q_MM) :=
  q_let (M0 37 1) fun v1 =>
  if v1 = 0 then
    some ((-1), M0)
  else
    (f_X6_arePresent c M0 37).bind fun r3 =>
    if r3 = 0 then
      some ((-1), M0)
    else
      (f_X6_putUp c M0).bind fun r5 =>
      some (v1, r5)
noncomputable def f_X11_tale (c : Nat → Nat) (M0 : q_MM) (a1 : Int32) : Option (Int32 × q_MM) :=
  (f_X2_pictureAt c M0 a1).bind fun r1 =>
  if r1 = 0 then
    some ((-1), M0)
  else
    (f_X4_find c M0 8 a1).bind fun r3 =>
    if r3 = ((-1) : Int32) then
      if (M0 8 1) < (12 : Int32) then
        (f_X4_add c M0 8 a1).bind fun r6 =>
        some ((r6 8 1), r6)
      else
        some ((-1), M0)
    else
      some ((-1), M0)
noncomputable def f_X11_route (c : Nat → Nat) (M0 : q_MM) (a1 : Int32) : Option (Int32 × q_MM) :=
  (f_X2_hasRoom c M0 a1).bind fun r1 =>
  if r1 = 0 then
    some ((-1), M0)
  else
    (f_X4_find c M0 9 a1).bind fun r3 =>
    if r3 = ((-1) : Int32) then
      if (M0 9 1) < (10 : Int32) then
        (f_X4_add c M0 9 a1).bind fun r6 =>
        some ((r6 9 1), r6)
      else
        some ((-1), M0)
    else
      some ((-1), M0)
noncomputable def b_X11_meeting_40 (c : Nat → Nat) (M : q_MM) (x1 : Nat) (x2 : Nat) (s0 : Int32) : Option (Int32) :=
  if s0 = ((-1) : Int32) then
    some (-1)
  else
    q_ck ((qTX c) x2) 20 <|
    q_ck ((qTX c) x1) 15 <|
    (f_X1_leftSide c M 21 (M x1 0)).bind fun r4 =>
    some ((((s0 * 16) + (M x2 0)) * 4096) + r4)
noncomputable def b_X11_meeting_25 (c : Nat → Nat) (M : q_MM) (x1 : Nat) (x2 : Nat) : Option (Int32) :=
  b_X11_meeting_40 c M x1 x2 (-1)
noncomputable def b_X11_meeting_16 (c : Nat → Nat) (M : q_MM) (x1 : Nat) (s0 : Nat) : Option (Int32) :=
  if x1 = 0 then
    b_X11_meeting_25 c M x1 s0
  else
    if s0 = 0 then
      b_X11_meeting_25 c M x1 s0
    else
      q_ck ((qTX c) s0) 20 <|
      (f_X4_find c M 9 (M s0 1)).bind fun r8 =>
      b_X11_meeting_40 c M x1 s0 r8
noncomputable def f_X11_meeting (c : Nat → Nat) (M : q_MM) (a1 : Nat) : Option (Int32) :=
  if a1 = 0 then
    b_X11_meeting_16 c M a1 0
  else
    (f_X2_wallOf c M a1).bind fun r10 =>
    b_X11_meeting_16 c M a1 r10
noncomputable def b_X11_longestAfter_43 (c : Nat → Nat) (M : q_MM) (k6 : Int32 → Int32 → Int32 → Option (Int32)) (x1 : Int32) (x2 : Int32) (x3 : Int32) : Option (Int32) :=
  k6 x1 x2 (x3 + 1)
noncomputable def b_X11_longestAfter_6 (c : Nat → Nat) (M : q_MM) : Nat → Int32 → Int32 → Int32 → Option (Int32)
  | 0, _, _, _ => none
  | nf + 1, x1, x2, x3 =>
    if (M 8 1) ≤ x3 then
      some x2
    else
      q_ld M 10 12 x3 fun v2 =>
      q_ld M 10 12 x1 fun v3 =>
      if v2 ≤ v3 then
        b_X11_longestAfter_43 c M (b_X11_longestAfter_6 c M nf) x1 x2 x3
      else
        q_ld M 11 12 x3 fun v5 =>
        q_let (if x2 < v5 then v5 else x2) fun v6 =>
        b_X11_longestAfter_43 c M (b_X11_longestAfter_6 c M nf) x1 v6 x3
noncomputable def f_X11_longestAfter (c : Nat → Nat) (M : q_MM) (a1 : Int32) : Option (Int32) :=
  q_let (a1 + 1) fun v7 =>
  b_X11_longestAfter_6 c M q_fu a1 0 v7
noncomputable def b_X11_tellChain_79 (c : Nat → Nat) (k14 : Int32 → Int32 → Int32 → q_MM → Option (q_MM)) (x2 : Int32) (x3 : Int32) (x4 : Int32) (M : q_MM) : Option (q_MM) :=
  k14 x2 x3 (x4 + 1) M
noncomputable def b_X11_tellChain_14 (c : Nat → Nat) : Nat → Int32 → Int32 → Int32 → q_MM → Option (q_MM)
  | 0, _, _, _, _ => none
  | nf + 1, x2, x3, x4, M =>
    if (M 8 1) ≤ x4 then
      some M
    else
      if x2 ≤ 0 then
        b_X11_tellChain_79 c (b_X11_tellChain_14 c nf) x2 x3 x4 M
      else
        q_ld M 11 12 x4 fun v3 =>
        if v3 = x2 then
          q_ld M 10 12 x4 fun v5 =>
          if v5 ≤ x3 then
            b_X11_tellChain_79 c (b_X11_tellChain_14 c nf) x2 x3 x4 M
          else
            (f_X4_get c M 8 x4).bind fun r7 =>
            (f_X4_add c M 6 r7).bind fun r8 =>
            q_ld r8 10 12 x4 fun v9 =>
            b_X11_tellChain_79 c (b_X11_tellChain_14 c nf) (x2 + (-1)) v9 x4 r8
        else
          b_X11_tellChain_79 c (b_X11_tellChain_14 c nf) x2 x3 x4 M
noncomputable def f_X11_tellChain (c : Nat → Nat) (M0 : q_MM) (a1 : Int32) : Option (q_MM) :=
  (f_X4_clear c M0 6).bind fun r10 =>
  b_X11_tellChain_14 c q_fu a1 (-1) 0 r10
noncomputable def b_X11_breaks_56 (c : Nat → Nat) (k4 : Int32 → Int32 → q_MM → Option (Int32 × q_MM)) (x2 : Int32) (s0 : Int32) (s1 : Int32) (M : q_MM) : Option (Int32 × q_MM) :=
  q_let (s1 + s0) fun v1 =>
  k4 v1 (x2 + 1) M
noncomputable def b_X11_breaks_106 (c : Nat → Nat) (k76 : Int32 → Int32 → Int32 → q_MM → Option (Int32 × q_MM)) (x1 : Int32) (x2 : Int32) (x3 : Int32) (s0 : Int32) (s1 : Int32) (s2 : Nat) (M : q_MM) : Option (Int32 × q_MM) :=
  q_ck ((qTX c) s2) 1 <|
  q_as M s2 ((qLX c) s2) s1 s0 fun M3 =>
  q_ld M3 11 12 x3 fun v4 =>
  q_let (if x2 < v4 then v4 else x2) fun v5 =>
  k76 x1 v5 (x3 + (-1)) M3
noncomputable def b_X11_breaks_76 (c : Nat → Nat) : Nat → Int32 → Int32 → Int32 → q_MM → Option (Int32 × q_MM)
  | 0, _, _, _, _ => none
  | nf + 1, x1, x2, x3, M =>
    if x3 < 0 then
      (f_X11_tellChain c M x2).bind fun r7 =>
      some ((x1 - x2), r7)
    else
      q_ld M 10 12 x3 fun v8 =>
      if v8 = ((-1) : Int32) then
        b_X11_breaks_106 c (b_X11_breaks_76 c nf) x1 x2 x3 0 x3 11 M
      else
        (f_X11_longestAfter c M x3).bind fun r10 =>
        b_X11_breaks_106 c (b_X11_breaks_76 c nf) x1 x2 x3 ((1 : Int32) + r10) x3 11 M
noncomputable def b_X11_breaks_4 (c : Nat → Nat) : Nat → Int32 → Int32 → q_MM → Option (Int32 × q_MM)
  | 0, _, _, _ => none
  | nf + 1, x1, x2, M =>
    if (M 8 1) ≤ x2 then
      q_let ((M 8 1) - 1) fun v12 =>
      b_X11_breaks_76 c q_fu x1 0 v12 M
    else
      (f_X4_get c M 8 x2).bind fun r13 =>
      (f_X2_pictureAt c M r13).bind fun r14 =>
      (f_X11_meeting c M r14).bind fun r15 =>
      q_as M 10 12 x2 r15 fun M16 =>
      q_ld M16 10 12 x2 fun v17 =>
      if v17 = ((-1) : Int32) then
        b_X11_breaks_56 c (b_X11_breaks_4 c nf) x2 0 x1 M16
      else
        b_X11_breaks_56 c (b_X11_breaks_4 c nf) x2 1 x1 M16
noncomputable def f_X11_breaks (c : Nat → Nat) (M0 : q_MM) : Option (Int32 × q_MM) :=
  b_X11_breaks_4 c q_fu 0 0 M0
noncomputable def b_X11_shut_48 (c : Nat → Nat) (s0 : Int32) (M : q_MM) : Option (Int32 × q_MM) :=
  q_let (q_u2 M 2 11 s0) fun M1 =>
  q_bl 1 (some (1, M1))
noncomputable def f_X11_shut (c : Nat → Nat) (M0 : q_MM) (a1 : Int32) (a2 : Int32) : Option (Int32 × q_MM) :=
  (f_X2_hasRoom c M0 a1).bind fun r2 =>
  if r2 = 0 then
    q_bl 0 (some (0, M0))
  else
    if a2 = 0 then
      b_X11_shut_48 c ((M0 2 11) &&& (((1 : Int32) <<< (a1 &&& 31)) ^^^ (-1))) M0
    else
      b_X11_shut_48 c ((M0 2 11) ||| ((1 : Int32) <<< (a1 &&& 31))) M0
noncomputable def b_X11_way_87 (c : Nat → Nat) : Nat → Nat → Int32 → Int32 → Int32 → q_MM → Option (Int32 × q_MM)
  | 0, _, _, _, _, _ => none
  | nf + 1, x4, x5, x6, x7, M =>
    if x7 < 0 then
      some (x5, M)
    else
      (f_X2_nextRoom c M x4 x6 x7).bind fun r2 =>
      (f_X4_add c M 6 r2).bind fun r3 =>
      b_X11_way_87 c nf x4 x5 r2 (x7 + (-1)) r3
noncomputable def f_X11_way (c : Nat → Nat) (M0 : q_MM) (a1 : Int32) (a2 : Int32) (a3 : Int32) : Option (Int32 × q_MM) :=
  (f_X2_pictureAt c M0 a1).bind fun r4 =>
  if r4 = 0 then
    some ((-1), M0)
  else
    (f_X2_hasRoom c M0 a2).bind fun r6 =>
    if r6 = 0 then
      some ((-1), M0)
    else
      (f_X2_hasRoom c M0 a3).bind fun r8 =>
      if r8 = 0 then
        some ((-1), M0)
      else
        (f_X2_doorsBetween c M0 r4 a2 a3 (-1)).bind fun r10 =>
        q_let r10.1 fun v11 =>
        if v11 = (99 : Int32) then
          some ((-2), r10.2)
        else
          (f_X4_clear c r10.2 6).bind fun r13 =>
          (f_X4_add c r13 6 a2).bind fun r14 =>
          q_let (v11 - 1) fun v15 =>
          b_X11_way_87 c q_fu r4 v11 a2 v15 r14
noncomputable def b_X11_bars_62 (c : Nat → Nat) : Nat → Int32 → Int32 → Nat → Int32 → q_MM → Option (Int32 × q_MM)
  | 0, _, _, _, _, _ => none
  | nf + 1, x2, x3, x4, x5, M =>
    (f_Jx4a65c_size_8abf5 (qTX c) (qLX c) (qPX c) M 13).bind fun r1 =>
    if r1 ≤ x5 then
      some ((-1), M)
    else
      (f_X2_doorsBetween c M x4 x2 x3 x5).bind fun r3 =>
      if r3.1 = (99 : Int32) then
        b_X11_bars_62 c nf x2 x3 x4 (x5 + 1) r3.2
      else
        some (x5, r3.2)
noncomputable def f_X11_bars (c : Nat → Nat) (M0 : q_MM) (a1 : Int32) (a2 : Int32) (a3 : Int32) : Option (Int32 × q_MM) :=
  (f_X2_pictureAt c M0 a1).bind fun r5 =>
  if r5 = 0 then
    some ((-1), M0)
  else
    (f_X2_hasRoom c M0 a2).bind fun r7 =>
    if r7 = 0 then
      some ((-1), M0)
    else
      (f_X2_hasRoom c M0 a3).bind fun r9 =>
      if r9 = 0 then
        some ((-1), M0)
      else
        (f_X2_doorsBetween c M0 r5 a2 a3 (-1)).bind fun r11 =>
        if r11.1 = (99 : Int32) then
          b_X11_bars_62 c q_fu a2 a3 r5 0 r11.2
        else
          some ((-2), r11.2)
noncomputable def b_X11_move_55 (c : Nat → Nat) (x1 : Int32) (x2 : Int32) (x3 : Int32) (s0 : Int32) (M : q_MM) : Option (Int32 × q_MM) :=
  if s0 = 0 then
    some ((-1), M)
  else
    if (M 39 1) < (8 : Int32) then
      (f_X4_add c M 39 x1).bind fun r3 =>
      (f_X4_add c r3 40 x2).bind fun r4 =>
      (f_X4_add c r4 41 x3).bind fun r5 =>
      some (((r5 39 1) - 1), r5)
    else
      some ((-1), M)
noncomputable def b_X11_move_54 (c : Nat → Nat) (x1 : Int32) (x2 : Int32) (x3 : Int32) (M : q_MM) : Option (Int32 × q_MM) :=
  b_X11_move_55 c x1 x2 x3 0 M
noncomputable def f_X11_move (c : Nat → Nat) (M0 : q_MM) (a1 : Int32) (a2 : Int32) (a3 : Int32) : Option (Int32 × q_MM) :=
  (f_X2_present c M0 a1).bind fun r6 =>
  if r6 = 0 then
    b_X11_move_54 c a1 a2 a3 M0
  else
    (f_X2_wallAt c M0 a2).bind fun r8 =>
    if r8 = 0 then
      b_X11_move_54 c a1 a2 a3 M0
    else
      (f_X11_within c M0 a3 (-1000) 4000).bind fun r10 =>
      if r10 = 0 then
        b_X11_move_54 c a1 a2 a3 M0
      else
        (f_X4_find c M0 39 a1).bind fun r12 =>
        if r12 = ((-1) : Int32) then
          b_X11_move_55 c a1 a2 a3 1 M0
        else
          b_X11_move_54 c a1 a2 a3 M0
noncomputable def f_X11_nights (c : Nat → Nat) (M0 : q_MM) (a1 : Int32) (a2 : Int32) : Option (Int32 × q_MM) :=
  (f_X11_within c M0 a1 1 8).bind fun r1 =>
  if r1 = 0 then
    some ((-1), M0)
  else
    (f_X11_within c M0 a2 1 8).bind fun r3 =>
    if r3 = 0 then
      some ((-1), M0)
    else
      (f_X3_plan c M0 a1 a2).bind fun r5 =>
      q_let r5.1 fun v6 =>
      if v6 = (99 : Int32) then
        some ((-2), r5.2)
      else
        (f_X4_clear c r5.2 6).bind fun r8 =>
        (f_X3_tellPlan c r8 a1 a2 6).bind fun r9 =>
        some (v6, r9)
noncomputable def f_X11_done (c : Nat → Nat) (M0 : q_MM) : Option (Int32 × q_MM) :=
  (f_X3_allCanStand c M0).bind fun r1 =>
  if r1.1 = 0 then
    some ((-2), r1.2)
  else
    q_let (r1.2 39 1) fun v3 =>
    (f_X1_become c r1.2 21 22).bind fun r4 =>
    (f_X3_forget c r4).bind fun r5 =>
    some (v3, r5)
noncomputable def b_X11_insert_94 (c : Nat → Nat) (x1 : Int32) (x2 : Int32) (x3 : Int32) (M : q_MM) : Option (q_MM) :=
  q_as M 56 32 x3 x1 fun M1 =>
  q_as M1 12 24 x3 x2 fun M2 =>
  some M2
noncomputable def b_X11_insert_27 (c : Nat → Nat) : Nat → Int32 → Int32 → Int32 → Int32 → q_MM → Option (q_MM)
  | 0, _, _, _, _, _ => none
  | nf + 1, x1, x2, x3, x4, M =>
    if x4 ≤ 0 then
      b_X11_insert_94 c x1 x2 x3 M
    else
      q_ld M 12 24 (x4 - 1) fun v4 =>
      if x2 ≤ v4 then
        b_X11_insert_94 c x1 x2 x3 M
      else
        q_ld M 56 32 (x4 - 1) fun v6 =>
        q_as M 56 32 x4 v6 fun M7 =>
        q_ld M7 12 24 (x4 - 1) fun v8 =>
        q_as M7 12 24 x4 v8 fun M9 =>
        q_let (x4 - 1) fun v10 =>
        b_X11_insert_27 c nf x1 x2 v10 (x4 + (-1)) M9
noncomputable def f_X11_insert (c : Nat → Nat) (M0 : q_MM) (a1 : Int32) (a2 : Int32) : Option (q_MM) :=
  q_let (M0 6 1) fun v11 =>
  (f_X4_add c M0 6 a1).bind fun r12 =>
  q_let ((r12 6 1) - 1) fun v13 =>
  b_X11_insert_27 c q_fu a1 a2 v11 v13 r12
noncomputable def b_X11_stand_184 (c : Nat → Nat) (k93 : Nat → Int32 → Int32 → q_MM → Option (Int32 × q_MM)) (x3 : Nat) (x4 : Int32) (x5 : Int32) (M : q_MM) : Option (Int32 × q_MM) :=
  k93 x3 x4 (x5 + 1) M
noncomputable def b_X11_stand_93 (c : Nat → Nat) : Nat → Nat → Int32 → Int32 → q_MM → Option (Int32 × q_MM)
  | 0, _, _, _, _ => none
  | nf + 1, x3, x4, x5, M =>
    (f_Jx4a65c_size_8abf5 (qTX c) (qLX c) (qPX c) M 15).bind fun r1 =>
    if r1 ≤ x5 then
      some ((M 6 1), M)
    else
      (f_Jx4a65c_get_915e3 (qTX c) (qLX c) (qPX c) M 15 x5).bind fun r3 =>
      q_ck ((qTX c) r3) 15 <|
      (f_X2_stateOf c M r3).bind fun r5 =>
      if r5 = 0 then
        (f_X9_unfit c M 22 r3 x3 x4).bind fun r7 =>
        if r7.1 = 0 then
          (f_X2_likedAt c r7.2 22 r3 x3 x4).bind fun r9 =>
          (f_X11_insert c r7.2 x5 r9).bind fun r10 =>
          b_X11_stand_184 c (b_X11_stand_93 c nf) x3 x4 x5 r10
        else
          b_X11_stand_184 c (b_X11_stand_93 c nf) x3 x4 x5 r7.2
      else
        b_X11_stand_184 c (b_X11_stand_93 c nf) x3 x4 x5 M
noncomputable def b_X11_stand_25 (c : Nat → Nat) (x2 : Nat) (s0 : Nat) (M : q_MM) : Option (Int32 × q_MM) :=
  if x2 = 0 then
    some ((-1), M)
  else
    if s0 = 0 then
      some ((-1), M)
    else
      q_ck ((qTX c) x2) 15 <|
      (f_X1_leftSide c M 21 (M x2 0)).bind fun r14 =>
      (f_X1_become c M 22 21).bind fun r15 =>
      (f_X1_take c r15 22 (r15 x2 0)).bind fun r16 =>
      (f_X4_clear c r16 6).bind fun r17 =>
      b_X11_stand_93 c q_fu s0 r14 0 r17
noncomputable def f_X11_stand (c : Nat → Nat) (M0 : q_MM) (a1 : Int32) : Option (Int32 × q_MM) :=
  (f_X2_pictureAt c M0 a1).bind fun r18 =>
  if r18 = 0 then
    b_X11_stand_25 c r18 0 M0
  else
    (f_X2_wallOf c M0 r18).bind fun r20 =>
    b_X11_stand_25 c r18 r20 M0
noncomputable def f_X11_sight (c : Nat → Nat) (M0 : q_MM) (a1 : Int32) (a2 : Int32) : Option (Int32 × q_MM) :=
  (f_X2_wallAt c M0 a2).bind fun r1 =>
  if r1 = 0 then
    q_bl 0 (some (0, M0))
  else
    (f_X2_hasRoom c M0 a1).bind fun r3 =>
    if r3 = 0 then
      q_bl 0 (some (0, M0))
    else
      q_ck ((qTX c) r1) 20 <|
      if (M0 r1 1) = a1 then
        q_bl 0 (some (0, M0))
      else
        q_let (q_u2 M0 r1 8 ((M0 r1 8) ||| ((1 : Int32) <<< (a1 &&& 31)))) fun M7 =>
        q_bl 1 (some (1, M7))
noncomputable def b_X11_guard_84 (c : Nat → Nat) (k39 : Int32 → Int32 → Int32 → q_MM → Option (Int32 × q_MM)) (x2 : Int32) (x3 : Int32) (x4 : Int32) (M : q_MM) : Option (Int32 × q_MM) :=
  k39 x2 x3 (x4 + (-1)) M
noncomputable def b_X11_guard_61 (c : Nat → Nat) (k39 : Int32 → Int32 → Int32 → q_MM → Option (Int32 × q_MM)) (x2 : Int32) (x3 : Int32) (x4 : Int32) (s0 : Int32) (M : q_MM) : Option (Int32 × q_MM) :=
  if s0 = 0 then
    b_X11_guard_84 c k39 x2 x3 x4 M
  else
    (f_X2_areSeen c M x2 x4).bind fun r2 =>
    if r2 = 0 then
      b_X11_guard_84 c k39 x2 x3 x4 M
    else
      b_X11_guard_84 c k39 x2 x4 x4 M
noncomputable def b_X11_guard_39 (c : Nat → Nat) : Nat → Int32 → Int32 → Int32 → q_MM → Option (Int32 × q_MM)
  | 0, _, _, _, _ => none
  | nf + 1, x2, x3, x4, M =>
    if x4 < 0 then
      (f_X4_clear c M 6).bind fun r5 =>
      (f_X4_add c r5 6 x3).bind fun r6 =>
      (f_J6_bitCount_0f7a4 (qTX c) (qLX c) (qPX c) r6 x3).bind fun r7 =>
      some (r7, r6)
    else
      (f_J6_bitCount_0f7a4 (qTX c) (qLX c) (qPX c) M x4).bind fun r8 =>
      (f_J6_bitCount_0f7a4 (qTX c) (qLX c) (qPX c) M x3).bind fun r9 =>
      if r9 < r8 then
        b_X11_guard_61 c (b_X11_guard_39 c nf) x2 x3 x4 0 M
      else
        b_X11_guard_61 c (b_X11_guard_39 c nf) x2 x3 x4 1 M
noncomputable def f_X11_guard (c : Nat → Nat) (M0 : q_MM) (a1 : Int32) : Option (Int32 × q_MM) :=
  (f_X11_within c M0 a1 0 999).bind fun r11 =>
  if r11 = 0 then
    some ((-1), M0)
  else
    (f_X2_wallsWith c M0 a1).bind fun r13 =>
    q_let (((1 : Int32) <<< ((M0 2 10) &&& 31)) - 1) fun v14 =>
    q_let (v14 - 1) fun v15 =>
    b_X11_guard_39 c q_fu r13 v14 v15 M0
noncomputable def f_X11_count (c : Nat → Nat) (M : q_MM) (a1 : Int32) : Option (Int32) :=
  if a1 = (0 : Int32) then
    some (M 2 10)
  else
    if a1 = (1 : Int32) then
      (f_Jx4a65c_size_8abf5 (qTX c) (qLX c) (qPX c) M 13).bind fun r3 =>
      some r3
    else
      if a1 = (2 : Int32) then
        (f_Jx4a65c_size_8abf5 (qTX c) (qLX c) (qPX c) M 14).bind fun r5 =>
        some r5
      else
        if a1 = (3 : Int32) then
          (f_Jx4a65c_size_8abf5 (qTX c) (qLX c) (qPX c) M 15).bind fun r7 =>
          some r7
        else
          if a1 = (4 : Int32) then
            (f_Jx4a65c_size_8abf5 (qTX c) (qLX c) (qPX c) M 27).bind fun r9 =>
            some r9
          else
            if a1 = (5 : Int32) then
              some (M 2 12)
            else
              if a1 = (6 : Int32) then
                (f_X1_howMany c M 21).bind fun r12 =>
                some r12
              else
                if a1 = (7 : Int32) then
                  some (M 8 1)
                else
                  if a1 = (8 : Int32) then
                    some (M 9 1)
                  else
                    if a1 = (9 : Int32) then
                      some (M 39 1)
                    else
                      if a1 = (10 : Int32) then
                        some (M 6 1)
                      else
                        if a1 = (11 : Int32) then
                          some (M 7 1)
                        else
                          if a1 = (12 : Int32) then
                            q_ld M 16 4 2 fun v19 =>
                            some v19
                          else
                            if a1 = (13 : Int32) then
                              q_ld M 16 4 3 fun v21 =>
                              some v21
                            else
                              if a1 = (14 : Int32) then
                                q_ld M 16 4 0 fun v23 =>
                                some v23
                              else
                                if a1 = (15 : Int32) then
                                  q_ld M 16 4 1 fun v25 =>
                                  some v25
                                else
                                  some (-1)
noncomputable def f_X11_row (c : Nat → Nat) (M : q_MM) (a1 : Int32) : Option (Int32) :=
  (f_X11_within c M a1 0 ((M 6 1) - 1)).bind fun r1 =>
  if r1 = 0 then
    none
  else
    (f_X4_get c M 6 a1).bind fun r3 =>
    some r3
