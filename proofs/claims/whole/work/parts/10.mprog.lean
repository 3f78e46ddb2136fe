noncomputable def f_X12_thrown (M : q_MM) : Option (Int32) :=
  some (M 5001 0)
noncomputable def f_X12_in (M : q_MM) (a1 : Int64) (a2 : Int64) (a3 : Int64) : Option (Int32) :=
  if (lg_cmp a1 a2) < 0 then
    q_bl 0 (some 0)
  else
    if 0 < (lg_cmp a1 a3) then
      q_bl 0 (some 0)
    else
      q_bl 1 (some 1)
noncomputable def f_X12_refuse (M0 : q_MM) : Option (Int32 × q_MM) :=
  q_let (q_u2 M0 5001 0 1) fun M1 =>
  some (0, M1)
noncomputable def f_X12_truth (M : q_MM) (a1 : Int32) : Option (Int32) :=
  if a1 = 0 then
    some 0
  else
    some 1
noncomputable def f_X12_enters (M0 : q_MM) (a1 : Int32) : Option (q_MM) :=
  q_as M0 5012 64 (M0 5001 1) a1 fun M1 =>
  q_let (q_u2 M1 5001 1 ((M1 5001 1) + 1)) fun M2 =>
  some M2
noncomputable def f_X12_isRoom (M : q_MM) (a1 : Int32) : Option (Int32) :=
  (f_X12_in M (Int32.toInt64 a1) 0 (Int32.toInt64 ((M 5001 3) - 1))).bind fun r1 =>
  q_bl r1 (some r1)
noncomputable def f_X12_isWall (M : q_MM) (a1 : Int32) : Option (Int32) :=
  (f_X12_in M (Int32.toInt64 a1) 0 (Int32.toInt64 ((M 5001 9) - 1))).bind fun r1 =>
  q_bl r1 (some r1)
noncomputable def f_X12_room (M0 : q_MM) : Option (Int32 × q_MM) :=
  q_let (q_u2 M0 5001 0 0) fun M1 =>
  if (M1 5001 3) = (10 : Int32) then
    some ((-1), M1)
  else
    q_let (q_u2 M1 5001 3 ((M1 5001 3) + 1)) fun M3 =>
    some (((M3 5001 3) - 1), M3)
noncomputable def f_X12_door (M0 : q_MM) (a1 : Int32) (a2 : Int32) (a3 : Int32) (a4 : Int32) : Option (Int32 × q_MM) :=
  q_let (q_u2 M0 5001 0 0) fun M1 =>
  (f_X12_isRoom M1 a1).bind fun r2 =>
  if r2 = 0 then
    some ((-1), M1)
  else
    (f_X12_isRoom M1 a2).bind fun r4 =>
    if r4 = 0 then
      some ((-1), M1)
    else
      if a1 = a2 then
        some ((-1), M1)
      else
        (f_X12_in M1 (Int32.toInt64 a3) 50 400).bind fun r7 =>
        if r7 = 0 then
          some ((-1), M1)
        else
          (f_X12_in M1 (Int32.toInt64 a4) 100 600).bind fun r9 =>
          if r9 = 0 then
            some ((-1), M1)
          else
            if (M1 5001 4) = (20 : Int32) then
              some ((-1), M1)
            else
              q_as M1 5015 20 (M1 5001 4) a1 fun M12 =>
              q_as M12 5016 20 (M12 5001 4) a2 fun M13 =>
              q_as M13 5017 20 (M13 5001 4) a3 fun M14 =>
              q_as M14 5018 20 (M14 5001 4) a4 fun M15 =>
              q_let (q_u2 M15 5001 4 ((M15 5001 4) + 1)) fun M16 =>
              some (((M16 5001 4) - 1), M16)
noncomputable def f_X12_wall (M0 : q_MM) (a1 : Int32) (a2 : Int32) (a3 : Int32) (a4 : Int32) : Option (Int32 × q_MM) :=
  q_let (q_u2 M0 5001 0 0) fun M1 =>
  (f_X12_isRoom M1 a1).bind fun r2 =>
  if r2 = 0 then
    some ((-1), M1)
  else
    (f_X12_in M1 (Int32.toInt64 a2) 50 3000).bind fun r4 =>
    if r4 = 0 then
      some ((-1), M1)
    else
      (f_X12_in M1 (Int32.toInt64 a3) 100 900).bind fun r6 =>
      if r6 = 0 then
        some ((-1), M1)
      else
        (f_X12_in M1 (Int32.toInt64 a4) 1 9999).bind fun r8 =>
        if r8 = 0 then
          some ((-1), M1)
        else
          if (M1 5001 9) = (16 : Int32) then
            some ((-1), M1)
          else
            q_as M1 5020 16 (M1 5001 9) a1 fun M11 =>
            q_as M11 5021 16 (M11 5001 9) a2 fun M12 =>
            q_as M12 5022 16 (M12 5001 9) a3 fun M13 =>
            q_as M13 5023 16 (M13 5001 9) a4 fun M14 =>
            q_as M14 5025 16 (M14 5001 9) 1 fun M15 =>
            q_as M15 5026 16 (M15 5001 9) 0 fun M16 =>
            q_let (q_u2 M16 5001 9 ((M16 5001 9) + 1)) fun M17 =>
            some (((M17 5001 9) - 1), M17)
noncomputable def f_X12_lit (M : q_MM) (a1 : Int32) (a2 : Int32) : Option (Int32) :=
  q_ld M 5027 4 2 fun v1 =>
  q_ld M 5027 4 3 fun v2 =>
  (f_X12_in M (Int32.toInt64 a2) (Int32.toInt64 v1) (Int32.toInt64 v2)).bind fun r3 =>
  if r3 = 0 then
    some 0
  else
    q_ld M 5025 16 a1 fun v5 =>
    q_ld M 5026 16 a1 fun v6 =>
    (f_X12_in M (Int32.toInt64 a2) (Int32.toInt64 v5) (Int32.toInt64 v6)).bind fun r7 =>
    if r7 = 0 then
      q_ld M 5024 384 (((24 : Int32) * a1) + a2) fun v9 =>
      some v9
    else
      some 0
noncomputable def b_X12_daylight_4 (M : q_MM) : Nat → Int32 → Int32 → Int32 → Option (Int32)
  | 0, _, _, _ => none
  | nf + 1, x1, x2, x3 =>
    if (24 : Int32) ≤ x3 then
      some x2
    else
      (f_X12_lit M x1 x3).bind fun r2 =>
      q_let (x2 + r2) fun v3 =>
      b_X12_daylight_4 M nf x1 v3 (x3 + 1)
noncomputable def f_X12_daylight (M : q_MM) (a1 : Int32) : Option (Int32) :=
  b_X12_daylight_4 M q_fu a1 0 0
noncomputable def b_X12_peak_4 (M : q_MM) : Nat → Int32 → Int32 → Int32 → Option (Int32)
  | 0, _, _, _ => none
  | nf + 1, x1, x2, x3 =>
    if (24 : Int32) ≤ x3 then
      some x2
    else
      (f_X12_lit M x1 x3).bind fun r2 =>
      q_let (if x2 < r2 then r2 else x2) fun v3 =>
      b_X12_peak_4 M nf x1 v3 (x3 + 1)
noncomputable def f_X12_peak (M : q_MM) (a1 : Int32) : Option (Int32) :=
  b_X12_peak_4 M q_fu a1 0 0
noncomputable def b_X12_light_122 (k52 : Int32 → Int32 → Int32 → Int32 → Int32 → Int32 → q_MM → Option (Int32 × q_MM)) (x1 : Int32) (x2 : Int32) (x3 : Int32) (x5 : Int32) (x6 : Int32) (x7 : Int32) (s0 : Int32) (s1 : Int32) (s2 : Nat) (M : q_MM) : Option (Int32 × q_MM) :=
  q_ck (qTM s2) 1 <|
  q_as M s2 (qLM s2) s1 s0 fun M2 =>
  q_let (x6 + x5) fun v3 =>
  k52 x1 x2 x3 x5 v3 (x7 + 1) M2
noncomputable def b_X12_light_106 (k52 : Int32 → Int32 → Int32 → Int32 → Int32 → Int32 → q_MM → Option (Int32 × q_MM)) (x1 : Int32) (x2 : Int32) (x3 : Int32) (x5 : Int32) (x6 : Int32) (x7 : Int32) (s0 : Int32) (s1 : Nat) (M : q_MM) : Option (Int32 × q_MM) :=
  b_X12_light_122 k52 x1 x2 x3 x5 x6 x7 0 s0 s1 M
noncomputable def b_X12_light_82 (k52 : Int32 → Int32 → Int32 → Int32 → Int32 → Int32 → q_MM → Option (Int32 × q_MM)) (x1 : Int32) (x2 : Int32) (x3 : Int32) (x5 : Int32) (x6 : Int32) (x7 : Int32) (s0 : Int32) (M : q_MM) : Option (Int32 × q_MM) :=
  if x2 = (3 : Int32) then
    b_X12_light_106 k52 x1 x2 x3 x5 x6 x7 (((24 : Int32) * x1) + x7) 5024 M
  else
    if x7 < x3 then
      b_X12_light_122 k52 x1 x2 x3 x5 x6 x7 (if 0 < (if s0 < 9999 then s0 else 9999) then (if s0 < 9999 then s0 else 9999) else 0) (((24 : Int32) * x1) + x7) 5024 M
    else
      b_X12_light_106 k52 x1 x2 x3 x5 x6 x7 (((24 : Int32) * x1) + x7) 5024 M
noncomputable def b_X12_light_52 : Nat → Int32 → Int32 → Int32 → Int32 → Int32 → Int32 → q_MM → Option (Int32 × q_MM)
  | 0, _, _, _, _, _, _, _ => none
  | nf + 1, x1, x2, x3, x5, x6, x7, M =>
    if (24 : Int32) ≤ x7 then
      if x2 = (3 : Int32) then
        some ((-3), M)
      else
        (f_X12_daylight M x1).bind fun r8 =>
        some (r8, M)
    else
      if x2 = 0 then
        b_X12_light_82 (b_X12_light_52 nf) x1 x2 x3 x5 x6 x7 (Int32.toInt8 x6).toInt32 M
      else
        if x2 = (1 : Int32) then
          b_X12_light_82 (b_X12_light_52 nf) x1 x2 x3 x5 x6 x7 (Int32.toInt16 x6).toInt32 M
        else
          b_X12_light_82 (b_X12_light_52 nf) x1 x2 x3 x5 x6 x7 x6 M
noncomputable def b_X12_light_45 (x1 : Int32) (x2 : Int32) (x3 : Int32) (x4 : Int32) (x5 : Int32) (M : q_MM) : Option (Int32 × q_MM) :=
  b_X12_light_52 q_fu x1 x2 x3 x5 x4 0 M
noncomputable def f_X12_light (M0 : q_MM) (a1 : Int32) (a2 : Int32) (a3 : Int32) (a4 : Int32) (a5 : Int32) : Option (Int32 × q_MM) :=
  q_let (q_u2 M0 5001 0 0) fun M11 =>
  (f_X12_isWall M11 a1).bind fun r12 =>
  if r12 = 0 then
    some ((-1), M11)
  else
    (f_X12_in M11 (Int32.toInt64 a2) 0 3).bind fun r14 =>
    if r14 = 0 then
      some ((-1), M11)
    else
      if a3 ≤ (24 : Int32) then
        if a2 = (3 : Int32) then
          b_X12_light_45 a1 a2 a3 a4 a5 M11
        else
          if 0 ≤ a3 then
            b_X12_light_45 a1 a2 a3 a4 a5 M11
          else
            some ((-2), M11)
      else
        some ((-1), M11)
noncomputable def f_X12_blind (M0 : q_MM) (a1 : Int32) (a2 : Int32) (a3 : Int32) : Option (Int32 × q_MM) :=
  q_let (q_u2 M0 5001 0 0) fun M1 =>
  (f_X12_isWall M1 a1).bind fun r2 =>
  if r2 = 0 then
    q_bl 0 (some (0, M1))
  else
    (f_X12_in M1 (Int32.toInt64 a2) 0 23).bind fun r4 =>
    if r4 = 0 then
      q_bl 0 (some (0, M1))
    else
      (f_X12_in M1 (Int32.toInt64 a3) 0 23).bind fun r6 =>
      if r6 = 0 then
        q_bl 0 (some (0, M1))
      else
        q_as M1 5025 16 a1 a2 fun M8 =>
        q_as M8 5026 16 a1 a3 fun M9 =>
        q_bl 1 (some (1, M9))
noncomputable def b_X12_set_89 (x1 : Int32) (x2 : Int32) (s0 : Int32) (M : q_MM) : Option (Int32 × q_MM) :=
  if s0 = 0 then
    some ((-1), M)
  else
    q_ld M 5027 4 x1 fun v2 =>
    q_as M 5027 4 x1 x2 fun M3 =>
    some (v2, M3)
noncomputable def b_X12_set_88 (x1 : Int32) (x2 : Int32) (M : q_MM) : Option (Int32 × q_MM) :=
  b_X12_set_89 x1 x2 0 M
noncomputable def f_X12_set (M0 : q_MM) (a1 : Int32) (a2 : Int32) : Option (Int32 × q_MM) :=
  q_let (q_u2 M0 5001 0 0) fun M4 =>
  if a1 = 0 then
    (f_X12_in M4 (Int32.toInt64 a2) 100 200).bind fun r6 =>
    b_X12_set_89 a1 a2 r6 M4
  else
    if a1 = (1 : Int32) then
      (f_X12_in M4 (Int32.toInt64 a2) 0 99).bind fun r8 =>
      b_X12_set_89 a1 a2 r8 M4
    else
      if a1 = (2 : Int32) then
        q_ld M4 5027 4 3 fun v10 =>
        (f_X12_in M4 (Int32.toInt64 a2) 0 (Int32.toInt64 v10)).bind fun r11 =>
        b_X12_set_89 a1 a2 r11 M4
      else
        if a1 = (3 : Int32) then
          q_ld M4 5027 4 2 fun v13 =>
          (f_X12_in M4 (Int32.toInt64 a2) (Int32.toInt64 v13) 23).bind fun r14 =>
          if r14 = 0 then
            b_X12_set_88 a1 a2 M4
          else
            b_X12_set_89 a1 a2 1 M4
        else
          b_X12_set_88 a1 a2 M4
noncomputable def f_X12_isPicture (M : q_MM) (a1 : Int32) : Option (Int32) :=
  (f_X12_in M (Int32.toInt64 a1) 0 (Int32.toInt64 ((M 5001 18) - 1))).bind fun r1 =>
  q_bl r1 (some r1)
noncomputable def b_X12_picture_102 (x1 : Int32) (x2 : Int32) (x3 : Int32) (x4 : Int32) (x5 : Int32) (x6 : Int32) (x7 : Int32) (s0 : Int32) (M : q_MM) : Option (Int32 × q_MM) :=
  if s0 = 0 then
    some ((-1), M)
  else
    if (M 5001 18) = (24 : Int32) then
      some ((-1), M)
    else
      q_let (M 5001 18) fun v3 =>
      q_as M 5029 24 v3 x1 fun M4 =>
      q_as M4 5030 24 v3 x2 fun M5 =>
      q_as M5 5031 24 v3 x3 fun M6 =>
      q_as M6 5032 24 v3 x4 fun M7 =>
      q_as M7 5033 24 v3 x5 fun M8 =>
      q_as M8 5034 24 v3 x6 fun M9 =>
      q_as M9 5035 24 v3 x7 fun M10 =>
      q_as M10 5036 24 v3 (-1) fun M11 =>
      q_as M11 5037 24 v3 (-1) fun M12 =>
      q_as M12 5038 24 v3 1000000 fun M13 =>
      q_as M13 5039 24 v3 400 fun M14 =>
      q_as M14 5041 24 v3 (-1) fun M15 =>
      q_as M15 5042 24 v3 (-1) fun M16 =>
      q_let (q_u2 M16 5001 18 ((M16 5001 18) + 1)) fun M17 =>
      some (v3, M17)
noncomputable def b_X12_picture_101 (x1 : Int32) (x2 : Int32) (x3 : Int32) (x4 : Int32) (x5 : Int32) (x6 : Int32) (x7 : Int32) (M : q_MM) : Option (Int32 × q_MM) :=
  b_X12_picture_102 x1 x2 x3 x4 x5 x6 x7 0 M
noncomputable def f_X12_picture (M0 : q_MM) (a1 : Int32) (a2 : Int32) (a3 : Int32) (a4 : Int32) (a5 : Int32) (a6 : Int32) (a7 : Int32) : Option (Int32 × q_MM) :=
  q_let (q_u2 M0 5001 0 0) fun M18 =>
  (f_X12_in M18 (Int32.toInt64 a1) 10 800).bind fun r19 =>
  if r19 = 0 then
    b_X12_picture_101 a1 a2 a3 a4 a5 a6 a7 M18
  else
    (f_X12_in M18 (Int32.toInt64 a2) 10 800).bind fun r21 =>
    if r21 = 0 then
      b_X12_picture_101 a1 a2 a3 a4 a5 a6 a7 M18
    else
      (f_X12_in M18 (Int32.toInt64 a3) 1 999).bind fun r23 =>
      if r23 = 0 then
        b_X12_picture_101 a1 a2 a3 a4 a5 a6 a7 M18
      else
        (f_X12_in M18 (Int32.toInt64 a4) 0 7).bind fun r25 =>
        if r25 = 0 then
          b_X12_picture_101 a1 a2 a3 a4 a5 a6 a7 M18
        else
          (f_X12_in M18 (Int32.toInt64 a5) 0 2999).bind fun r27 =>
          if r27 = 0 then
            b_X12_picture_101 a1 a2 a3 a4 a5 a6 a7 M18
          else
            (f_X12_in M18 (Int32.toInt64 a6) 0 999).bind fun r29 =>
            if r29 = 0 then
              b_X12_picture_101 a1 a2 a3 a4 a5 a6 a7 M18
            else
              (f_X12_in M18 (Int32.toInt64 a7) 0 7).bind fun r31 =>
              if r31 = 0 then
                b_X12_picture_101 a1 a2 a3 a4 a5 a6 a7 M18
              else
                b_X12_picture_102 a1 a2 a3 a4 a5 a6 a7 1 M18
noncomputable def b_X12_parts_21 (x1 : Int32) (M : q_MM) : Option (q_MM) :=
  q_as M 5036 24 x1 (-1) fun M1 =>
  some M1
noncomputable def f_X12_parts (M0 : q_MM) (a1 : Int32) : Option (q_MM) :=
  q_ld M0 5036 24 a1 fun v2 =>
  if v2 < 0 then
    b_X12_parts_21 a1 M0
  else
    q_ld M0 5036 24 a1 fun v4 =>
    q_as M0 5036 24 v4 (-1) fun M5 =>
    b_X12_parts_21 a1 M5
noncomputable def b_X12_tell_222 (x5 : Int32) (M : q_MM) : Option (Int32 × q_MM) :=
  some (x5, M)
noncomputable def b_X12_tell_148 (x1 : Int32) (x2 : Int32) (x3 : Int32) (s0 : Int32) (M : q_MM) : Option (Int32 × q_MM) :=
  if x2 = 0 then
    (f_X12_parts M x1).bind fun r2 =>
    if x3 < 0 then
      b_X12_tell_222 s0 r2
    else
      (f_X12_parts r2 x3).bind fun r4 =>
      q_as r4 5036 24 x3 x1 fun M5 =>
      q_as M5 5036 24 x1 x3 fun M6 =>
      b_X12_tell_222 s0 M6
  else
    if x2 = (1 : Int32) then
      q_as M 5037 24 x1 x3 fun M8 =>
      b_X12_tell_222 s0 M8
    else
      if x2 = (2 : Int32) then
        q_as M 5038 24 x1 x3 fun M10 =>
        b_X12_tell_222 s0 M10
      else
        q_as M 5039 24 x1 x3 fun M11 =>
        b_X12_tell_222 s0 M11
noncomputable def b_X12_tell_91 (x1 : Int32) (x2 : Int32) (x3 : Int32) (s0 : Int32) (M : q_MM) : Option (Int32 × q_MM) :=
  if s0 = 0 then
    some ((-2), M)
  else
    if x2 = 0 then
      q_ld M 5036 24 x1 fun v14 =>
      b_X12_tell_148 x1 x2 x3 v14 M
    else
      if x2 = (1 : Int32) then
        q_ld M 5037 24 x1 fun v16 =>
        b_X12_tell_148 x1 x2 x3 v16 M
      else
        if x2 = (2 : Int32) then
          q_ld M 5038 24 x1 fun v18 =>
          b_X12_tell_148 x1 x2 x3 v18 M
        else
          q_ld M 5039 24 x1 fun v19 =>
          b_X12_tell_148 x1 x2 x3 v19 M
noncomputable def b_X12_tell_90 (x1 : Int32) (x2 : Int32) (x3 : Int32) (M : q_MM) : Option (Int32 × q_MM) :=
  b_X12_tell_91 x1 x2 x3 0 M
noncomputable def b_X12_tell_86 (x1 : Int32) (x2 : Int32) (x3 : Int32) (M : q_MM) : Option (Int32 × q_MM) :=
  b_X12_tell_91 x1 x2 x3 1 M
noncomputable def b_X12_tell_80 (x1 : Int32) (x2 : Int32) (x3 : Int32) (s0 : Int64) (s1 : Int64) (s2 : Int64) (M : q_MM) : Option (Int32 × q_MM) :=
  (f_X12_in M s2 s1 s0).bind fun r20 =>
  if r20 = 0 then
    b_X12_tell_90 x1 x2 x3 M
  else
    b_X12_tell_86 x1 x2 x3 M
noncomputable def b_X12_tell_30 (x1 : Int32) (x2 : Int32) (x3 : Int32) (s0 : Int32) (M : q_MM) : Option (Int32 × q_MM) :=
  if s0 = 0 then
    b_X12_tell_90 x1 x2 x3 M
  else
    if (2 : Int32) ≤ x2 then
      if x2 = (2 : Int32) then
        b_X12_tell_80 x1 x2 x3 1000000 0 (Int32.toInt64 x3) M
      else
        b_X12_tell_80 x1 x2 x3 400 0 (Int32.toInt64 x3) M
    else
      if x3 = ((-1) : Int32) then
        b_X12_tell_86 x1 x2 x3 M
      else
        (f_X12_isPicture M x3).bind fun r26 =>
        if r26 = 0 then
          b_X12_tell_90 x1 x2 x3 M
        else
          if x3 = x1 then
            b_X12_tell_90 x1 x2 x3 M
          else
            b_X12_tell_86 x1 x2 x3 M
noncomputable def b_X12_tell_29 (x1 : Int32) (x2 : Int32) (x3 : Int32) (M : q_MM) : Option (Int32 × q_MM) :=
  b_X12_tell_30 x1 x2 x3 0 M
noncomputable def f_X12_tell (M0 : q_MM) (a1 : Int32) (a2 : Int32) (a3 : Int32) : Option (Int32 × q_MM) :=
  q_let (q_u2 M0 5001 0 0) fun M29 =>
  (f_X12_isPicture M29 a1).bind fun r30 =>
  if r30 = 0 then
    b_X12_tell_29 a1 a2 a3 M29
  else
    (f_X12_in M29 (Int32.toInt64 a2) 0 3).bind fun r32 =>
    if r32 = 0 then
      b_X12_tell_29 a1 a2 a3 M29
    else
      b_X12_tell_30 a1 a2 a3 1 M29
noncomputable def f_X12_isOn (M : q_MM) (a1 : Int32) (a2 : Int32) : Option (Int32) :=
  q_ld M 5040 24 a1 fun v1 =>
  if v1 = (1 : Int32) then
    q_ld M 5041 24 a1 fun v3 =>
    if v3 = a2 then
      q_bl 1 (some 1)
    else
      q_bl 0 (some 0)
  else
    q_bl 0 (some 0)
noncomputable def f_X12_isIn (M : q_MM) (a1 : Int32) (a2 : Int32) : Option (Int32) :=
  q_ld M 5040 24 a1 fun v1 =>
  if v1 = (1 : Int32) then
    q_ld M 5041 24 a1 fun v3 =>
    q_ld M 5020 16 v3 fun v4 =>
    if v4 = a2 then
      q_bl 1 (some 1)
    else
      q_bl 0 (some 0)
  else
    q_bl 0 (some 0)
noncomputable def b_X12_beside_123 (M : q_MM) (k6 : Int32 → Int32 → Int32 → Int32 → Int32 → Int32 → Option (Int32)) (x1 : Int32) (x2 : Int32) (x3 : Int32) (x4 : Int32) (x5 : Int32) (x6 : Int32) : Option (Int32) :=
  k6 x1 x2 x3 x4 x5 (x6 + 1)
noncomputable def b_X12_beside_121 (M : q_MM) (k6 : Int32 → Int32 → Int32 → Int32 → Int32 → Int32 → Option (Int32)) (x1 : Int32) (x2 : Int32) (x3 : Int32) (x4 : Int32) (x6 : Int32) (s0 : Int32) : Option (Int32) :=
  b_X12_beside_123 M k6 x1 x2 x3 x4 s0 x6
noncomputable def b_X12_beside_107 (M : q_MM) (k6 : Int32 → Int32 → Int32 → Int32 → Int32 → Int32 → Option (Int32)) (x1 : Int32) (x2 : Int32) (x3 : Int32) (x4 : Int32) (x5 : Int32) (x6 : Int32) (s0 : Int32) : Option (Int32) :=
  if s0 = 0 then
    b_X12_beside_121 M k6 x1 x2 x3 x4 x6 x5
  else
    b_X12_beside_121 M k6 x1 x2 x3 x4 x6 x6
noncomputable def b_X12_beside_106 (M : q_MM) (k6 : Int32 → Int32 → Int32 → Int32 → Int32 → Int32 → Option (Int32)) (x1 : Int32) (x2 : Int32) (x3 : Int32) (x4 : Int32) (x5 : Int32) (x6 : Int32) : Option (Int32) :=
  b_X12_beside_107 M k6 x1 x2 x3 x4 x5 x6 0
noncomputable def b_X12_beside_102 (M : q_MM) (k6 : Int32 → Int32 → Int32 → Int32 → Int32 → Int32 → Option (Int32)) (x1 : Int32) (x2 : Int32) (x3 : Int32) (x4 : Int32) (x5 : Int32) (x6 : Int32) : Option (Int32) :=
  b_X12_beside_107 M k6 x1 x2 x3 x4 x5 x6 1
noncomputable def b_X12_beside_47 (M : q_MM) (k6 : Int32 → Int32 → Int32 → Int32 → Int32 → Int32 → Option (Int32)) (x1 : Int32) (x2 : Int32) (x3 : Int32) (x4 : Int32) (x5 : Int32) (x6 : Int32) (s0 : Int32) : Option (Int32) :=
  if s0 = x4 then
    if x5 < 0 then
      b_X12_beside_102 M k6 x1 x2 x3 x4 x5 x6
    else
      if x4 = 0 then
        q_ld M 5042 24 x6 fun v5 =>
        q_ld M 5042 24 x5 fun v6 =>
        if v6 ≤ v5 then
          b_X12_beside_106 M k6 x1 x2 x3 x4 x5 x6
        else
          b_X12_beside_102 M k6 x1 x2 x3 x4 x5 x6
      else
        q_ld M 5042 24 x6 fun v8 =>
        q_ld M 5042 24 x5 fun v9 =>
        if v8 < v9 then
          b_X12_beside_106 M k6 x1 x2 x3 x4 x5 x6
        else
          b_X12_beside_102 M k6 x1 x2 x3 x4 x5 x6
  else
    b_X12_beside_123 M k6 x1 x2 x3 x4 x5 x6
noncomputable def b_X12_beside_6 (M : q_MM) : Nat → Int32 → Int32 → Int32 → Int32 → Int32 → Int32 → Option (Int32)
  | 0, _, _, _, _, _, _ => none
  | nf + 1, x1, x2, x3, x4, x5, x6 =>
    if (M 5001 18) ≤ x6 then
      some x5
    else
      if x6 = x3 then
        b_X12_beside_123 M (b_X12_beside_6 M nf) x1 x2 x3 x4 x5 x6
      else
        (f_X12_isOn M x6 x1).bind fun r13 =>
        if r13 = 0 then
          b_X12_beside_123 M (b_X12_beside_6 M nf) x1 x2 x3 x4 x5 x6
        else
          q_ld M 5042 24 x6 fun v15 =>
          if x2 < v15 then
            b_X12_beside_47 M (b_X12_beside_6 M nf) x1 x2 x3 x4 x5 x6 0
          else
            b_X12_beside_47 M (b_X12_beside_6 M nf) x1 x2 x3 x4 x5 x6 1
noncomputable def f_X12_beside (M : q_MM) (a1 : Int32) (a2 : Int32) (a3 : Int32) (a4 : Int32) : Option (Int32) :=
  b_X12_beside_6 M q_fu a1 a2 a3 a4 (-1) 0
noncomputable def b_X12_sign_18 : Nat → Int32 → Int32 → q_MM → Option (Int32 × q_MM)
  | 0, _, _, _ => none
  | nf + 1, x1, x2, M =>
    if (4 : Int32) ≤ x2 then
      q_let (q_u2 M 5001 42 ((M 5001 42) + 4)) fun M2 =>
      some ((M2 5001 42), M2)
    else
      q_as M 5051 100 ((M 5001 42) + x2) ((x1 >>> (((24 : Int32) - ((8 : Int32) * x2)) &&& 31)) &&& 255) fun M3 =>
      b_X12_sign_18 nf x1 (x2 + 1) M3
noncomputable def f_X12_sign (M0 : q_MM) (a1 : Int32) : Option (Int32 × q_MM) :=
  q_let (q_u2 M0 5001 0 0) fun M4 =>
  if (M4 5001 42) ≤ (96 : Int32) then
    b_X12_sign_18 q_fu a1 0 M4
  else
    some ((-1), M4)
noncomputable def f_X12_end (M0 : q_MM) (a1 : Int32) : Option (Int32 × q_MM) :=
  q_let (q_u2 M0 5001 0 0) fun M1 =>
  (f_X12_in M1 (Int32.toInt64 a1) 0 (Int32.toInt64 (M1 5001 42))).bind fun r2 =>
  if r2 = 0 then
    q_bl 0 (some (0, M1))
  else
    q_let (q_u2 M1 5001 42 a1) fun M4 =>
    q_bl 1 (some (1, M4))
noncomputable def f_X12_isSign (M : q_MM) (a1 : Int32) (a2 : Int32) : Option (Int32) :=
  if a1 ≤ (M 5001 43) then
    q_bl 0 (some 0)
  else
    q_ld M 5051 100 (M 5001 43) fun v2 =>
    if v2 = a2 then
      q_bl 1 (some 1)
    else
      q_bl 0 (some 0)
noncomputable def f_X12_isOf (M : q_MM) (a1 : Int32) (a2 : Nat) : Option (Int32) :=
  if a1 ≤ (M 5001 43) then
    q_bl 0 (some 0)
  else
    q_ld M 5051 100 (M 5001 43) fun v2 =>
    if v2 ≤ 0 then
      q_bl 0 (some 0)
    else
      q_ld M 5051 100 (M 5001 43) fun v4 =>
      q_sck a2 <|
      (f_J0_indexOf_0f7a4 qTM qLM qPM M a2 v4).bind fun r6 =>
      if r6 < 0 then
        q_bl 0 (some 0)
      else
        q_bl 1 (some 1)
noncomputable def f_X12_marks (M0 : q_MM) (a1 : Int32) : Option (q_MM) :=
  q_ld M0 5050 31 (M0 5001 44) fun v1 =>
  q_as M0 5049 1984 (((64 : Int32) * (M0 5001 44)) + v1) a1 fun M2 =>
  q_ld M2 5050 31 (M2 5001 44) fun v3 =>
  q_as M2 5050 31 (M2 5001 44) (v3 + 1) fun M4 =>
  some M4
noncomputable def f_X12_act (M : q_MM) (a1 : Int32) : Option (Int32) :=
  some (a1 - 200)
noncomputable def b_X12_thing_105 (un : (q_MM → Int32 → Option (Int32 × q_MM))) (sm : (q_MM → Int32 → Option (Int32 × q_MM))) (x2 : Int32) (M : q_MM) : Option (Int32 × q_MM) :=
  (f_X12_marks M x2).bind fun r1 =>
  q_bl 1 (some (1, r1))
noncomputable def b_X12_thing_56 (un : (q_MM → Int32 → Option (Int32 × q_MM))) (sm : (q_MM → Int32 → Option (Int32 × q_MM))) : Nat → Int32 → Int32 → Int32 → q_MM → Option (Int32 × q_MM)
  | 0, _, _, _, _ => none
  | nf + 1, x1, x2, x3, M =>
    if (4 : Int32) ≤ x3 then
      b_X12_thing_105 un sm x2 M
    else
      (f_X12_isOf M x1 902).bind fun r3 =>
      if r3 = 0 then
        b_X12_thing_105 un sm x2 M
      else
        q_ld M 5051 100 (M 5001 43) fun v5 =>
        q_let ((((10 : Int32) * x2) + v5) - 48) fun v6 =>
        q_let (q_u2 M 5001 43 ((M 5001 43) + 1)) fun M7 =>
        b_X12_thing_56 un sm nf x1 v6 (x3 + 1) M7
noncomputable def f_X12_thing (un : (q_MM → Int32 → Option (Int32 × q_MM))) (sm : (q_MM → Int32 → Option (Int32 × q_MM))) (M0 : q_MM) (a1 : Int32) : Option (Int32 × q_MM) :=
  (f_X12_isOf M0 a1 900).bind fun r8 =>
  if r8 = 0 then
    (f_X12_isOf M0 a1 902).bind fun r10 =>
    if r10 = 0 then
      (f_X12_isSign M0 a1 40).bind fun r12 =>
      if r12 = 0 then
        q_bl 0 (some (0, M0))
      else
        q_let (q_u2 M0 5001 43 ((M0 5001 43) + 1)) fun M14 =>
        (sm M14 a1).bind fun r15 =>
        if r15.1 = 0 then
          q_bl 0 (some (0, r15.2))
        else
          (f_X12_isSign r15.2 a1 41).bind fun r17 =>
          if r17 = 0 then
            q_bl 0 (some (0, r15.2))
          else
            q_let (q_u2 r15.2 5001 43 ((r15.2 5001 43) + 1)) fun M19 =>
            q_bl 1 (some (1, M19))
    else
      b_X12_thing_56 un sm q_fu a1 0 0 M0
  else
    q_ld M0 5051 100 (M0 5001 43) fun v20 =>
    (f_J0_indexOf_0f7a4 qTM qLM qPM M0 900 v20).bind fun r21 =>
    (f_X12_marks M0 (((-1) : Int32) - r21)).bind fun r22 =>
    q_let (q_u2 r22 5001 43 ((r22 5001 43) + 1)) fun M23 =>
    q_bl 1 (some (1, M23))
noncomputable def b_X12_unary_66 (un : (q_MM → Int32 → Option (Int32 × q_MM))) (sm : (q_MM → Int32 → Option (Int32 × q_MM))) (x3 : Int32) (M : q_MM) : Option (Int32 × q_MM) :=
  q_bl x3 (some (x3, M))
noncomputable def b_X12_unary_60 (un : (q_MM → Int32 → Option (Int32 × q_MM))) (sm : (q_MM → Int32 → Option (Int32 × q_MM))) (x3 : Int32) (s0 : Int32) (M : q_MM) : Option (Int32 × q_MM) :=
  (f_X12_act M s0).bind fun r1 =>
  (f_X12_marks M r1).bind fun r2 =>
  b_X12_unary_66 un sm x3 r2
noncomputable def f_X12_unary (un : (q_MM → Int32 → Option (Int32 × q_MM))) (sm : (q_MM → Int32 → Option (Int32 × q_MM))) (M0 : q_MM) (a1 : Int32) : Option (Int32 × q_MM) :=
  (f_X12_isOf M0 a1 901).bind fun r3 =>
  if r3 = 0 then
    (f_X12_thing un sm M0 a1).bind fun r5 =>
    q_bl r5.1 (some (r5.1, r5.2))
  else
    q_ld M0 5051 100 (M0 5001 43) fun v6 =>
    q_let (q_u2 M0 5001 43 ((M0 5001 43) + 1)) fun M7 =>
    (un M7 a1).bind fun r8 =>
    q_let r8.1 fun v9 =>
    if v9 = 0 then
      b_X12_unary_66 un sm v9 r8.2
    else
      if v6 = (33 : Int32) then
        b_X12_unary_60 un sm v9 33 r8.2
      else
        b_X12_unary_60 un sm v9 126 r8.2
noncomputable def b_X12_product_58 (un : (q_MM → Int32 → Option (Int32 × q_MM))) (sm : (q_MM → Int32 → Option (Int32 × q_MM))) (k6 : Int32 → Int32 → q_MM → Option (Int32 × q_MM)) (x1 : Int32) (x2 : Int32) (M : q_MM) : Option (Int32 × q_MM) :=
  k6 x1 x2 M
noncomputable def b_X12_product_61 (un : (q_MM → Int32 → Option (Int32 × q_MM))) (sm : (q_MM → Int32 → Option (Int32 × q_MM))) (x2 : Int32) (M : q_MM) : Option (Int32 × q_MM) :=
  q_bl x2 (some (x2, M))
noncomputable def b_X12_product_6 (un : (q_MM → Int32 → Option (Int32 × q_MM))) (sm : (q_MM → Int32 → Option (Int32 × q_MM))) : Nat → Int32 → Int32 → q_MM → Option (Int32 × q_MM)
  | 0, _, _, _ => none
  | nf + 1, x1, x2, M =>
    if x2 = 0 then
      b_X12_product_61 un sm x2 M
    else
      (f_X12_isOf M x1 903).bind fun r2 =>
      if r2 = 0 then
        b_X12_product_61 un sm x2 M
      else
        q_ld M 5051 100 (M 5001 43) fun v4 =>
        q_let (q_u2 M 5001 43 ((M 5001 43) + 1)) fun M5 =>
        (f_X12_unary un sm M5 x1).bind fun r6 =>
        q_let r6.1 fun v7 =>
        if v7 = 0 then
          b_X12_product_58 un sm (b_X12_product_6 un sm nf) x1 v7 r6.2
        else
          (f_X12_act r6.2 v4).bind fun r9 =>
          (f_X12_marks r6.2 r9).bind fun r10 =>
          b_X12_product_58 un sm (b_X12_product_6 un sm nf) x1 v7 r10
noncomputable def f_X12_product (un : (q_MM → Int32 → Option (Int32 × q_MM))) (sm : (q_MM → Int32 → Option (Int32 × q_MM))) (M0 : q_MM) (a1 : Int32) : Option (Int32 × q_MM) :=
  (f_X12_unary un sm M0 a1).bind fun r11 =>
  q_let r11.1 fun v12 =>
  b_X12_product_6 un sm q_fu a1 v12 r11.2
noncomputable def b_X12_total_58 (un : (q_MM → Int32 → Option (Int32 × q_MM))) (sm : (q_MM → Int32 → Option (Int32 × q_MM))) (k6 : Int32 → Int32 → q_MM → Option (Int32 × q_MM)) (x1 : Int32) (x2 : Int32) (M : q_MM) : Option (Int32 × q_MM) :=
  k6 x1 x2 M
noncomputable def b_X12_total_61 (un : (q_MM → Int32 → Option (Int32 × q_MM))) (sm : (q_MM → Int32 → Option (Int32 × q_MM))) (x2 : Int32) (M : q_MM) : Option (Int32 × q_MM) :=
  q_bl x2 (some (x2, M))
noncomputable def b_X12_total_6 (un : (q_MM → Int32 → Option (Int32 × q_MM))) (sm : (q_MM → Int32 → Option (Int32 × q_MM))) : Nat → Int32 → Int32 → q_MM → Option (Int32 × q_MM)
  | 0, _, _, _ => none
  | nf + 1, x1, x2, M =>
    if x2 = 0 then
      b_X12_total_61 un sm x2 M
    else
      (f_X12_isOf M x1 904).bind fun r2 =>
      if r2 = 0 then
        b_X12_total_61 un sm x2 M
      else
        q_ld M 5051 100 (M 5001 43) fun v4 =>
        q_let (q_u2 M 5001 43 ((M 5001 43) + 1)) fun M5 =>
        (f_X12_product un sm M5 x1).bind fun r6 =>
        q_let r6.1 fun v7 =>
        if v7 = 0 then
          b_X12_total_58 un sm (b_X12_total_6 un sm nf) x1 v7 r6.2
        else
          (f_X12_act r6.2 v4).bind fun r9 =>
          (f_X12_marks r6.2 r9).bind fun r10 =>
          b_X12_total_58 un sm (b_X12_total_6 un sm nf) x1 v7 r10
noncomputable def f_X12_total (un : (q_MM → Int32 → Option (Int32 × q_MM))) (sm : (q_MM → Int32 → Option (Int32 × q_MM))) (M0 : q_MM) (a1 : Int32) : Option (Int32 × q_MM) :=
  (f_X12_product un sm M0 a1).bind fun r11 =>
  q_let r11.1 fun v12 =>
  b_X12_total_6 un sm q_fu a1 v12 r11.2
noncomputable def b_X12_compared_58 (un : (q_MM → Int32 → Option (Int32 × q_MM))) (sm : (q_MM → Int32 → Option (Int32 × q_MM))) (x2 : Int32) (M : q_MM) : Option (Int32 × q_MM) :=
  q_bl x2 (some (x2, M))
noncomputable def f_X12_compared (un : (q_MM → Int32 → Option (Int32 × q_MM))) (sm : (q_MM → Int32 → Option (Int32 × q_MM))) (M0 : q_MM) (a1 : Int32) : Option (Int32 × q_MM) :=
  (f_X12_total un sm M0 a1).bind fun r1 =>
  q_let r1.1 fun v2 =>
  if v2 = 0 then
    b_X12_compared_58 un sm v2 r1.2
  else
    (f_X12_isOf r1.2 a1 905).bind fun r4 =>
    if r4 = 0 then
      b_X12_compared_58 un sm v2 r1.2
    else
      q_ld r1.2 5051 100 (r1.2 5001 43) fun v6 =>
      q_let (q_u2 r1.2 5001 43 ((r1.2 5001 43) + 1)) fun M7 =>
      (f_X12_total un sm M7 a1).bind fun r8 =>
      q_let r8.1 fun v9 =>
      if v9 = 0 then
        b_X12_compared_58 un sm v9 r8.2
      else
        (f_X12_act r8.2 v6).bind fun r11 =>
        (f_X12_marks r8.2 r11).bind fun r12 =>
        b_X12_compared_58 un sm v9 r12
noncomputable def b_X12_every_52 (un : (q_MM → Int32 → Option (Int32 × q_MM))) (sm : (q_MM → Int32 → Option (Int32 × q_MM))) (x2 : Int32) (M : q_MM) : Option (Int32 × q_MM) :=
  q_bl x2 (some (x2, M))
noncomputable def b_X12_every_6 (un : (q_MM → Int32 → Option (Int32 × q_MM))) (sm : (q_MM → Int32 → Option (Int32 × q_MM))) : Nat → Int32 → Int32 → q_MM → Option (Int32 × q_MM)
  | 0, _, _, _ => none
  | nf + 1, x1, x2, M =>
    if x2 = 0 then
      b_X12_every_52 un sm x2 M
    else
      (f_X12_isSign M x1 38).bind fun r2 =>
      if r2 = 0 then
        b_X12_every_52 un sm x2 M
      else
        q_let (q_u2 M 5001 43 ((M 5001 43) + 1)) fun M4 =>
        (f_X12_compared un sm M4 x1).bind fun r5 =>
        q_let r5.1 fun v6 =>
        if v6 = 0 then
          b_X12_every_6 un sm nf x1 v6 r5.2
        else
          (f_X12_act r5.2 38).bind fun r8 =>
          (f_X12_marks r5.2 r8).bind fun r9 =>
          b_X12_every_6 un sm nf x1 v6 r9
noncomputable def f_X12_every (un : (q_MM → Int32 → Option (Int32 × q_MM))) (sm : (q_MM → Int32 → Option (Int32 × q_MM))) (M0 : q_MM) (a1 : Int32) : Option (Int32 × q_MM) :=
  (f_X12_compared un sm M0 a1).bind fun r10 =>
  q_let r10.1 fun v11 =>
  b_X12_every_6 un sm q_fu a1 v11 r10.2
noncomputable def b_X12_some_52 (un : (q_MM → Int32 → Option (Int32 × q_MM))) (sm : (q_MM → Int32 → Option (Int32 × q_MM))) (x2 : Int32) (M : q_MM) : Option (Int32 × q_MM) :=
  q_bl x2 (some (x2, M))
noncomputable def b_X12_some_6 (un : (q_MM → Int32 → Option (Int32 × q_MM))) (sm : (q_MM → Int32 → Option (Int32 × q_MM))) : Nat → Int32 → Int32 → q_MM → Option (Int32 × q_MM)
  | 0, _, _, _ => none
  | nf + 1, x1, x2, M =>
    if x2 = 0 then
      b_X12_some_52 un sm x2 M
    else
      (f_X12_isSign M x1 124).bind fun r2 =>
      if r2 = 0 then
        b_X12_some_52 un sm x2 M
      else
        q_let (q_u2 M 5001 43 ((M 5001 43) + 1)) fun M4 =>
        (f_X12_every un sm M4 x1).bind fun r5 =>
        q_let r5.1 fun v6 =>
        if v6 = 0 then
          b_X12_some_6 un sm nf x1 v6 r5.2
        else
          (f_X12_act r5.2 124).bind fun r8 =>
          (f_X12_marks r5.2 r8).bind fun r9 =>
          b_X12_some_6 un sm nf x1 v6 r9
noncomputable def f_X12_some (un : (q_MM → Int32 → Option (Int32 × q_MM))) (sm : (q_MM → Int32 → Option (Int32 × q_MM))) (M0 : q_MM) (a1 : Int32) : Option (Int32 × q_MM) :=
  (f_X12_every un sm M0 a1).bind fun r10 =>
  q_let r10.1 fun v11 =>
  b_X12_some_6 un sm q_fu a1 v11 r10.2
noncomputable def q_rec : Nat → (q_MM → Int32 → Option (Int32 × q_MM)) × (q_MM → Int32 → Option (Int32 × q_MM))
  | 0 => (fun _ _ => none, fun _ _ => none)
  | d + 1 => (f_X12_unary (q_rec d).1 (q_rec d).2, f_X12_some (q_rec d).1 (q_rec d).2)
noncomputable def b_X12_all_46 (x1 : Int32) (x2 : Int32) (M : q_MM) : Option (Int32 × q_MM) :=
  if x2 = 0 then
    q_bl 0 (some (0, M))
  else
    if (M 5001 43) = x1 then
      q_bl 1 (some (1, M))
    else
      q_bl 0 (some (0, M))
noncomputable def b_X12_all_6 : Nat → Int32 → Int32 → q_MM → Option (Int32 × q_MM)
  | 0, _, _, _ => none
  | nf + 1, x1, x2, M =>
    if x2 = 0 then
      b_X12_all_46 x1 x2 M
    else
      (f_X12_isSign M x1 59).bind fun r4 =>
      if r4 = 0 then
        b_X12_all_46 x1 x2 M
      else
        q_let (q_u2 M 5001 43 ((M 5001 43) + 1)) fun M6 =>
        (f_X12_marks M6 (-300)).bind fun r7 =>
        ((q_rec 100).2 r7 x1).bind fun r8 =>
        q_let r8.1 fun v9 =>
        b_X12_all_6 nf x1 v9 r8.2
noncomputable def f_X12_all (M0 : q_MM) (a1 : Int32) : Option (Int32 × q_MM) :=
  ((q_rec 100).2 M0 a1).bind fun r10 =>
  q_let r10.1 fun v11 =>
  b_X12_all_6 q_fu a1 v11 r10.2
noncomputable def b_X12_term_105 (x1 : Int32) (x2 : Int32) (x4 : Int32) (M : q_MM) : Option (Int32 × q_MM) :=
  if x4 = 0 then
    some ((((-1) : Int32) - (M 5001 43)), M)
  else
    q_as M 5047 30 (M 5001 36) x1 fun M2 =>
    q_as M2 5048 30 (M2 5001 36) x2 fun M3 =>
    q_let (q_u2 M3 5001 36 ((M3 5001 36) + 1)) fun M4 =>
    some (((M4 5001 36) - 1), M4)
noncomputable def f_X12_term (M0 : q_MM) (a1 : Int32) (a2 : Int32) : Option (Int32 × q_MM) :=
  q_let (q_u2 M0 5001 0 0) fun M5 =>
  q_let (M5 5001 42) fun v6 =>
  q_let (q_u2 M5 5001 42 0) fun M7 =>
  (f_X12_isPicture M7 a1).bind fun r8 =>
  if r8 = 0 then
    some ((-100), M7)
  else
    (f_X12_in M7 (Int32.toInt64 a2) 0 400).bind fun r10 =>
    if r10 = 0 then
      some ((-100), M7)
    else
      if (M7 5001 36) = (30 : Int32) then
        some ((-100), M7)
      else
        q_let (q_u2 M7 5001 44 (M7 5001 36)) fun M13 =>
        q_as M13 5050 31 (M13 5001 44) 0 fun M14 =>
        q_let (q_u2 M14 5001 43 0) fun M15 =>
        (f_X12_all M15 (if 60 < v6 then 60 else v6)).bind fun r16 =>
        q_let r16.1 fun v17 =>
        if v6 ≤ (60 : Int32) then
          b_X12_term_105 a1 a2 v17 r16.2
        else
          if v17 = 0 then
            if (r16.2 5001 43) < (60 : Int32) then
              b_X12_term_105 a1 a2 v17 r16.2
            else
              some ((-61), r16.2)
          else
            some ((-61), r16.2)
noncomputable def b_X12_inForce_56 (M : q_MM) (k4 : Int32 → Int32 → Int32 → Option (Int32)) (x1 : Int32) (x2 : Int32) (x3 : Int32) : Option (Int32) :=
  k4 x1 x2 (x3 + 1)
noncomputable def b_X12_inForce_54 (M : q_MM) (k4 : Int32 → Int32 → Int32 → Option (Int32)) (x1 : Int32) (x3 : Int32) : Option (Int32) :=
  b_X12_inForce_56 M k4 x1 x3 x3
noncomputable def b_X12_inForce_4 (M : q_MM) : Nat → Int32 → Int32 → Int32 → Option (Int32)
  | 0, _, _, _ => none
  | nf + 1, x1, x2, x3 =>
    if (M 5001 36) ≤ x3 then
      some x2
    else
      q_ld M 5047 30 x3 fun v2 =>
      if v2 = x1 then
        q_ld M 5048 30 x3 fun v4 =>
        if (M 5001 35) < v4 then
          b_X12_inForce_56 M (b_X12_inForce_4 M nf) x1 x2 x3
        else
          if x2 < 0 then
            b_X12_inForce_54 M (b_X12_inForce_4 M nf) x1 x3
          else
            q_ld M 5048 30 x3 fun v7 =>
            q_ld M 5048 30 x2 fun v8 =>
            if v7 < v8 then
              b_X12_inForce_56 M (b_X12_inForce_4 M nf) x1 x2 x3
            else
              b_X12_inForce_54 M (b_X12_inForce_4 M nf) x1 x3
      else
        b_X12_inForce_56 M (b_X12_inForce_4 M nf) x1 x2 x3
noncomputable def f_X12_inForce (M : q_MM) (a1 : Int32) : Option (Int32) :=
  b_X12_inForce_4 M q_fu a1 (-1) 0
noncomputable def f_X12_force (M0 : q_MM) (a1 : Int32) : Option (Int32 × q_MM) :=
  q_let (q_u2 M0 5001 0 0) fun M1 =>
  (f_X12_isPicture M1 a1).bind fun r2 =>
  if r2 = 0 then
    some ((-1), M1)
  else
    (f_X12_inForce M1 a1).bind fun r4 =>
    some (r4, M1)
noncomputable def b_X12_doorsTo_25 (k2 : Int32 → Int32 → q_MM → Option (Int32 × q_MM)) (x1 : Int32) (x2 : Int32) (s0 : Int32) (s1 : Int32) (s2 : Nat) (M : q_MM) : Option (Int32 × q_MM) :=
  q_ck (qTM s2) 1 <|
  q_as M s2 (qLM s2) s1 s0 fun M2 =>
  k2 x1 (x2 + 1) M2
noncomputable def b_X12_doorsTo_44 (k34 : Int32 → Int32 → q_MM → Option (Int32 × q_MM)) : Nat → Int32 → Int32 → Int32 → q_MM → Option (Int32 × q_MM)
  | 0, _, _, _, _ => none
  | nf + 1, x1, x2, x3, M =>
    if (M 5001 4) ≤ x3 then
      k34 x1 (x2 + 1) M
    else
      q_ld M 5015 20 x3 fun v4 =>
      q_ld M 5015 20 x3 fun v5 =>
      q_ld M 5057 10 v5 fun v6 =>
      q_ld M 5016 20 x3 fun v7 =>
      q_ld M 5057 10 v7 fun v8 =>
      q_as M 5057 10 v4 (if (v8 + 1) < v6 then (v8 + 1) else v6) fun M9 =>
      q_ld M9 5016 20 x3 fun v10 =>
      q_ld M9 5016 20 x3 fun v11 =>
      q_ld M9 5057 10 v11 fun v12 =>
      q_ld M9 5015 20 x3 fun v13 =>
      q_ld M9 5057 10 v13 fun v14 =>
      q_as M9 5057 10 v10 (if (v14 + 1) < v12 then (v14 + 1) else v12) fun M15 =>
      b_X12_doorsTo_44 k34 nf x1 x2 (x3 + 1) M15
noncomputable def b_X12_doorsTo_34 : Nat → Int32 → Int32 → q_MM → Option (Int32 × q_MM)
  | 0, _, _, _ => none
  | nf + 1, x1, x2, M =>
    if (M 5001 3) ≤ x2 then
      q_ld M 5057 10 x1 fun v17 =>
      some ((if v17 < 99 then v17 else 99), M)
    else
      b_X12_doorsTo_44 (b_X12_doorsTo_34 nf) q_fu x1 x2 0 M
noncomputable def b_X12_doorsTo_2 : Nat → Int32 → Int32 → q_MM → Option (Int32 × q_MM)
  | 0, _, _, _ => none
  | nf + 1, x1, x2, M =>
    if (M 5001 3) ≤ x2 then
      b_X12_doorsTo_34 q_fu x1 0 M
    else
      if x2 = 0 then
        b_X12_doorsTo_25 (b_X12_doorsTo_2 nf) x1 x2 0 x2 5057 M
      else
        b_X12_doorsTo_25 (b_X12_doorsTo_2 nf) x1 x2 99 x2 5057 M
noncomputable def f_X12_doorsTo (M0 : q_MM) (a1 : Int32) : Option (Int32 × q_MM) :=
  b_X12_doorsTo_2 q_fu a1 0 M0
noncomputable def b_X12_acted_166 (M : q_MM) (s0 : Int32) : Option (Int32) :=
  (f_X12_truth M s0).bind fun r1 =>
  some r1
noncomputable def b_X12_acted_180 (M : q_MM) (s0 : Int32) : Option (Int32) :=
  (f_X12_truth M s0).bind fun r2 =>
  some r2
noncomputable def b_X12_acted_194 (M : q_MM) (s0 : Int32) : Option (Int32) :=
  (f_X12_truth M s0).bind fun r3 =>
  some r3
noncomputable def b_X12_acted_211 (M : q_MM) (s0 : Int32) : Option (Int32) :=
  (f_X12_truth M s0).bind fun r4 =>
  some r4
noncomputable def b_X12_acted_210 (M : q_MM) : Option (Int32) :=
  b_X12_acted_211 M 0
noncomputable def b_X12_acted_228 (M : q_MM) (s0 : Int32) : Option (Int32) :=
  (f_X12_truth M s0).bind fun r5 =>
  some r5
noncomputable def b_X12_acted_223 (M : q_MM) : Option (Int32) :=
  b_X12_acted_228 M 1
noncomputable def f_X12_acted (M : q_MM) (a1 : Int32) (a2 : Int32) (a3 : Int32) : Option (Int32) :=
  if a1 = (37 : Int32) then
    if a3 = 0 then
      some 0
    else
      if (a3 : Int32) = 0 then none else
      some (a2 - a2 / a3 * a3)
  else
    if a1 = (38 : Int32) then
      if a2 = 0 then
        b_X12_acted_210 M
      else
        if a3 = 0 then
          b_X12_acted_210 M
        else
          b_X12_acted_211 M 1
    else
      if a1 = (42 : Int32) then
        some (a2 * a3)
      else
        if a1 = (43 : Int32) then
          some (a2 + a3)
        else
          if a1 = (45 : Int32) then
            some (a2 - a3)
          else
            if a1 = (47 : Int32) then
              if a3 = 0 then
                some 0
              else
                if (a3 : Int32) = 0 then none else
                some (a2 / a3)
            else
              if a1 = (60 : Int32) then
                if a3 ≤ a2 then
                  b_X12_acted_166 M 0
                else
                  b_X12_acted_166 M 1
              else
                if a1 = (61 : Int32) then
                  if a2 = a3 then
                    b_X12_acted_194 M 1
                  else
                    b_X12_acted_194 M 0
                else
                  if a1 = (62 : Int32) then
                    if a2 ≤ a3 then
                      b_X12_acted_180 M 0
                    else
                      b_X12_acted_180 M 1
                  else
                    if a2 = 0 then
                      if a3 = 0 then
                        b_X12_acted_228 M 0
                      else
                        b_X12_acted_223 M
                    else
                      b_X12_acted_223 M
noncomputable def b_X12_worked_184 (k5 : Int32 → Int32 → Int32 → q_MM → Option (Int32 × q_MM)) (x2 : Int32) (x3 : Int32) (x4 : Int32) (M : q_MM) : Option (Int32 × q_MM) :=
  k5 x2 x3 (x4 + 1) M
noncomputable def b_X12_worked_113 (k5 : Int32 → Int32 → Int32 → q_MM → Option (Int32 × q_MM)) (x2 : Int32) (x3 : Int32) (x4 : Int32) (s0 : Int32) (s1 : Int32) (s2 : Nat) (M : q_MM) : Option (Int32 × q_MM) :=
  (f_X12_truth M s0).bind fun r1 =>
  q_ck (qTM s2) 1 <|
  q_as M s2 (qLM s2) s1 r1 fun M3 =>
  b_X12_worked_184 k5 x2 x3 x4 M3
noncomputable def b_X12_worked_190 (x4 : Int32) (M : q_MM) : Option (Int32 × q_MM) :=
  q_let (q_u2 M 5001 48 x4) fun M4 =>
  q_ld M4 5055 64 0 fun v5 =>
  some (v5, M4)
noncomputable def b_X12_worked_5 : Nat → Int32 → Int32 → Int32 → q_MM → Option (Int32 × q_MM)
  | 0, _, _, _, _ => none
  | nf + 1, x2, x3, x4, M =>
    if x2 ≤ x4 then
      b_X12_worked_190 x4 M
    else
      q_ld M 5049 1984 x4 fun v7 =>
      if v7 = ((-300) : Int32) then
        b_X12_worked_190 x4 M
      else
        q_ld M 5049 1984 x4 fun v9 =>
        if v9 < 0 then
          if v9 < ((-12) : Int32) then
            (f_X12_act M 33).bind fun r12 =>
            if v9 = r12 then
              q_ld M 5055 64 (x3 - 1) fun v14 =>
              if v14 = 0 then
                b_X12_worked_113 (b_X12_worked_5 nf) x2 x3 x4 1 (x3 - 1) 5055 M
              else
                b_X12_worked_113 (b_X12_worked_5 nf) x2 x3 x4 0 (x3 - 1) 5055 M
            else
              (f_X12_act M 126).bind fun r16 =>
              if v9 = r16 then
                q_ld M 5055 64 (x3 - 1) fun v18 =>
                q_as M 5055 64 (x3 - 1) (-v18) fun M19 =>
                b_X12_worked_184 (b_X12_worked_5 nf) x2 x3 x4 M19
              else
                q_ld M 5055 64 ((x3 + (-1)) - 1) fun v20 =>
                q_ld M 5055 64 (x3 + (-1)) fun v21 =>
                (f_X12_acted M (v9 + 200) v20 v21).bind fun r22 =>
                q_as M 5055 64 ((x3 + (-1)) - 1) r22 fun M23 =>
                b_X12_worked_184 (b_X12_worked_5 nf) x2 (x3 + (-1)) x4 M23
          else
            q_ld M 5056 12 (((-1) : Int32) - v9) fun v24 =>
            q_as M 5055 64 x3 v24 fun M25 =>
            b_X12_worked_184 (b_X12_worked_5 nf) x2 (x3 + 1) x4 M25
        else
          q_as M 5055 64 x3 v9 fun M26 =>
          b_X12_worked_184 (b_X12_worked_5 nf) x2 (x3 + 1) x4 M26
noncomputable def f_X12_worked (M0 : q_MM) (a1 : Int32) (a2 : Int32) : Option (Int32 × q_MM) :=
  b_X12_worked_5 q_fu a2 0 a1 M0
noncomputable def b_X12_others_36 (M : q_MM) (k5 : Int32 → Int32 → Int32 → Int32 → Option (Int32)) (x1 : Int32) (x2 : Int32) (x4 : Int32) (s0 : Int32) (s1 : Int32) : Option (Int32) :=
  (f_X12_truth M s0).bind fun r1 =>
  q_let (s1 + r1) fun v2 =>
  k5 x1 x2 v2 (x4 + 1)
noncomputable def b_X12_others_35 (M : q_MM) (k5 : Int32 → Int32 → Int32 → Int32 → Option (Int32)) (x1 : Int32) (x2 : Int32) (x4 : Int32) (s0 : Int32) : Option (Int32) :=
  b_X12_others_36 M k5 x1 x2 x4 0 s0
noncomputable def b_X12_others_5 (M : q_MM) : Nat → Int32 → Int32 → Int32 → Int32 → Option (Int32)
  | 0, _, _, _, _ => none
  | nf + 1, x1, x2, x3, x4 =>
    if (M 5001 18) ≤ x4 then
      some x3
    else
      if x4 = x1 then
        b_X12_others_35 M (b_X12_others_5 M nf) x1 x2 x4 x3
      else
        (f_X12_isIn M x4 x2).bind fun r5 =>
        if r5 = 0 then
          b_X12_others_35 M (b_X12_others_5 M nf) x1 x2 x4 x3
        else
          b_X12_others_36 M (b_X12_others_5 M nf) x1 x2 x4 1 x3
noncomputable def f_X12_others (M : q_MM) (a1 : Int32) (a2 : Int32) : Option (Int32) :=
  b_X12_others_5 M q_fu a1 a2 0 0
noncomputable def b_X12_barring_320 : Nat → Int32 → Int32 → Int32 → q_MM → Option (Int32 × q_MM)
  | 0, _, _, _, _ => none
  | nf + 1, x7, x8, x9, M =>
    if x8 ≤ x7 then
      some ((-1), M)
    else
      (f_X12_worked M x7 x8).bind fun r2 =>
      if r2.1 = 0 then
        some (x9, r2.2)
      else
        q_let ((r2.2 5001 48) + 1) fun v4 =>
        b_X12_barring_320 nf v4 x8 (x9 + 1) r2.2
noncomputable def b_X12_barring_215 (x1 : Int32) (x2 : Int32) (x4 : Int32) (s0 : Int32) (s1 : Int32) (s2 : Nat) (M : q_MM) : Option (Int32 × q_MM) :=
  (f_X12_truth M s0).bind fun r5 =>
  q_ck (qTM s2) 1 <|
  q_as M s2 (qLM s2) s1 r5 fun M7 =>
  q_ld M7 5020 16 x2 fun v8 =>
  (f_X12_others M7 x1 v8).bind fun r9 =>
  q_as M7 5056 12 7 r9 fun M10 =>
  q_ld M10 5038 24 x1 fun v11 =>
  q_ld M10 5043 24 x1 fun v12 =>
  q_as M10 5056 12 8 (v11 - v12) fun M13 =>
  q_as M13 5056 12 9 (M13 5001 35) fun M14 =>
  q_ld M14 5033 24 x1 fun v15 =>
  q_as M14 5056 12 10 v15 fun M16 =>
  q_ld M16 5020 16 x2 fun v17 =>
  (f_X12_doorsTo M16 v17).bind fun r18 =>
  q_as r18.2 5056 12 11 r18.1 fun M19 =>
  q_let ((64 : Int32) * x4) fun v20 =>
  q_ld M19 5050 31 x4 fun v21 =>
  q_let (v20 + v21) fun v22 =>
  b_X12_barring_320 q_fu v20 v22 0 M19
noncomputable def b_X12_barring_210 (x1 : Int32) (x2 : Int32) (x4 : Int32) (s0 : Int32) (s1 : Nat) (M : q_MM) : Option (Int32 × q_MM) :=
  b_X12_barring_215 x1 x2 x4 1 s0 s1 M
noncomputable def b_X12_barring_214 (x1 : Int32) (x2 : Int32) (x4 : Int32) (s0 : Int32) (s1 : Nat) (M : q_MM) : Option (Int32 × q_MM) :=
  b_X12_barring_215 x1 x2 x4 0 s0 s1 M
noncomputable def b_X12_barring_168 (x1 : Int32) (x2 : Int32) (x4 : Int32) (x5 : Int32) (x6 : Int32) (s0 : Int32) (s1 : Int32) (s2 : Int32) (s3 : Nat) (M : q_MM) : Option (Int32 × q_MM) :=
  (f_X12_truth M s0).bind fun r23 =>
  q_ck (qTM s3) 1 <|
  q_as M s3 (qLM s3) s2 (s1 + r23) fun M25 =>
  q_ld M25 5036 24 x1 fun v26 =>
  if v26 < 0 then
    b_X12_barring_214 x1 x2 x4 6 5056 M25
  else
    q_ld M25 5036 24 x1 fun v28 =>
    if v28 = x5 then
      b_X12_barring_210 x1 x2 x4 6 5056 M25
    else
      q_ld M25 5036 24 x1 fun v30 =>
      if v30 = x6 then
        b_X12_barring_210 x1 x2 x4 6 5056 M25
      else
        b_X12_barring_214 x1 x2 x4 6 5056 M25
noncomputable def b_X12_barring_167 (x1 : Int32) (x2 : Int32) (x4 : Int32) (x5 : Int32) (x6 : Int32) (s0 : Int32) (s1 : Int32) (s2 : Nat) (M : q_MM) : Option (Int32 × q_MM) :=
  b_X12_barring_168 x1 x2 x4 x5 x6 0 s0 s1 s2 M
noncomputable def b_X12_barring_139 (x1 : Int32) (x2 : Int32) (x4 : Int32) (x5 : Int32) (x6 : Int32) (s0 : Int32) (s1 : Int32) (s2 : Nat) (M : q_MM) : Option (Int32 × q_MM) :=
  (f_X12_truth M s0).bind fun r32 =>
  if x6 < 0 then
    b_X12_barring_167 x1 x2 x4 x5 x6 r32 s1 s2 M
  else
    q_ld M 5032 24 x6 fun v34 =>
    q_ld M 5032 24 x1 fun v35 =>
    if v34 = v35 then
      b_X12_barring_168 x1 x2 x4 x5 x6 1 r32 s1 s2 M
    else
      b_X12_barring_167 x1 x2 x4 x5 x6 r32 s1 s2 M
noncomputable def b_X12_barring_138 (x1 : Int32) (x2 : Int32) (x4 : Int32) (x5 : Int32) (x6 : Int32) (s0 : Int32) (s1 : Nat) (M : q_MM) : Option (Int32 × q_MM) :=
  b_X12_barring_139 x1 x2 x4 x5 x6 0 s0 s1 M
noncomputable def b_X12_barring_103 (x1 : Int32) (x2 : Int32) (x4 : Int32) (x5 : Int32) (x6 : Int32) (s0 : Int32) (s1 : Int32) (s2 : Int32) (s3 : Nat) (M : q_MM) : Option (Int32 × q_MM) :=
  (f_X12_truth M s0).bind fun r37 =>
  q_ck (qTM s3) 1 <|
  q_as M s3 (qLM s3) s2 (s1 + r37) fun M39 =>
  if x5 < 0 then
    b_X12_barring_138 x1 x2 x4 x5 x6 5 5056 M39
  else
    q_ld M39 5032 24 x5 fun v41 =>
    q_ld M39 5032 24 x1 fun v42 =>
    if v41 = v42 then
      b_X12_barring_139 x1 x2 x4 x5 x6 1 5 5056 M39
    else
      b_X12_barring_138 x1 x2 x4 x5 x6 5 5056 M39
noncomputable def b_X12_barring_90 (x1 : Int32) (x2 : Int32) (x4 : Int32) (x5 : Int32) (x6 : Int32) (s0 : Int32) (s1 : Int32) (s2 : Nat) (M : q_MM) : Option (Int32 × q_MM) :=
  (f_X12_truth M s0).bind fun r44 =>
  if x6 < 0 then
    b_X12_barring_103 x1 x2 x4 x5 x6 0 r44 s1 s2 M
  else
    b_X12_barring_103 x1 x2 x4 x5 x6 1 r44 s1 s2 M
noncomputable def f_X12_barring (M0 : q_MM) (a1 : Int32) (a2 : Int32) (a3 : Int32) : Option (Int32 × q_MM) :=
  (f_X12_inForce M0 a1).bind fun r46 =>
  if 0 ≤ r46 then
    (f_X12_beside M0 a2 a3 a1 1).bind fun r48 =>
    (f_X12_beside M0 a2 a3 a1 0).bind fun r49 =>
    q_ld M0 5020 16 a2 fun v50 =>
    q_as M0 5056 12 0 v50 fun M51 =>
    q_as M51 5056 12 1 a2 fun M52 =>
    (f_X12_peak M52 a2).bind fun r53 =>
    q_as M52 5056 12 2 r53 fun M54 =>
    (f_X12_daylight M54 a2).bind fun r55 =>
    q_as M54 5056 12 3 r55 fun M56 =>
    if r48 < 0 then
      b_X12_barring_90 a1 a2 r46 r48 r49 0 4 5056 M56
    else
      b_X12_barring_90 a1 a2 r46 r48 r49 1 4 5056 M56
  else
    some ((-1), M0)
noncomputable def f_X12_why (M0 : q_MM) (a1 : Int32) (a2 : Int32) (a3 : Int32) : Option (Int32 × q_MM) :=
  q_let (q_u2 M0 5001 0 0) fun M1 =>
  (f_X12_isPicture M1 a1).bind fun r2 =>
  if r2 = 0 then
    some ((-1), M1)
  else
    (f_X12_isWall M1 a2).bind fun r4 =>
    if r4 = 0 then
      some ((-1), M1)
    else
      (f_X12_barring M1 a1 a2 a3).bind fun r6 =>
      q_let r6.1 fun v7 =>
      if 0 ≤ v7 then
        some (v7, r6.2)
      else
        some ((-2), r6.2)
noncomputable def f_X12_isHigh (M : q_MM) (a1 : Int32) (a2 : Int32) : Option (Int32) :=
  q_ld M 5030 24 a1 fun v1 =>
  q_ld M 5027 4 0 fun v2 =>
  if ((2 : Int32) * v2) < v1 then
    q_bl 0 (some 0)
  else
    q_ld M 5030 24 a1 fun v4 =>
    q_ld M 5022 16 a2 fun v5 =>
    q_ld M 5027 4 0 fun v6 =>
    if ((2 : Int32) * (v5 - v6)) < v4 then
      q_bl 0 (some 0)
    else
      q_bl 1 (some 1)
noncomputable def b_X12_isFree_114 (M : q_MM) (k6 : Int32 → Int32 → Int32 → Int32 → Int32 → Option (Int32)) (x1 : Int32) (x2 : Int32) (x3 : Int32) (x5 : Int32) (s0 : Int32) : Option (Int32) :=
  k6 x1 x2 x3 s0 (x5 + 1)
noncomputable def b_X12_isFree_113 (M : q_MM) (k6 : Int32 → Int32 → Int32 → Int32 → Int32 → Option (Int32)) (x1 : Int32) (x2 : Int32) (x3 : Int32) (x5 : Int32) : Option (Int32) :=
  b_X12_isFree_114 M k6 x1 x2 x3 x5 0
noncomputable def b_X12_isFree_109 (M : q_MM) (k6 : Int32 → Int32 → Int32 → Int32 → Int32 → Option (Int32)) (x1 : Int32) (x2 : Int32) (x3 : Int32) (x5 : Int32) : Option (Int32) :=
  b_X12_isFree_114 M k6 x1 x2 x3 x5 1
noncomputable def b_X12_isFree_81 (M : q_MM) (k6 : Int32 → Int32 → Int32 → Int32 → Int32 → Option (Int32)) (x1 : Int32) (x2 : Int32) (x3 : Int32) (x4 : Int32) (x5 : Int32) (s0 : Int32) : Option (Int32) :=
  if x4 = 0 then
    b_X12_isFree_113 M k6 x1 x2 x3 x5
  else
    if x5 = x1 then
      b_X12_isFree_109 M k6 x1 x2 x3 x5
    else
      (f_X12_isOn M x5 x2).bind fun r3 =>
      if r3 = 0 then
        b_X12_isFree_109 M k6 x1 x2 x3 x5
      else
        if s0 = 0 then
          b_X12_isFree_113 M k6 x1 x2 x3 x5
        else
          b_X12_isFree_109 M k6 x1 x2 x3 x5
noncomputable def b_X12_isFree_76 (M : q_MM) (k6 : Int32 → Int32 → Int32 → Int32 → Int32 → Option (Int32)) (x1 : Int32) (x2 : Int32) (x3 : Int32) (x4 : Int32) (x5 : Int32) : Option (Int32) :=
  b_X12_isFree_81 M k6 x1 x2 x3 x4 x5 1
noncomputable def b_X12_isFree_6 (M : q_MM) : Nat → Int32 → Int32 → Int32 → Int32 → Int32 → Option (Int32)
  | 0, _, _, _, _, _ => none
  | nf + 1, x1, x2, x3, x4, x5 =>
    if (M 5001 18) ≤ x5 then
      q_bl x4 (some x4)
    else
      q_ld M 5042 24 x5 fun v7 =>
      q_ld M 5029 24 x5 fun v8 =>
      q_ld M 5027 4 1 fun v9 =>
      if (lg_cmp (((Int32.toInt64 v7) + (Int32.toInt64 v8)) + (Int32.toInt64 v9)) (Int32.toInt64 x3)) ≤ 0 then
        b_X12_isFree_76 M (b_X12_isFree_6 M nf) x1 x2 x3 x4 x5
      else
        q_ld M 5029 24 x1 fun v11 =>
        q_ld M 5027 4 1 fun v12 =>
        q_ld M 5042 24 x5 fun v13 =>
        if 0 < (lg_cmp (((Int32.toInt64 x3) + (Int32.toInt64 v11)) + (Int32.toInt64 v12)) (Int32.toInt64 v13)) then
          b_X12_isFree_81 M (b_X12_isFree_6 M nf) x1 x2 x3 x4 x5 0
        else
          b_X12_isFree_76 M (b_X12_isFree_6 M nf) x1 x2 x3 x4 x5
noncomputable def f_X12_isFree (M : q_MM) (a1 : Int32) (a2 : Int32) (a3 : Int32) : Option (Int32) :=
  b_X12_isFree_6 M q_fu a1 a2 a3 1 0
noncomputable def b_X12_weightOn_42 (M : q_MM) (k5 : Int32 → Int32 → Int32 → Int32 → Option (Int32)) (x1 : Int32) (x2 : Int32) (x4 : Int32) (s0 : Int32) (s1 : Int32) : Option (Int32) :=
  q_let (s1 + s0) fun v1 =>
  k5 x1 x2 v1 (x4 + 1)
noncomputable def b_X12_weightOn_41 (M : q_MM) (k5 : Int32 → Int32 → Int32 → Int32 → Option (Int32)) (x1 : Int32) (x2 : Int32) (x4 : Int32) (s0 : Int32) : Option (Int32) :=
  b_X12_weightOn_42 M k5 x1 x2 x4 0 s0
noncomputable def b_X12_weightOn_5 (M : q_MM) : Nat → Int32 → Int32 → Int32 → Int32 → Option (Int32)
  | 0, _, _, _, _ => none
  | nf + 1, x1, x2, x3, x4 =>
    if (M 5001 18) ≤ x4 then
      some x3
    else
      if x4 = x2 then
        b_X12_weightOn_41 M (b_X12_weightOn_5 M nf) x1 x2 x4 x3
      else
        (f_X12_isOn M x4 x1).bind fun r4 =>
        if r4 = 0 then
          b_X12_weightOn_41 M (b_X12_weightOn_5 M nf) x1 x2 x4 x3
        else
          q_ld M 5031 24 x4 fun v6 =>
          b_X12_weightOn_42 M (b_X12_weightOn_5 M nf) x1 x2 x4 v6 x3
noncomputable def f_X12_weightOn (M : q_MM) (a1 : Int32) (a2 : Int32) : Option (Int32) :=
  b_X12_weightOn_5 M q_fu a1 a2 0 0
noncomputable def b_X12_areFoes_20 (M : q_MM) : Option (Int32) :=
  q_bl 1 (some 1)
noncomputable def f_X12_areFoes (M : q_MM) (a1 : Int32) (a2 : Int32) : Option (Int32) :=
  q_ld M 5037 24 a1 fun v1 =>
  if v1 = a2 then
    b_X12_areFoes_20 M
  else
    q_ld M 5037 24 a2 fun v3 =>
    if v3 = a1 then
      b_X12_areFoes_20 M
    else
      q_bl 0 (some 0)
noncomputable def b_X12_wrong_131 (x1 : Int32) (x2 : Int32) (x3 : Int32) (x4 : Int32) (M : q_MM) : Option (Int32 × q_MM) :=
  if x4 ≤ (5 : Int32) then
    some (0, M)
  else
    (f_X12_barring M x1 x2 x3).bind fun r2 =>
    if r2.1 < 0 then
      some (0, r2.2)
    else
      some (6, r2.2)
noncomputable def b_X12_wrong_125 (k77 : Int32 → Int32 → Int32 → Int32 → Int32 → q_MM → Option (Int32 × q_MM)) (x1 : Int32) (x2 : Int32) (x3 : Int32) (x4 : Int32) (x5 : Int32) (M : q_MM) : Option (Int32 × q_MM) :=
  k77 x1 x2 x3 x4 (x5 + 1) M
noncomputable def b_X12_wrong_77 : Nat → Int32 → Int32 → Int32 → Int32 → Int32 → q_MM → Option (Int32 × q_MM)
  | 0, _, _, _, _, _, _ => none
  | nf + 1, x1, x2, x3, x4, x5, M =>
    if (M 5001 18) ≤ x5 then
      b_X12_wrong_131 x1 x2 x3 x4 M
    else
      if x4 ≤ (4 : Int32) then
        b_X12_wrong_131 x1 x2 x3 x4 M
      else
        if x5 = x1 then
          b_X12_wrong_125 (b_X12_wrong_77 nf) x1 x2 x3 x4 x5 M
        else
          q_ld M 5020 16 x2 fun v7 =>
          (f_X12_isIn M x5 v7).bind fun r8 =>
          if r8 = 0 then
            b_X12_wrong_125 (b_X12_wrong_77 nf) x1 x2 x3 x4 x5 M
          else
            (f_X12_areFoes M x5 x1).bind fun r10 =>
            if r10 = 0 then
              b_X12_wrong_125 (b_X12_wrong_77 nf) x1 x2 x3 x4 x5 M
            else
              some (5, M)
noncomputable def f_X12_wrong (M0 : q_MM) (a1 : Int32) (a2 : Int32) (a3 : Int32) (a4 : Int32) : Option (Int32 × q_MM) :=
  if a3 < 0 then
    some (1, M0)
  else
    q_ld M0 5029 24 a1 fun v13 =>
    q_ld M0 5021 16 a2 fun v14 =>
    if (lg_cmp ((Int32.toInt64 a3) + (Int32.toInt64 v13)) (Int32.toInt64 v14)) ≤ 0 then
      (f_X12_isHigh M0 a1 a2).bind fun r16 =>
      if r16 = 0 then
        some (2, M0)
      else
        (f_X12_isFree M0 a1 a2 a3).bind fun r18 =>
        if r18 = 0 then
          some (3, M0)
        else
          (f_X12_weightOn M0 a2 a1).bind fun r20 =>
          q_ld M0 5031 24 a1 fun v21 =>
          q_ld M0 5023 16 a2 fun v22 =>
          if (r20 + v21) ≤ v22 then
            b_X12_wrong_77 q_fu a1 a2 a3 a4 0 M0
          else
            some (4, M0)
    else
      some (1, M0)
noncomputable def f_X12_isHere (M : q_MM) (a1 : Int32) : Option (Int32) :=
  (f_X12_isPicture M a1).bind fun r1 =>
  if r1 = 0 then
    q_bl 0 (some 0)
  else
    q_ld M 5040 24 a1 fun v3 =>
    if (2 : Int32) ≤ v3 then
      q_bl 0 (some 0)
    else
      q_bl 1 (some 1)
noncomputable def f_X12_fits (M0 : q_MM) (a1 : Int32) (a2 : Int32) (a3 : Int32) : Option (Int32 × q_MM) :=
  q_let (q_u2 M0 5001 0 0) fun M1 =>
  (f_X12_isHere M1 a1).bind fun r2 =>
  if r2 = 0 then
    some ((-1), M1)
  else
    (f_X12_isWall M1 a2).bind fun r4 =>
    if r4 = 0 then
      some ((-1), M1)
    else
      (f_X12_wrong M1 a1 a2 a3 6).bind fun r6 =>
      some (r6.1, r6.2)
noncomputable def f_X12_puts (M0 : q_MM) (a1 : Int32) (a2 : Int32) (a3 : Int32) : Option (q_MM) :=
  q_as M0 5040 24 a1 1 fun M1 =>
  q_as M1 5041 24 a1 a2 fun M2 =>
  q_as M2 5042 24 a1 a3 fun M3 =>
  some M3
noncomputable def f_X12_takes (M0 : q_MM) (a1 : Int32) (a2 : Int32) : Option (q_MM) :=
  q_as M0 5040 24 a1 a2 fun M1 =>
  q_as M1 5041 24 a1 (-1) fun M2 =>
  q_as M2 5042 24 a1 (-1) fun M3 =>
  some M3
noncomputable def b_X12_hang_46 (x4 : Int32) (M : q_MM) : Option (Int32 × q_MM) :=
  some (x4, M)
noncomputable def f_X12_hang (M0 : q_MM) (a1 : Int32) (a2 : Int32) (a3 : Int32) : Option (Int32 × q_MM) :=
  q_let (q_u2 M0 5001 0 0) fun M1 =>
  (f_X12_isHere M1 a1).bind fun r2 =>
  if r2 = 0 then
    some ((-1), M1)
  else
    (f_X12_isWall M1 a2).bind fun r4 =>
    if r4 = 0 then
      some ((-1), M1)
    else
      (f_X12_wrong M1 a1 a2 a3 6).bind fun r6 =>
      q_let r6.1 fun v7 =>
      if v7 = 0 then
        (f_X12_puts r6.2 a1 a2 a3).bind fun r9 =>
        b_X12_hang_46 v7 r9
      else
        b_X12_hang_46 v7 r6.2
noncomputable def f_X12_store (M0 : q_MM) (a1 : Int32) : Option (Int32 × q_MM) :=
  q_let (q_u2 M0 5001 0 0) fun M1 =>
  (f_X12_isPicture M1 a1).bind fun r2 =>
  if r2 = 0 then
    q_bl 0 (some (0, M1))
  else
    q_ld M1 5040 24 a1 fun v4 =>
    if v4 = 0 then
      q_bl 0 (some (0, M1))
    else
      q_ld M1 5040 24 a1 fun v6 =>
      if v6 = (3 : Int32) then
        q_bl 0 (some (0, M1))
      else
        (f_X12_takes M1 a1 0).bind fun r8 =>
        q_bl 1 (some (1, r8))
noncomputable def f_X12_send (M0 : q_MM) (a1 : Int32) : Option (Int32 × q_MM) :=
  q_let (q_u2 M0 5001 0 0) fun M1 =>
  (f_X12_isHere M1 a1).bind fun r2 =>
  if r2 = 0 then
    q_bl 0 (some (0, M1))
  else
    (f_X12_takes M1 a1 2).bind fun r4 =>
    q_bl 1 (some (1, r4))
noncomputable def b_X12_at_33 (x1 : Int32) (x2 : Int32) (s0 : Int32) (M : q_MM) : Option (Int32 × q_MM) :=
  if x2 = (0 : Int32) then
    q_ld M 5040 24 x1 fun v2 =>
    some (v2, M)
  else
    if x2 = (1 : Int32) then
      q_ld M 5041 24 x1 fun v4 =>
      some (v4, M)
    else
      if x2 = (2 : Int32) then
        q_ld M 5042 24 x1 fun v6 =>
        some (v6, M)
      else
        if x2 = (3 : Int32) then
          q_ld M 5043 24 x1 fun v8 =>
          some (v8, M)
        else
          if x2 = (4 : Int32) then
            if s0 = 0 then
              some ((-1), M)
            else
              q_ld M 5041 24 x1 fun v11 =>
              q_ld M 5042 24 x1 fun v12 =>
              (f_X12_beside M v11 v12 x1 1).bind fun r13 =>
              some (r13, M)
          else
            if x2 = (5 : Int32) then
              if s0 = 0 then
                some ((-1), M)
              else
                q_ld M 5041 24 x1 fun v16 =>
                q_ld M 5042 24 x1 fun v17 =>
                (f_X12_beside M v16 v17 x1 0).bind fun r18 =>
                some (r18, M)
            else
              if x2 = (6 : Int32) then
                if s0 = 0 then
                  some ((-1), M)
                else
                  q_ld M 5041 24 x1 fun v21 =>
                  q_ld M 5020 16 v21 fun v22 =>
                  some (v22, M)
              else
                if x2 = (7 : Int32) then
                  q_ld M 5036 24 x1 fun v24 =>
                  some (v24, M)
                else
                  (f_X12_refuse M).bind fun r25 =>
                  some (r25.1, r25.2)
noncomputable def f_X12_at (M0 : q_MM) (a1 : Int32) (a2 : Int32) : Option (Int32 × q_MM) :=
  q_let (q_u2 M0 5001 0 0) fun M26 =>
  (f_X12_isPicture M26 a1).bind fun r27 =>
  if r27 = 0 then
    (f_X12_refuse M26).bind fun r29 =>
    some (r29.1, r29.2)
  else
    q_ld M26 5040 24 a1 fun v30 =>
    if v30 = (1 : Int32) then
      b_X12_at_33 a1 a2 1 M26
    else
      b_X12_at_33 a1 a2 0 M26
noncomputable def b_X12_entersWall_102 (k7 : Int32 → Int32 → Int32 → q_MM → Option (q_MM)) (x1 : Int32) (x2 : Int32) (x3 : Int32) (M : q_MM) : Option (q_MM) :=
  k7 x1 x2 (x3 + 1) M
noncomputable def b_X12_entersWall_84 (k7 : Int32 → Int32 → Int32 → q_MM → Option (q_MM)) (x1 : Int32) (x2 : Int32) (x3 : Int32) (x4 : Int32) (M : q_MM) : Option (q_MM) :=
  q_as M 5012 64 x4 x3 fun M1 =>
  q_let (q_u2 M1 5001 1 ((M1 5001 1) + 1)) fun M2 =>
  b_X12_entersWall_102 k7 x1 x2 x3 M2
noncomputable def b_X12_entersWall_33 (k7 : Int32 → Int32 → Int32 → q_MM → Option (q_MM)) : Nat → Int32 → Int32 → Int32 → Int32 → q_MM → Option (q_MM)
  | 0, _, _, _, _, _ => none
  | nf + 1, x1, x2, x3, x4, M =>
    if x4 ≤ x2 then
      b_X12_entersWall_84 k7 x1 x2 x3 x4 M
    else
      q_ld M 5012 64 (x4 - 1) fun v4 =>
      q_ld M 5042 24 v4 fun v5 =>
      q_ld M 5042 24 x3 fun v6 =>
      if v5 ≤ v6 then
        b_X12_entersWall_84 k7 x1 x2 x3 x4 M
      else
        q_ld M 5012 64 (x4 - 1) fun v8 =>
        q_as M 5012 64 x4 v8 fun M9 =>
        b_X12_entersWall_33 k7 nf x1 x2 x3 (x4 + (-1)) M9
noncomputable def b_X12_entersWall_7 : Nat → Int32 → Int32 → Int32 → q_MM → Option (q_MM)
  | 0, _, _, _, _ => none
  | nf + 1, x1, x2, x3, M =>
    if (M 5001 18) ≤ x3 then
      some M
    else
      (f_X12_isOn M x3 x1).bind fun r11 =>
      if r11 = 0 then
        b_X12_entersWall_102 (b_X12_entersWall_7 nf) x1 x2 x3 M
      else
        q_let (M 5001 1) fun v13 =>
        b_X12_entersWall_33 (b_X12_entersWall_7 nf) q_fu x1 x2 x3 v13 M
noncomputable def f_X12_entersWall (M0 : q_MM) (a1 : Int32) : Option (q_MM) :=
  q_let (M0 5001 1) fun v14 =>
  b_X12_entersWall_7 q_fu a1 v14 0 M0
noncomputable def f_X12_on (M0 : q_MM) (a1 : Int32) : Option (Int32 × q_MM) :=
  q_let (q_u2 M0 5001 0 0) fun M1 =>
  (f_X12_isWall M1 a1).bind fun r2 =>
  if r2 = 0 then
    some ((-1), M1)
  else
    q_let (q_u2 M1 5001 1 0) fun M4 =>
    (f_X12_entersWall M4 a1).bind fun r5 =>
    some ((r5 5001 1), r5)
noncomputable def b_X12_places_80 (k22 : Int32 → Int32 → q_MM → Option (Int32 × q_MM)) (x1 : Int32) (x2 : Int32) (M : q_MM) : Option (Int32 × q_MM) :=
  k22 x1 (x2 + 1) M
noncomputable def b_X12_places_60 (k22 : Int32 → Int32 → q_MM → Option (Int32 × q_MM)) (x1 : Int32) (x2 : Int32) (x3 : Int32) (M : q_MM) : Option (Int32 × q_MM) :=
  q_ld M 5021 16 x2 fun v1 =>
  if v1 < x3 then
    b_X12_places_80 k22 x1 x2 M
  else
    (f_X12_enters M x2).bind fun r3 =>
    (f_X12_enters r3 x3).bind fun r4 =>
    b_X12_places_80 k22 x1 x2 r4
noncomputable def b_X12_places_32 (k22 : Int32 → Int32 → q_MM → Option (Int32 × q_MM)) : Nat → Int32 → Int32 → Int32 → q_MM → Option (Int32 × q_MM)
  | 0, _, _, _, _ => none
  | nf + 1, x1, x2, x3, M =>
    q_ld M 5021 16 x2 fun v5 =>
    if v5 < x3 then
      b_X12_places_60 k22 x1 x2 x3 M
    else
      (f_X12_wrong M x1 x2 x3 6).bind fun r7 =>
      if r7.1 = 0 then
        b_X12_places_60 k22 x1 x2 x3 r7.2
      else
        b_X12_places_32 k22 nf x1 x2 (x3 + 1) r7.2
noncomputable def b_X12_places_22 : Nat → Int32 → Int32 → q_MM → Option (Int32 × q_MM)
  | 0, _, _, _ => none
  | nf + 1, x1, x2, M =>
    if (M 5001 9) ≤ x2 then
      if (2 : Int32) = 0 then none else
      some (((M 5001 1) / 2), M)
    else
      b_X12_places_32 (b_X12_places_22 nf) q_fu x1 x2 0 M
noncomputable def f_X12_places (M0 : q_MM) (a1 : Int32) : Option (Int32 × q_MM) :=
  q_let (q_u2 M0 5001 0 0) fun M10 =>
  (f_X12_isHere M10 a1).bind fun r11 =>
  if r11 = 0 then
    some ((-1), M10)
  else
    q_let (q_u2 M10 5001 1 0) fun M13 =>
    b_X12_places_22 q_fu a1 0 M13
noncomputable def b_X12_of_56 (k25 : Int32 → Int32 → Int32 → Int32 → q_MM → Option (Int32 × q_MM)) (x1 : Int32) (x2 : Int32) (x4 : Int32) (s0 : Int32) (s1 : Int32) (M : q_MM) : Option (Int32 × q_MM) :=
  q_let (s1 - s0) fun v1 =>
  k25 x1 x2 v1 (x4 + 1) M
noncomputable def b_X12_of_25 : Nat → Int32 → Int32 → Int32 → Int32 → q_MM → Option (Int32 × q_MM)
  | 0, _, _, _, _, _ => none
  | nf + 1, x1, x2, x3, x4, M =>
    if (M 5001 18) ≤ x4 then
      if x2 = (0 : Int32) then
        (f_X12_daylight M x1).bind fun r4 =>
        some (r4, M)
      else
        if x2 = (1 : Int32) then
          (f_X12_peak M x1).bind fun r6 =>
          some (r6, M)
        else
          if x2 = (2 : Int32) then
            (f_X12_weightOn M x1 (-1)).bind fun r8 =>
            some (r8, M)
          else
            if x2 = (3 : Int32) then
              some (x3, M)
            else
              some ((-1), M)
    else
      (f_X12_isOn M x4 x1).bind fun r10 =>
      if r10 = 0 then
        b_X12_of_56 (b_X12_of_25 nf) x1 x2 x4 0 x3 M
      else
        q_ld M 5029 24 x4 fun v12 =>
        b_X12_of_56 (b_X12_of_25 nf) x1 x2 x4 v12 x3 M
noncomputable def f_X12_of (M0 : q_MM) (a1 : Int32) (a2 : Int32) : Option (Int32 × q_MM) :=
  q_let (q_u2 M0 5001 0 0) fun M13 =>
  (f_X12_isWall M13 a1).bind fun r14 =>
  if r14 = 0 then
    some ((-1), M13)
  else
    q_ld M13 5021 16 a1 fun v16 =>
    b_X12_of_25 q_fu a1 a2 v16 0 M13
noncomputable def b_X12_step_93 (k40 : Int32 → Int32 → Int32 → q_MM → Option (Int32 × q_MM)) (x1 : Int32) (x2 : Int32) (x3 : Int32) (M : q_MM) : Option (Int32 × q_MM) :=
  k40 x1 x2 (x3 + 1) M
noncomputable def b_X12_step_138 (k111 : Int32 → Int32 → Int32 → q_MM → Option (Int32 × q_MM)) (x1 : Int32) (x2 : Int32) (x3 : Int32) (M : q_MM) : Option (Int32 × q_MM) :=
  k111 x1 x2 (x3 + 1) M
noncomputable def b_X12_step_111 (k33 : Int32 → Int32 → q_MM → Option (Int32 × q_MM)) : Nat → Int32 → Int32 → Int32 → q_MM → Option (Int32 × q_MM)
  | 0, _, _, _, _ => none
  | nf + 1, x1, x2, x3, M =>
    if (M 5001 18) ≤ x3 then
      k33 x1 (x2 + 1) M
    else
      q_ld M 5039 24 x3 fun v2 =>
      if (M 5001 35) < v2 then
        b_X12_step_138 (b_X12_step_111 k33 nf) x1 x2 x3 M
      else
        (f_X12_takes M x3 3).bind fun r4 =>
        b_X12_step_138 (b_X12_step_111 k33 nf) x1 x2 x3 r4
noncomputable def b_X12_step_40 (k33 : Int32 → Int32 → q_MM → Option (Int32 × q_MM)) : Nat → Int32 → Int32 → Int32 → q_MM → Option (Int32 × q_MM)
  | 0, _, _, _, _ => none
  | nf + 1, x1, x2, x3, M =>
    if (M 5001 18) ≤ x3 then
      q_let (q_u2 M 5001 35 ((M 5001 35) + 1)) fun M6 =>
      b_X12_step_111 k33 q_fu x1 x2 0 M6
    else
      q_ld M 5040 24 x3 fun v7 =>
      if v7 = (1 : Int32) then
        q_ld M 5043 24 x3 fun v9 =>
        q_ld M 5041 24 x3 fun v10 =>
        (f_X12_daylight M v10).bind fun r11 =>
        q_as M 5043 24 x3 (v9 + r11) fun M12 =>
        q_as M12 5044 9600 (((400 : Int32) * x3) + (M12 5001 35)) (vp_nar .boolean 1) fun M13 =>
        b_X12_step_93 (b_X12_step_40 k33 nf) x1 x2 x3 M13
      else
        b_X12_step_93 (b_X12_step_40 k33 nf) x1 x2 x3 M
noncomputable def b_X12_step_33 : Nat → Int32 → Int32 → q_MM → Option (Int32 × q_MM)
  | 0, _, _, _ => none
  | nf + 1, x1, x2, M =>
    if x1 ≤ x2 then
      some ((M 5001 35), M)
    else
      b_X12_step_40 (b_X12_step_33 nf) q_fu x1 x2 0 M
noncomputable def f_X12_step (M0 : q_MM) (a1 : Int32) : Option (Int32 × q_MM) :=
  q_let (q_u2 M0 5001 0 0) fun M15 =>
  (f_X12_in M15 (Int32.toInt64 a1) 0 100).bind fun r16 =>
  if r16 = 0 then
    some ((-1), M15)
  else
    if ((M15 5001 35) + a1) ≤ (400 : Int32) then
      b_X12_step_33 q_fu a1 0 M15
    else
      some ((-1), M15)
noncomputable def b_X12_fades_79 (k51 : Int32 → Int64 → Int32 → Int32 → q_MM → Option (Int32 × q_MM)) (x1 : Int32) (x4 : Int32) (x5 : Int32) (s0 : Int64) (s1 : Int64) (M : q_MM) : Option (Int32 × q_MM) :=
  q_ld M 5038 24 x1 fun v1 =>
  if (lg_cmp (s1 + s0) (Int32.toInt64 v1)) ≤ 0 then
    k51 x1 (s1 + s0) x4 (x5 + 1) M
  else
    some (x5, M)
noncomputable def b_X12_fades_51 : Nat → Int32 → Int64 → Int32 → Int32 → q_MM → Option (Int32 × q_MM)
  | 0, _, _, _, _, _ => none
  | nf + 1, x1, x2, x4, x5, M =>
    if (400 : Int32) ≤ x5 then
      some ((-1), M)
    else
      q_ld M 5038 24 x1 fun v4 =>
      if (lg_cmp x2 (Int32.toInt64 v4)) ≤ 0 then
        b_X12_fades_79 (b_X12_fades_51 nf) x1 x4 x5 (Int32.toInt64 x4) x2 M
      else
        b_X12_fades_79 (b_X12_fades_51 nf) x1 x4 x5 0 x2 M
noncomputable def f_X12_fades (M0 : q_MM) (a1 : Int32) : Option (Int32 × q_MM) :=
  q_let (q_u2 M0 5001 0 0) fun M6 =>
  (f_X12_isPicture M6 a1).bind fun r7 =>
  if r7 = 0 then
    some ((-1), M6)
  else
    q_ld M6 5040 24 a1 fun v9 =>
    if v9 = (1 : Int32) then
      q_ld M6 5043 24 a1 fun v11 =>
      q_ld M6 5041 24 a1 fun v12 =>
      (f_X12_daylight M6 v12).bind fun r13 =>
      q_let (M6 5001 35) fun v14 =>
      b_X12_fades_51 q_fu a1 (Int32.toInt64 v11) r13 v14 M6
    else
      some ((-1), M6)
noncomputable def b_X12_shown_46 : Nat → Int32 → Int32 → Int32 → Int32 → q_MM → Option (Int32 × q_MM)
  | 0, _, _, _, _, _ => none
  | nf + 1, x1, x3, x4, x5, M =>
    if x3 ≤ x5 then
      some (x4, M)
    else
      q_ld M 5044 9600 (((400 : Int32) * x1) + x5) fun v2 =>
      (f_X12_truth M v2).bind fun r3 =>
      q_let (x4 + r3) fun v4 =>
      b_X12_shown_46 nf x1 x3 v4 (x5 + 1) M
noncomputable def f_X12_shown (M0 : q_MM) (a1 : Int32) (a2 : Int32) (a3 : Int32) : Option (Int32 × q_MM) :=
  q_let (q_u2 M0 5001 0 0) fun M5 =>
  (f_X12_isPicture M5 a1).bind fun r6 =>
  if r6 = 0 then
    some ((-1), M5)
  else
    (f_X12_in M5 (Int32.toInt64 a2) 0 400).bind fun r8 =>
    if r8 = 0 then
      some ((-1), M5)
    else
      (f_X12_in M5 (Int32.toInt64 a3) (Int32.toInt64 a2) 400).bind fun r10 =>
      if r10 = 0 then
        some ((-1), M5)
      else
        b_X12_shown_46 q_fu a1 a3 0 a2 M5
noncomputable def b_X12_owed_98 (k55 : Int32 → Int32 → Int32 → Int32 → Int32 → q_MM → Option (Int32 × q_MM)) (x1 : Int32) (x2 : Int32) (x4 : Int32) (x5 : Int32) (s0 : Int32) (s1 : Int32) (M : q_MM) : Option (Int32 × q_MM) :=
  (f_X12_truth M s0).bind fun r1 =>
  q_let (s1 + r1) fun v2 =>
  k55 x1 x2 v2 x4 (x5 + 1) M
noncomputable def b_X12_owed_109 (k38 : Int32 → Int32 → Int32 → Int32 → q_MM → Option (Int32 × q_MM)) (x1 : Int32) (x2 : Int32) (x3 : Int32) (x4 : Int32) (M : q_MM) : Option (Int32 × q_MM) :=
  k38 x1 x2 x3 (x4 + 1) M
noncomputable def b_X12_owed_55 (k38 : Int32 → Int32 → Int32 → Int32 → q_MM → Option (Int32 × q_MM)) : Nat → Int32 → Int32 → Int32 → Int32 → Int32 → q_MM → Option (Int32 × q_MM)
  | 0, _, _, _, _, _, _ => none
  | nf + 1, x1, x2, x3, x4, x5, M =>
    if (M 5001 35) ≤ x5 then
      b_X12_owed_109 k38 x1 x2 x3 x4 M
    else
      q_ld M 5035 24 x4 fun v4 =>
      if v4 = x1 then
        q_ld M 5044 9600 (((400 : Int32) * x4) + x5) fun v6 =>
        if v6 = 0 then
          b_X12_owed_98 (b_X12_owed_55 k38 nf) x1 x2 x4 x5 1 x3 M
        else
          b_X12_owed_98 (b_X12_owed_55 k38 nf) x1 x2 x4 x5 0 x3 M
      else
        b_X12_owed_109 k38 x1 x2 x3 x4 M
noncomputable def b_X12_owed_38 : Nat → Int32 → Int32 → Int32 → Int32 → q_MM → Option (Int32 × q_MM)
  | 0, _, _, _, _, _ => none
  | nf + 1, x1, x2, x3, x4, M =>
    if (M 5001 18) ≤ x4 then
      some (x3, M)
    else
      q_let ((M 5001 35) - x2) fun v9 =>
      b_X12_owed_55 (b_X12_owed_38 nf) q_fu x1 x2 x3 x4 v9 M
noncomputable def f_X12_owed (M0 : q_MM) (a1 : Int32) (a2 : Int32) : Option (Int32 × q_MM) :=
  q_let (q_u2 M0 5001 0 0) fun M10 =>
  (f_X12_in M10 (Int32.toInt64 a1) 0 7).bind fun r11 =>
  if r11 = 0 then
    some ((-1), M10)
  else
    (f_X12_in M10 (Int32.toInt64 a2) 0 (Int32.toInt64 (M10 5001 35))).bind fun r13 =>
    if r13 = 0 then
      some ((-1), M10)
    else
      b_X12_owed_38 q_fu a1 a2 0 0 M10
noncomputable def b_X12_like_43 (M : q_MM) : Option (Int32 × q_MM) :=
  (f_X12_refuse M).bind fun r1 =>
  some (r1.1, r1.2)
noncomputable def f_X12_like (M0 : q_MM) (a1 : Int32) (a2 : Int32) (a3 : Int32) : Option (Int32 × q_MM) :=
  q_let (q_u2 M0 5001 0 0) fun M2 =>
  (f_X12_in M2 (Int32.toInt64 a1) 0 7).bind fun r3 =>
  if r3 = 0 then
    b_X12_like_43 M2
  else
    (f_X12_in M2 (Int32.toInt64 a2) 0 7).bind fun r5 =>
    if r5 = 0 then
      b_X12_like_43 M2
    else
      (f_X12_in M2 (Int32.toInt64 a3) (-99) 99).bind fun r7 =>
      if r7 = 0 then
        b_X12_like_43 M2
      else
        q_ld M2 5059 64 (((8 : Int32) * a1) + a2) fun v9 =>
        q_as M2 5059 64 (((8 : Int32) * a1) + a2) a3 fun M10 =>
        q_as M10 5059 64 (((8 : Int32) * a2) + a1) a3 fun M11 =>
        some (v9, M11)
noncomputable def f_X12_likes (M : q_MM) (a1 : Int32) (a2 : Int32) : Option (Int32) :=
  q_ld M 5032 24 a1 fun v1 =>
  q_ld M 5032 24 a2 fun v2 =>
  q_ld M 5059 64 (((8 : Int32) * v1) + v2) fun v3 =>
  some v3
noncomputable def b_X12_areBeside_61 (M : q_MM) (k14 : Int32 → Int32 → Int32 → Option (Int32)) (x2 : Int32) (x3 : Int32) (s0 : Int32) : Option (Int32) :=
  k14 s0 x2 (x3 + 1)
noncomputable def b_X12_areBeside_56 (M : q_MM) (k14 : Int32 → Int32 → Int32 → Option (Int32)) (x2 : Int32) (x3 : Int32) : Option (Int32) :=
  b_X12_areBeside_61 M k14 x2 x3 1
noncomputable def b_X12_areBeside_60 (M : q_MM) (k14 : Int32 → Int32 → Int32 → Option (Int32)) (x2 : Int32) (x3 : Int32) : Option (Int32) :=
  b_X12_areBeside_61 M k14 x2 x3 0
noncomputable def b_X12_areBeside_14 (M : q_MM) (k4 : Int32 → Int32 → Option (Int32)) : Nat → Int32 → Int32 → Int32 → Option (Int32)
  | 0, _, _, _ => none
  | nf + 1, x1, x2, x3 =>
    if (M 5001 50) ≤ x3 then
      k4 x1 (x2 + 1)
    else
      if x1 = 0 then
        b_X12_areBeside_60 M (b_X12_areBeside_14 M k4 nf) x2 x3
      else
        q_ld M 5061 7 x2 fun v3 =>
        q_ld M 5036 24 v3 fun v4 =>
        q_ld M 5061 7 x3 fun v5 =>
        if v4 = v5 then
          if (if 0 ≤ (x2 - x3) then (x2 - x3) else 0 - (x2 - x3)) = (1 : Int32) then
            b_X12_areBeside_56 M (b_X12_areBeside_14 M k4 nf) x2 x3
          else
            b_X12_areBeside_60 M (b_X12_areBeside_14 M k4 nf) x2 x3
        else
          b_X12_areBeside_56 M (b_X12_areBeside_14 M k4 nf) x2 x3
noncomputable def b_X12_areBeside_4 (M : q_MM) : Nat → Int32 → Int32 → Option (Int32)
  | 0, _, _ => none
  | nf + 1, x1, x2 =>
    if (M 5001 50) ≤ x2 then
      q_bl x1 (some x1)
    else
      b_X12_areBeside_14 M (b_X12_areBeside_4 M nf) q_fu x1 x2 0
noncomputable def f_X12_areBeside (M : q_MM) : Option (Int32) :=
  b_X12_areBeside_4 M q_fu 1 0
noncomputable def b_X12_permutes_86 (pm : (q_MM → Int32 → Int32 → Option q_MM)) : Nat → Int32 → q_MM → Option (q_MM)
  | 0, _, _ => none
  | nf + 1, x4, M =>
    if (M 5001 50) ≤ x4 then
      some M
    else
      q_ld M 5061 7 x4 fun v2 =>
      q_as M 5062 7 x4 v2 fun M3 =>
      b_X12_permutes_86 pm nf (x4 + 1) M3
noncomputable def b_X12_permutes_73 (pm : (q_MM → Int32 → Int32 → Option q_MM)) (x3 : Int32) (M : q_MM) : Option (q_MM) :=
  q_bl 1 <|
  q_let (q_u2 M 5001 53 1) fun M4 =>
  q_let (q_u2 M4 5001 54 x3) fun M5 =>
  b_X12_permutes_86 pm q_fu 0 M5
noncomputable def b_X12_permutes_13 (pm : (q_MM → Int32 → Int32 → Option q_MM)) : Nat → Int32 → Int32 → q_MM → Option (q_MM)
  | 0, _, _, _ => none
  | nf + 1, x3, x4, M =>
    if (M 5001 50) ≤ x4 then
      (f_X12_areBeside M).bind fun r7 =>
      if r7 = 0 then
        some M
      else
        if (M 5001 53) = 0 then
          b_X12_permutes_73 pm x3 M
        else
          if x3 ≤ (M 5001 54) then
            some M
          else
            b_X12_permutes_73 pm x3 M
    else
      q_ld M 5061 7 (x4 - 1) fun v11 =>
      q_ld M 5061 7 x4 fun v12 =>
      (f_X12_likes M v11 v12).bind fun r13 =>
      q_let (x3 + r13) fun v14 =>
      b_X12_permutes_13 pm nf v14 (x4 + 1) M
noncomputable def b_X12_permutes_156 (pm : (q_MM → Int32 → Int32 → Option q_MM)) (k118 : Int32 → Int32 → Int32 → q_MM → Option (q_MM)) (x1 : Int32) (x2 : Int32) (x3 : Int32) (M : q_MM) : Option (q_MM) :=
  k118 x1 x2 (x3 + 1) M
noncomputable def b_X12_permutes_118 (pm : (q_MM → Int32 → Int32 → Option q_MM)) : Nat → Int32 → Int32 → Int32 → q_MM → Option (q_MM)
  | 0, _, _, _, _ => none
  | nf + 1, x1, x2, x3, M =>
    if (M 5001 18) ≤ x3 then
      some M
    else
      if ((x2 >>> (x3 &&& 31)) &&& 1) = (1 : Int32) then
        q_as M 5061 7 x1 x3 fun M17 =>
        (pm M17 (x1 + 1) (x2 &&& (((1 : Int32) <<< (x3 &&& 31)) ^^^ (-1)))).bind fun r18 =>
        b_X12_permutes_156 pm (b_X12_permutes_118 pm nf) x1 x2 x3 r18
      else
        b_X12_permutes_156 pm (b_X12_permutes_118 pm nf) x1 x2 x3 M
noncomputable def f_X12_permutes (pm : (q_MM → Int32 → Int32 → Option q_MM)) (M0 : q_MM) (a1 : Int32) (a2 : Int32) : Option (q_MM) :=
  if a1 = (M0 5001 50) then
    b_X12_permutes_13 pm q_fu 0 1 M0
  else
    b_X12_permutes_118 pm q_fu a1 a2 0 M0
noncomputable def q_perm : Nat → q_MM → Int32 → Int32 → Option q_MM
  | 0 => fun _ _ _ => none
  | d + 1 => f_X12_permutes (q_perm d)
noncomputable def b_X12_canBe_136 (M : q_MM) (k23 : Int32 → Int32 → Int32 → Int32 → Int32 → Int32 → Option (Int32)) (x1 : Int32) (x2 : Int32) (x3 : Int32) (x4 : Int32) (x5 : Int32) (x6 : Int32) : Option (Int32) :=
  k23 x1 x2 x3 x4 x5 (x6 + 1)
noncomputable def b_X12_canBe_128 (M : q_MM) (k91 : Int32 → Int32 → Int32 → Int32 → Int32 → Int32 → Int32 → Option (Int32)) (x1 : Int32) (x2 : Int32) (x3 : Int32) (x4 : Int32) (x6 : Int32) (x7 : Int32) (s0 : Int32) : Option (Int32) :=
  k91 x1 x2 x3 x4 s0 x6 (x7 + 1)
noncomputable def b_X12_canBe_123 (M : q_MM) (k91 : Int32 → Int32 → Int32 → Int32 → Int32 → Int32 → Int32 → Option (Int32)) (x1 : Int32) (x2 : Int32) (x3 : Int32) (x4 : Int32) (x6 : Int32) (x7 : Int32) : Option (Int32) :=
  b_X12_canBe_128 M k91 x1 x2 x3 x4 x6 x7 1
noncomputable def b_X12_canBe_127 (M : q_MM) (k91 : Int32 → Int32 → Int32 → Int32 → Int32 → Int32 → Int32 → Option (Int32)) (x1 : Int32) (x2 : Int32) (x3 : Int32) (x4 : Int32) (x6 : Int32) (x7 : Int32) : Option (Int32) :=
  b_X12_canBe_128 M k91 x1 x2 x3 x4 x6 x7 0
noncomputable def b_X12_canBe_91 (M : q_MM) (k23 : Int32 → Int32 → Int32 → Int32 → Int32 → Int32 → Option (Int32)) : Nat → Int32 → Int32 → Int32 → Int32 → Int32 → Int32 → Int32 → Option (Int32)
  | 0, _, _, _, _, _, _, _ => none
  | nf + 1, x1, x2, x3, x4, x5, x6, x7 =>
    if x6 ≤ x7 then
      b_X12_canBe_136 M k23 x1 x2 x3 x4 x5 x6
    else
      if x5 = 0 then
        b_X12_canBe_127 M (b_X12_canBe_91 M k23 nf) x1 x2 x3 x4 x6 x7
      else
        if ((x2 >>> (x7 &&& 31)) &&& 1) = 0 then
          b_X12_canBe_123 M (b_X12_canBe_91 M k23 nf) x1 x2 x3 x4 x6 x7
        else
          (f_X12_areFoes M x7 x6).bind fun r4 =>
          if r4 = 0 then
            b_X12_canBe_123 M (b_X12_canBe_91 M k23 nf) x1 x2 x3 x4 x6 x7
          else
            b_X12_canBe_127 M (b_X12_canBe_91 M k23 nf) x1 x2 x3 x4 x6 x7
noncomputable def b_X12_canBe_86 (M : q_MM) (k23 : Int32 → Int32 → Int32 → Int32 → Int32 → Int32 → Option (Int32)) (x1 : Int32) (x2 : Int32) (x3 : Int32) (x4 : Int32) (x6 : Int32) (s0 : Int32) : Option (Int32) :=
  b_X12_canBe_91 M k23 q_fu x1 x2 x3 x4 s0 x6 0
noncomputable def b_X12_canBe_85 (M : q_MM) (k23 : Int32 → Int32 → Int32 → Int32 → Int32 → Int32 → Option (Int32)) (x1 : Int32) (x2 : Int32) (x3 : Int32) (x4 : Int32) (x6 : Int32) : Option (Int32) :=
  b_X12_canBe_86 M k23 x1 x2 x3 x4 x6 0
noncomputable def b_X12_canBe_23 (M : q_MM) : Nat → Int32 → Int32 → Int32 → Int32 → Int32 → Int32 → Option (Int32)
  | 0, _, _, _, _, _, _ => none
  | nf + 1, x1, x2, x3, x4, x5, x6 =>
    if (M 5001 18) ≤ x6 then
      if x5 = 0 then
        q_bl 0 (some 0)
      else
        q_ld M 5021 16 x1 fun v8 =>
        if v8 < x3 then
          q_bl 0 (some 0)
        else
          q_ld M 5023 16 x1 fun v10 =>
          if v10 < x4 then
            q_bl 0 (some 0)
          else
            q_bl 1 (some 1)
    else
      if ((x2 >>> (x6 &&& 31)) &&& 1) = 0 then
        b_X12_canBe_136 M (b_X12_canBe_23 M nf) x1 x2 x3 x4 x5 x6
      else
        q_ld M 5029 24 x6 fun v13 =>
        q_let (x3 + v13) fun v14 =>
        q_ld M 5031 24 x6 fun v15 =>
        q_let (x4 + v15) fun v16 =>
        if x5 = 0 then
          b_X12_canBe_85 M (b_X12_canBe_23 M nf) x1 x2 v14 v16 x6
        else
          (f_X12_isHigh M x6 x1).bind fun r18 =>
          if r18 = 0 then
            b_X12_canBe_85 M (b_X12_canBe_23 M nf) x1 x2 v14 v16 x6
          else
            b_X12_canBe_86 M (b_X12_canBe_23 M nf) x1 x2 v14 v16 x6 1
noncomputable def f_X12_canBe (M : q_MM) (a1 : Int32) (a2 : Int32) : Option (Int32) :=
  q_ld M 5027 4 1 fun v20 =>
  q_let (v20 * ((M 5001 50) - 1)) fun v21 =>
  b_X12_canBe_23 M q_fu a1 a2 v21 0 1 0
noncomputable def b_X12_best_40 (M : q_MM) : Option (Int32 × q_MM) :=
  (f_X12_refuse M).bind fun r1 =>
  some (r1.1, r1.2)
noncomputable def b_X12_best_77 (k47 : Int32 → Int32 → Int32 → q_MM → Option (Int32 × q_MM)) (x1 : Int32) (x2 : Int32) (x3 : Int32) (M : q_MM) : Option (Int32 × q_MM) :=
  k47 x1 x2 (x3 + 1) M
noncomputable def b_X12_best_208 : Nat → Int32 → Int32 → q_MM → Option (Int32 × q_MM)
  | 0, _, _, _ => none
  | nf + 1, x4, x5, M =>
    if (M 5001 50) ≤ x5 then
      some ((M 5001 54), M)
    else
      q_ld M 5062 7 x5 fun v3 =>
      (f_X12_enters M v3).bind fun r4 =>
      q_ld r4 5062 7 x5 fun v5 =>
      q_as r4 5068 7 x5 v5 fun M6 =>
      q_as M6 5069 7 x5 x4 fun M7 =>
      q_ld M7 5062 7 x5 fun v8 =>
      q_ld M7 5029 24 v8 fun v9 =>
      q_ld M7 5027 4 1 fun v10 =>
      q_let (x4 + (v9 + v10)) fun v11 =>
      b_X12_best_208 nf v11 (x5 + 1) M7
noncomputable def b_X12_best_140 : Nat → Int32 → Int32 → Int32 → q_MM → Option (Int32 × q_MM)
  | 0, _, _, _, _ => none
  | nf + 1, x1, x3, x4, M =>
    if (M 5001 50) ≤ x4 then
      q_ld M 5021 16 x1 fun v13 =>
      if (2 : Int32) = 0 then none else
      q_let ((v13 - x3) / 2) fun v14 =>
      q_let (q_u2 M 5001 1 0) fun M15 =>
      q_let (q_u2 M15 5001 55 (M15 5001 50)) fun M16 =>
      q_let (q_u2 M16 5001 56 x1) fun M17 =>
      q_bl 1 <|
      q_let (q_u2 M17 5001 57 1) fun M18 =>
      b_X12_best_208 q_fu v14 0 M18
    else
      q_ld M 5062 7 x4 fun v19 =>
      q_ld M 5029 24 v19 fun v20 =>
      q_let (x3 + v20) fun v21 =>
      b_X12_best_140 nf x1 v21 (x4 + 1) M
noncomputable def b_X12_best_111 (x1 : Int32) (M : q_MM) : Option (Int32 × q_MM) :=
  if (M 5001 53) = 0 then
    (f_X12_refuse M).bind fun r23 =>
    some (r23.1, r23.2)
  else
    q_ld M 5027 4 1 fun v24 =>
    q_let (v24 * ((M 5001 50) - 1)) fun v25 =>
    b_X12_best_140 q_fu x1 v25 0 M
noncomputable def b_X12_best_47 : Nat → Int32 → Int32 → Int32 → q_MM → Option (Int32 × q_MM)
  | 0, _, _, _, _ => none
  | nf + 1, x1, x2, x3, M =>
    if (M 5001 18) ≤ x3 then
      (f_J6_bitCount_0f7a4 qTM qLM qPM M x2).bind fun r27 =>
      q_let (q_u2 M 5001 50 r27) fun M28 =>
      q_bl 0 <|
      q_let (q_u2 M28 5001 53 0) fun M29 =>
      (f_X12_canBe M29 x1 x2).bind fun r30 =>
      if r30 = 0 then
        b_X12_best_111 x1 M29
      else
        (q_perm 10 M29 0 x2).bind fun r32 =>
        b_X12_best_111 x1 r32
    else
      if ((x2 >>> (x3 &&& 31)) &&& 1) = (1 : Int32) then
        (f_X12_isHere M x3).bind fun r34 =>
        if r34 = 0 then
          (f_X12_refuse M).bind fun r36 =>
          some (r36.1, r36.2)
        else
          b_X12_best_77 (b_X12_best_47 nf) x1 x2 x3 M
      else
        b_X12_best_77 (b_X12_best_47 nf) x1 x2 x3 M
noncomputable def f_X12_best (M0 : q_MM) (a1 : Int32) (a2 : Int32) : Option (Int32 × q_MM) :=
  q_let (q_u2 M0 5001 0 0) fun M37 =>
  (f_X12_isWall M37 a1).bind fun r38 =>
  if r38 = 0 then
    b_X12_best_40 M37
  else
    (f_X12_in M37 (Int32.toInt64 a2) 1 (Int32.toInt64 (((1 : Int32) <<< ((M37 5001 18) &&& 31)) - 1))).bind fun r40 =>
    if r40 = 0 then
      b_X12_best_40 M37
    else
      (f_J6_bitCount_0f7a4 qTM qLM qPM M37 a2).bind fun r42 =>
      if r42 ≤ (7 : Int32) then
        b_X12_best_47 q_fu a1 a2 0 M37
      else
        b_X12_best_40 M37
noncomputable def b_X12_lay_73 (k47 : Int32 → q_MM → Option (Int32 × q_MM)) (x1 : Int32) (M : q_MM) : Option (Int32 × q_MM) :=
  k47 (x1 + 1) M
noncomputable def b_X12_lay_81 : Nat → Int32 → q_MM → Option (Int32 × q_MM)
  | 0, _, _ => none
  | nf + 1, x1, M =>
    if (M 5001 55) ≤ x1 then
      q_bl 0 <|
      q_let (q_u2 M 5001 57 0) fun M2 =>
      some ((M2 5001 55), M2)
    else
      q_ld M 5068 7 x1 fun v3 =>
      q_ld M 5069 7 x1 fun v4 =>
      (f_X12_puts M v3 (M 5001 56) v4).bind fun r5 =>
      b_X12_lay_81 nf (x1 + 1) r5
noncomputable def b_X12_lay_47 : Nat → Int32 → q_MM → Option (Int32 × q_MM)
  | 0, _, _ => none
  | nf + 1, x1, M =>
    if (M 5001 18) ≤ x1 then
      b_X12_lay_81 q_fu 0 M
    else
      (f_X12_isOn M x1 (M 5001 56)).bind fun r7 =>
      if r7 = 0 then
        b_X12_lay_73 (b_X12_lay_47 nf) x1 M
      else
        (f_X12_takes M x1 0).bind fun r9 =>
        b_X12_lay_73 (b_X12_lay_47 nf) x1 r9
noncomputable def b_X12_lay_7 : Nat → Int32 → q_MM → Option (Int32 × q_MM)
  | 0, _, _ => none
  | nf + 1, x1, M =>
    if (M 5001 55) ≤ x1 then
      if (M 5001 57) = 0 then
        some ((-1), M)
      else
        b_X12_lay_47 q_fu 0 M
    else
      q_ld M 5068 7 x1 fun v12 =>
      (f_X12_isHere M v12).bind fun r13 =>
      if r13 = 0 then
        some ((-1), M)
      else
        b_X12_lay_7 nf (x1 + 1) M
noncomputable def f_X12_lay (M0 : q_MM) : Option (Int32 × q_MM) :=
  q_let (q_u2 M0 5001 0 0) fun M15 =>
  b_X12_lay_7 q_fu 0 M15
noncomputable def b_X12_isThere_28 (M : q_MM) (k5 : Nat → Int32 → Int32 → Int32 → Int32 → Option (Int32)) (x0 : Nat) (x1 : Int32) (x2 : Int32) (x4 : Int32) (s0 : Int32) : Option (Int32) :=
  k5 x0 x1 x2 s0 (x4 + 1)
noncomputable def b_X12_isThere_23 (M : q_MM) (k5 : Nat → Int32 → Int32 → Int32 → Int32 → Option (Int32)) (x0 : Nat) (x1 : Int32) (x2 : Int32) (x4 : Int32) : Option (Int32) :=
  b_X12_isThere_28 M k5 x0 x1 x2 x4 1
noncomputable def b_X12_isThere_5 (M : q_MM) : Nat → Nat → Int32 → Int32 → Int32 → Int32 → Option (Int32)
  | 0, _, _, _, _, _ => none
  | nf + 1, x0, x1, x2, x3, x4 =>
    if x1 ≤ x4 then
      q_bl x3 (some x3)
    else
      if x3 = 0 then
        q_ck (qTM x0) 1 <|
        q_ld M x0 (qLM x0) x4 fun v4 =>
        if v4 = x2 then
          b_X12_isThere_23 M (b_X12_isThere_5 M nf) x0 x1 x2 x4
        else
          b_X12_isThere_28 M (b_X12_isThere_5 M nf) x0 x1 x2 x4 0
      else
        b_X12_isThere_23 M (b_X12_isThere_5 M nf) x0 x1 x2 x4
noncomputable def f_X12_isThere (M : q_MM) (a1 : Nat) (a2 : Int32) (a3 : Int32) : Option (Int32) :=
  b_X12_isThere_5 M q_fu a1 a2 a3 0 0
noncomputable def f_X12_tale (M0 : q_MM) (a1 : Int32) : Option (Int32 × q_MM) :=
  q_let (q_u2 M0 5001 0 0) fun M1 =>
  (f_X12_isPicture M1 a1).bind fun r2 =>
  if r2 = 0 then
    some ((-1), M1)
  else
    (f_X12_isThere M1 5071 (M1 5001 60) a1).bind fun r4 =>
    if r4 = 0 then
      if (M1 5001 60) = (12 : Int32) then
        some ((-1), M1)
      else
        q_as M1 5071 12 (M1 5001 60) a1 fun M7 =>
        q_let (q_u2 M7 5001 60 ((M7 5001 60) + 1)) fun M8 =>
        some ((M8 5001 60), M8)
    else
      some ((-1), M1)
noncomputable def f_X12_route (M0 : q_MM) (a1 : Int32) : Option (Int32 × q_MM) :=
  q_let (q_u2 M0 5001 0 0) fun M1 =>
  (f_X12_isRoom M1 a1).bind fun r2 =>
  if r2 = 0 then
    some ((-1), M1)
  else
    (f_X12_isThere M1 5073 (M1 5001 62) a1).bind fun r4 =>
    if r4 = 0 then
      if (M1 5001 62) = (10 : Int32) then
        some ((-1), M1)
      else
        q_as M1 5073 10 (M1 5001 62) a1 fun M7 =>
        q_let (q_u2 M7 5001 62 ((M7 5001 62) + 1)) fun M8 =>
        some ((M8 5001 62), M8)
    else
      some ((-1), M1)
noncomputable def b_X12_breaks_165 (k78 : Int32 → Int32 → Int32 → Int32 → q_MM → Option (Int32 × q_MM)) (x1 : Int32) (x3 : Int32) (x4 : Int32) (s0 : Int32) (s1 : Int32) (M : q_MM) : Option (Int32 × q_MM) :=
  (f_X12_truth M s0).bind fun r1 =>
  q_let (s1 + r1) fun v2 =>
  k78 x1 v2 x3 (x4 + 1) M
noncomputable def b_X12_breaks_142 (k98 : Int32 → Int32 → Int32 → Int32 → Int32 → q_MM → Option (Int32 × q_MM)) (x1 : Int32) (x2 : Int32) (x3 : Int32) (x4 : Int32) (x5 : Int32) (s0 : Int32) (s1 : Int32) (s2 : Nat) (M : q_MM) : Option (Int32 × q_MM) :=
  q_ck (qTM s2) 1 <|
  q_as M s2 (qLM s2) s1 s0 fun M4 =>
  k98 x1 x2 x3 x4 (x5 + 1) M4
noncomputable def b_X12_breaks_98 (k78 : Int32 → Int32 → Int32 → Int32 → q_MM → Option (Int32 × q_MM)) : Nat → Int32 → Int32 → Int32 → Int32 → Int32 → q_MM → Option (Int32 × q_MM)
  | 0, _, _, _, _, _, _ => none
  | nf + 1, x1, x2, x3, x4, x5, M =>
    if (M 5001 1) ≤ x5 then
      q_ld M 5074 12 x4 fun v6 =>
      if v6 < 0 then
        b_X12_breaks_165 k78 x1 x3 x4 0 x2 M
      else
        b_X12_breaks_165 k78 x1 x3 x4 1 x2 M
    else
      q_ld M 5012 64 x5 fun v8 =>
      q_ld M 5071 12 x4 fun v9 =>
      if v8 = v9 then
        b_X12_breaks_142 (b_X12_breaks_98 k78 nf) x1 x2 x3 x4 x5 x5 x4 5074 M
      else
        q_ld M 5074 12 x4 fun v11 =>
        b_X12_breaks_142 (b_X12_breaks_98 k78 nf) x1 x2 x3 x4 x5 v11 x4 5074 M
noncomputable def b_X12_breaks_366 (k336 : Int32 → Int32 → Int32 → Int32 → q_MM → Option (Int32 × q_MM)) (x1 : Int32) (x2 : Int32) (x3 : Int32) (x4 : Int32) (M : q_MM) : Option (Int32 × q_MM) :=
  k336 x1 x2 x3 (x4 + 1) M
noncomputable def b_X12_breaks_336 : Nat → Int32 → Int32 → Int32 → Int32 → q_MM → Option (Int32 × q_MM)
  | 0, _, _, _, _, _ => none
  | nf + 1, x1, x2, x3, x4, M =>
    if (M 5001 60) ≤ x4 then
      some ((x2 - x1), M)
    else
      if ((x3 >>> (x4 &&& 31)) &&& 1) = (1 : Int32) then
        q_ld M 5071 12 x4 fun v14 =>
        (f_X12_enters M v14).bind fun r15 =>
        b_X12_breaks_366 (b_X12_breaks_336 nf) x1 x2 x3 x4 r15
      else
        b_X12_breaks_366 (b_X12_breaks_336 nf) x1 x2 x3 x4 M
noncomputable def b_X12_breaks_322 (k179 : Int32 → Int32 → Int32 → Int32 → q_MM → Option (Int32 × q_MM)) (x1 : Int32) (x2 : Int32) (x3 : Int32) (x4 : Int32) (M : q_MM) : Option (Int32 × q_MM) :=
  k179 x1 x2 x3 (x4 + 1) M
noncomputable def b_X12_breaks_316 (k179 : Int32 → Int32 → Int32 → Int32 → q_MM → Option (Int32 × q_MM)) (x2 : Int32) (x4 : Int32) (x7 : Int32) (M : q_MM) : Option (Int32 × q_MM) :=
  b_X12_breaks_322 k179 x7 x2 x4 x4 M
noncomputable def b_X12_breaks_292 (k179 : Int32 → Int32 → Int32 → Int32 → q_MM → Option (Int32 × q_MM)) (x1 : Int32) (x2 : Int32) (x3 : Int32) (x4 : Int32) (x6 : Int32) (x7 : Int32) (s0 : Int32) (M : q_MM) : Option (Int32 × q_MM) :=
  if x6 = 0 then
    b_X12_breaks_322 k179 x1 x2 x3 x4 M
  else
    if x1 < x7 then
      b_X12_breaks_316 k179 x2 x4 x7 M
    else
      if x7 = x1 then
        if s0 = 0 then
          b_X12_breaks_322 k179 x1 x2 x3 x4 M
        else
          b_X12_breaks_316 k179 x2 x4 x7 M
      else
        b_X12_breaks_322 k179 x1 x2 x3 x4 M
noncomputable def b_X12_breaks_291 (k179 : Int32 → Int32 → Int32 → Int32 → q_MM → Option (Int32 × q_MM)) (x1 : Int32) (x2 : Int32) (x3 : Int32) (x4 : Int32) (x6 : Int32) (x7 : Int32) (M : q_MM) : Option (Int32 × q_MM) :=
  b_X12_breaks_292 k179 x1 x2 x3 x4 x6 x7 0 M
noncomputable def b_X12_breaks_252 (k199 : Int32 → Int32 → Int32 → Int32 → Int32 → Int32 → Int32 → q_MM → Option (Int32 × q_MM)) (x1 : Int32) (x2 : Int32) (x3 : Int32) (x4 : Int32) (x5 : Int32) (x6 : Int32) (x7 : Int32) (M : q_MM) : Option (Int32 × q_MM) :=
  k199 x1 x2 x3 x4 x5 x6 (x7 + 1) M
noncomputable def b_X12_breaks_241 (k199 : Int32 → Int32 → Int32 → Int32 → Int32 → Int32 → Int32 → q_MM → Option (Int32 × q_MM)) (x1 : Int32) (x2 : Int32) (x3 : Int32) (x4 : Int32) (x7 : Int32) (s0 : Int32) (M : q_MM) : Option (Int32 × q_MM) :=
  q_ld M 5074 12 x7 fun v20 =>
  b_X12_breaks_252 k199 x1 x2 x3 x4 v20 s0 x7 M
noncomputable def b_X12_breaks_240 (k199 : Int32 → Int32 → Int32 → Int32 → Int32 → Int32 → Int32 → q_MM → Option (Int32 × q_MM)) (x1 : Int32) (x2 : Int32) (x3 : Int32) (x4 : Int32) (x7 : Int32) (M : q_MM) : Option (Int32 × q_MM) :=
  b_X12_breaks_241 k199 x1 x2 x3 x4 x7 0 M
noncomputable def b_X12_breaks_199 (k179 : Int32 → Int32 → Int32 → Int32 → q_MM → Option (Int32 × q_MM)) : Nat → Int32 → Int32 → Int32 → Int32 → Int32 → Int32 → Int32 → q_MM → Option (Int32 × q_MM)
  | 0, _, _, _, _, _, _, _, _ => none
  | nf + 1, x1, x2, x3, x4, x5, x6, x7, M =>
    if (M 5001 60) ≤ x7 then
      (f_J6_bitCount_0f7a4 qTM qLM qPM M x4).bind fun r22 =>
      q_let (x4 ^^^ x3) fun v23 =>
      if v23 = 0 then
        b_X12_breaks_291 k179 x1 x2 x3 x4 x6 r22 M
      else
        (f_J6_lowestOneBit_0f7a4 qTM qLM qPM M v23).bind fun r25 =>
        if (x4 &&& r25) = 0 then
          b_X12_breaks_291 k179 x1 x2 x3 x4 x6 r22 M
        else
          b_X12_breaks_292 k179 x1 x2 x3 x4 x6 r22 1 M
    else
      if ((x4 >>> (x7 &&& 31)) &&& 1) = (1 : Int32) then
        if x6 = 0 then
          b_X12_breaks_240 (b_X12_breaks_199 k179 nf) x1 x2 x3 x4 x7 M
        else
          q_ld M 5074 12 x7 fun v29 =>
          if v29 ≤ x5 then
            b_X12_breaks_240 (b_X12_breaks_199 k179 nf) x1 x2 x3 x4 x7 M
          else
            b_X12_breaks_241 (b_X12_breaks_199 k179 nf) x1 x2 x3 x4 x7 1 M
      else
        b_X12_breaks_252 (b_X12_breaks_199 k179 nf) x1 x2 x3 x4 x5 x6 x7 M
noncomputable def b_X12_breaks_179 : Nat → Int32 → Int32 → Int32 → Int32 → q_MM → Option (Int32 × q_MM)
  | 0, _, _, _, _, _ => none
  | nf + 1, x1, x2, x3, x4, M =>
    if ((1 : Int32) <<< ((M 5001 60) &&& 31)) ≤ x4 then
      q_let (q_u2 M 5001 1 0) fun M32 =>
      b_X12_breaks_336 q_fu x1 x2 x3 0 M32
    else
      b_X12_breaks_199 (b_X12_breaks_179 nf) q_fu x1 x2 x3 x4 (-1) 1 0 M
noncomputable def b_X12_breaks_78 : Nat → Int32 → Int32 → Int32 → Int32 → q_MM → Option (Int32 × q_MM)
  | 0, _, _, _, _, _ => none
  | nf + 1, x1, x2, x3, x4, M =>
    if (M 5001 60) ≤ x4 then
      b_X12_breaks_179 q_fu x1 x2 x3 0 M
    else
      q_as M 5074 12 x4 (-1) fun M34 =>
      b_X12_breaks_98 (b_X12_breaks_78 nf) q_fu x1 x2 x3 x4 0 M34
noncomputable def b_X12_breaks_63 (k31 : Int32 → Int32 → Int32 → Int32 → Int32 → q_MM → Option (Int32 × q_MM)) (x1 : Int32) (x2 : Int32) (x3 : Int32) (x4 : Int32) (x5 : Int32) (M : q_MM) : Option (Int32 × q_MM) :=
  k31 x1 x2 x3 x4 (x5 + 1) M
noncomputable def b_X12_breaks_31 (k19 : Int32 → Int32 → Int32 → Int32 → q_MM → Option (Int32 × q_MM)) : Nat → Int32 → Int32 → Int32 → Int32 → Int32 → q_MM → Option (Int32 × q_MM)
  | 0, _, _, _, _, _, _ => none
  | nf + 1, x1, x2, x3, x4, x5, M =>
    if (M 5001 9) ≤ x5 then
      k19 x1 x2 x3 (x4 + 1) M
    else
      q_ld M 5020 16 x5 fun v36 =>
      q_ld M 5073 10 x4 fun v37 =>
      if v36 = v37 then
        (f_X12_entersWall M x5).bind fun r39 =>
        b_X12_breaks_63 (b_X12_breaks_31 k19 nf) x1 x2 x3 x4 x5 r39
      else
        b_X12_breaks_63 (b_X12_breaks_31 k19 nf) x1 x2 x3 x4 x5 M
noncomputable def b_X12_breaks_19 : Nat → Int32 → Int32 → Int32 → Int32 → q_MM → Option (Int32 × q_MM)
  | 0, _, _, _, _, _ => none
  | nf + 1, x1, x2, x3, x4, M =>
    if (M 5001 62) ≤ x4 then
      b_X12_breaks_78 q_fu x1 x2 x3 0 M
    else
      b_X12_breaks_31 (b_X12_breaks_19 nf) q_fu x1 x2 x3 x4 0 M
noncomputable def f_X12_breaks (M0 : q_MM) : Option (Int32 × q_MM) :=
  q_let (q_u2 M0 5001 0 0) fun M41 =>
  q_let (q_u2 M41 5001 1 0) fun M42 =>
  b_X12_breaks_19 q_fu 0 0 0 0 M42
noncomputable def f_X12_shut (M0 : q_MM) (a1 : Int32) (a2 : Int32) : Option (Int32 × q_MM) :=
  q_let (q_u2 M0 5001 0 0) fun M1 =>
  (f_X12_isRoom M1 a1).bind fun r2 =>
  if r2 = 0 then
    q_bl 0 (some (0, M1))
  else
    q_as M1 5075 10 a1 (vp_nar .boolean a2) fun M4 =>
    q_bl 1 (some (1, M4))
noncomputable def b_X12_passes_70 (M : q_MM) : Option (Int32) :=
  q_bl 1 (some 1)
noncomputable def b_X12_passes_35 (M : q_MM) (x1 : Int32) (x2 : Int32) (s0 : Int32) : Option (Int32) :=
  if s0 = 0 then
    q_ld M 5029 24 x1 fun v2 =>
    q_ld M 5018 20 x2 fun v3 =>
    if v3 < v2 then
      q_bl 0 (some 0)
    else
      q_ld M 5030 24 x1 fun v5 =>
      q_ld M 5017 20 x2 fun v6 =>
      if v6 < v5 then
        q_bl 0 (some 0)
      else
        b_X12_passes_70 M
  else
    b_X12_passes_70 M
noncomputable def b_X12_passes_34 (M : q_MM) (x1 : Int32) (x2 : Int32) : Option (Int32) :=
  b_X12_passes_35 M x1 x2 0
noncomputable def f_X12_passes (M : q_MM) (a1 : Int32) (a2 : Int32) : Option (Int32) :=
  q_ld M 5029 24 a1 fun v8 =>
  q_ld M 5017 20 a2 fun v9 =>
  if v9 < v8 then
    b_X12_passes_34 M a1 a2
  else
    q_ld M 5030 24 a1 fun v11 =>
    q_ld M 5018 20 a2 fun v12 =>
    if v12 < v11 then
      b_X12_passes_34 M a1 a2
    else
      b_X12_passes_35 M a1 a2 1
noncomputable def b_X12_spreads_40 (k3 : Int32 → Int32 → Int32 → Int32 → q_MM → Option (q_MM)) (x1 : Int32) (x2 : Int32) (x3 : Int32) (x4 : Int32) (s0 : Int32) (s1 : Int32) (s2 : Nat) (M : q_MM) : Option (q_MM) :=
  q_ck (qTM s2) 1 <|
  q_as M s2 (qLM s2) s1 s0 fun M2 =>
  k3 x1 x2 x3 (x4 + 1) M2
noncomputable def b_X12_spreads_177 (k62 : Int32 → Int32 → Int32 → Int32 → q_MM → Option (q_MM)) (x1 : Int32) (x3 : Int32) (x4 : Int32) (x5 : Int32) (M : q_MM) : Option (q_MM) :=
  k62 x1 x3 x4 (x5 + 1) M
noncomputable def b_X12_spreads_105 (k62 : Int32 → Int32 → Int32 → Int32 → q_MM → Option (q_MM)) (x1 : Int32) (x3 : Int32) (x4 : Int32) (x5 : Int32) (x6 : Int32) (x7 : Int32) (M : q_MM) : Option (q_MM) :=
  q_ld M 5075 10 x6 fun v3 =>
  if v3 = 0 then
    q_ld M 5075 10 x7 fun v5 =>
    if v5 = 0 then
      q_ld M 5057 10 x6 fun v7 =>
      q_ld M 5057 10 x7 fun v8 =>
      q_as M 5057 10 x6 (if (v8 + 1) < v7 then (v8 + 1) else v7) fun M9 =>
      q_ld M9 5057 10 x7 fun v10 =>
      q_ld M9 5057 10 x6 fun v11 =>
      q_as M9 5057 10 x7 (if (v11 + 1) < v10 then (v11 + 1) else v10) fun M12 =>
      b_X12_spreads_177 k62 x1 x3 x4 x5 M12
    else
      b_X12_spreads_177 k62 x1 x3 x4 x5 M
  else
    b_X12_spreads_177 k62 x1 x3 x4 x5 M
noncomputable def b_X12_spreads_62 (k50 : Int32 → Int32 → Int32 → q_MM → Option (q_MM)) : Nat → Int32 → Int32 → Int32 → Int32 → q_MM → Option (q_MM)
  | 0, _, _, _, _, _ => none
  | nf + 1, x1, x3, x4, x5, M =>
    if (M 5001 4) ≤ x5 then
      k50 x1 x3 (x4 + 1) M
    else
      q_ld M 5015 20 x5 fun v14 =>
      q_ld M 5016 20 x5 fun v15 =>
      (f_X12_passes M x1 x5).bind fun r16 =>
      if r16 = 0 then
        if x5 = x3 then
          b_X12_spreads_105 (b_X12_spreads_62 k50 nf) x1 x3 x4 x5 v14 v15 M
        else
          b_X12_spreads_177 (b_X12_spreads_62 k50 nf) x1 x3 x4 x5 M
      else
        b_X12_spreads_105 (b_X12_spreads_62 k50 nf) x1 x3 x4 x5 v14 v15 M
noncomputable def b_X12_spreads_50 : Nat → Int32 → Int32 → Int32 → q_MM → Option (q_MM)
  | 0, _, _, _, _ => none
  | nf + 1, x1, x3, x4, M =>
    if (M 5001 3) ≤ x4 then
      some M
    else
      b_X12_spreads_62 (b_X12_spreads_50 nf) q_fu x1 x3 x4 0 M
noncomputable def b_X12_spreads_38 (k3 : Int32 → Int32 → Int32 → Int32 → q_MM → Option (q_MM)) (x1 : Int32) (x2 : Int32) (x3 : Int32) (x4 : Int32) (s0 : Int32) (s1 : Nat) (M : q_MM) : Option (q_MM) :=
  b_X12_spreads_40 k3 x1 x2 x3 x4 99 s0 s1 M
noncomputable def b_X12_spreads_3 : Nat → Int32 → Int32 → Int32 → Int32 → q_MM → Option (q_MM)
  | 0, _, _, _, _, _ => none
  | nf + 1, x1, x2, x3, x4, M =>
    if (M 5001 3) ≤ x4 then
      b_X12_spreads_50 q_fu x1 x3 0 M
    else
      if x4 = x2 then
        q_ld M 5075 10 x4 fun v22 =>
        if v22 = 0 then
          b_X12_spreads_40 (b_X12_spreads_3 nf) x1 x2 x3 x4 0 x4 5057 M
        else
          b_X12_spreads_38 (b_X12_spreads_3 nf) x1 x2 x3 x4 x4 5057 M
      else
        b_X12_spreads_38 (b_X12_spreads_3 nf) x1 x2 x3 x4 x4 5057 M
noncomputable def f_X12_spreads (M0 : q_MM) (a1 : Int32) (a2 : Int32) (a3 : Int32) : Option (q_MM) :=
  b_X12_spreads_3 q_fu a1 a2 a3 0 M0
noncomputable def b_X12_isJoined_91 (M : q_MM) (k6 : Int32 → Int32 → Int32 → Int32 → Int32 → Option (Int32)) (x1 : Int32) (x2 : Int32) (x3 : Int32) (x5 : Int32) (s0 : Int32) : Option (Int32) :=
  k6 x1 x2 x3 s0 (x5 + 1)
noncomputable def b_X12_isJoined_90 (M : q_MM) (k6 : Int32 → Int32 → Int32 → Int32 → Int32 → Option (Int32)) (x1 : Int32) (x2 : Int32) (x3 : Int32) (x5 : Int32) : Option (Int32) :=
  b_X12_isJoined_91 M k6 x1 x2 x3 x5 0
noncomputable def b_X12_isJoined_86 (M : q_MM) (k6 : Int32 → Int32 → Int32 → Int32 → Int32 → Option (Int32)) (x1 : Int32) (x2 : Int32) (x3 : Int32) (x5 : Int32) : Option (Int32) :=
  b_X12_isJoined_91 M k6 x1 x2 x3 x5 1
noncomputable def b_X12_isJoined_64 (M : q_MM) (k6 : Int32 → Int32 → Int32 → Int32 → Int32 → Option (Int32)) (x1 : Int32) (x2 : Int32) (x3 : Int32) (x4 : Int32) (x5 : Int32) (s0 : Int32) : Option (Int32) :=
  if x4 = 0 then
    if s0 = 0 then
      b_X12_isJoined_90 M k6 x1 x2 x3 x5
    else
      (f_X12_passes M x1 x5).bind fun r3 =>
      if r3 = 0 then
        b_X12_isJoined_90 M k6 x1 x2 x3 x5
      else
        b_X12_isJoined_86 M k6 x1 x2 x3 x5
  else
    b_X12_isJoined_86 M k6 x1 x2 x3 x5
noncomputable def b_X12_isJoined_59 (M : q_MM) (k6 : Int32 → Int32 → Int32 → Int32 → Int32 → Option (Int32)) (x1 : Int32) (x2 : Int32) (x3 : Int32) (x4 : Int32) (x5 : Int32) : Option (Int32) :=
  b_X12_isJoined_64 M k6 x1 x2 x3 x4 x5 1
noncomputable def b_X12_isJoined_63 (M : q_MM) (k6 : Int32 → Int32 → Int32 → Int32 → Int32 → Option (Int32)) (x1 : Int32) (x2 : Int32) (x3 : Int32) (x4 : Int32) (x5 : Int32) : Option (Int32) :=
  b_X12_isJoined_64 M k6 x1 x2 x3 x4 x5 0
noncomputable def b_X12_isJoined_37 (M : q_MM) (k6 : Int32 → Int32 → Int32 → Int32 → Int32 → Option (Int32)) (x1 : Int32) (x2 : Int32) (x3 : Int32) (x4 : Int32) (x5 : Int32) : Option (Int32) :=
  q_ld M 5015 20 x5 fun v5 =>
  if v5 = x3 then
    q_ld M 5016 20 x5 fun v7 =>
    if v7 = x2 then
      b_X12_isJoined_59 M k6 x1 x2 x3 x4 x5
    else
      b_X12_isJoined_63 M k6 x1 x2 x3 x4 x5
  else
    b_X12_isJoined_63 M k6 x1 x2 x3 x4 x5
noncomputable def b_X12_isJoined_6 (M : q_MM) : Nat → Int32 → Int32 → Int32 → Int32 → Int32 → Option (Int32)
  | 0, _, _, _, _, _ => none
  | nf + 1, x1, x2, x3, x4, x5 =>
    if (M 5001 4) ≤ x5 then
      q_bl x4 (some x4)
    else
      q_ld M 5015 20 x5 fun v10 =>
      if v10 = x2 then
        q_ld M 5016 20 x5 fun v12 =>
        if v12 = x3 then
          b_X12_isJoined_59 M (b_X12_isJoined_6 M nf) x1 x2 x3 x4 x5
        else
          b_X12_isJoined_37 M (b_X12_isJoined_6 M nf) x1 x2 x3 x4 x5
      else
        b_X12_isJoined_37 M (b_X12_isJoined_6 M nf) x1 x2 x3 x4 x5
noncomputable def f_X12_isJoined (M : q_MM) (a1 : Int32) (a2 : Int32) (a3 : Int32) : Option (Int32) :=
  b_X12_isJoined_6 M q_fu a1 a2 a3 0 0
noncomputable def b_X12_way_137 (k96 : Int32 → Int32 → Int32 → Int32 → Int32 → q_MM → Option (Int32 × q_MM)) (x1 : Int32) (x3 : Int32) (x4 : Int32) (x5 : Int32) (x6 : Int32) (M : q_MM) : Option (Int32 × q_MM) :=
  k96 x1 x3 x4 x5 (x6 + 1) M
noncomputable def b_X12_way_96 (k87 : Int32 → Int32 → Int32 → Int32 → q_MM → Option (Int32 × q_MM)) : Nat → Int32 → Int32 → Int32 → Int32 → Int32 → q_MM → Option (Int32 × q_MM)
  | 0, _, _, _, _, _, _ => none
  | nf + 1, x1, x3, x4, x5, x6, M =>
    q_ld M 5075 10 x6 fun v1 =>
    if v1 = 0 then
      q_ld M 5057 10 x6 fun v3 =>
      q_ld M 5057 10 x5 fun v4 =>
      if v3 = (v4 - 1) then
        (f_X12_isJoined M x1 x5 x6).bind fun r6 =>
        if r6 = 0 then
          b_X12_way_137 (b_X12_way_96 k87 nf) x1 x3 x4 x5 x6 M
        else
          (f_X12_enters M x6).bind fun r8 =>
          k87 x1 x3 x4 x6 r8
      else
        b_X12_way_137 (b_X12_way_96 k87 nf) x1 x3 x4 x5 x6 M
    else
      b_X12_way_137 (b_X12_way_96 k87 nf) x1 x3 x4 x5 x6 M
noncomputable def b_X12_way_87 : Nat → Int32 → Int32 → Int32 → Int32 → q_MM → Option (Int32 × q_MM)
  | 0, _, _, _, _, _ => none
  | nf + 1, x1, x3, x4, x5, M =>
    if x5 = x3 then
      some (x4, M)
    else
      b_X12_way_96 (b_X12_way_87 nf) q_fu x1 x3 x4 x5 0 M
noncomputable def f_X12_way (M0 : q_MM) (a1 : Int32) (a2 : Int32) (a3 : Int32) : Option (Int32 × q_MM) :=
  q_let (q_u2 M0 5001 0 0) fun M10 =>
  (f_X12_isPicture M10 a1).bind fun r11 =>
  if r11 = 0 then
    some ((-1), M10)
  else
    (f_X12_isRoom M10 a2).bind fun r13 =>
    if r13 = 0 then
      some ((-1), M10)
    else
      (f_X12_isRoom M10 a3).bind fun r15 =>
      if r15 = 0 then
        some ((-1), M10)
      else
        (f_X12_spreads M10 a1 a3 (-1)).bind fun r17 =>
        q_ld r17 5057 10 a2 fun v18 =>
        if (99 : Int32) ≤ v18 then
          some ((-2), r17)
        else
          q_ld r17 5075 10 a2 fun v20 =>
          if v20 = 0 then
            q_ld r17 5075 10 a3 fun v22 =>
            if v22 = 0 then
              q_let (q_u2 r17 5001 1 0) fun M24 =>
              (f_X12_enters M24 a2).bind fun r25 =>
              b_X12_way_87 q_fu a1 a3 v18 a2 r25
            else
              some ((-2), r17)
          else
            some ((-2), r17)
noncomputable def b_X12_bars_55 : Nat → Int32 → Int32 → Int32 → Int32 → q_MM → Option (Int32 × q_MM)
  | 0, _, _, _, _, _ => none
  | nf + 1, x1, x2, x3, x4, M =>
    if (M 5001 4) ≤ x4 then
      some ((-1), M)
    else
      (f_X12_spreads M x1 x2 x4).bind fun r2 =>
      q_ld r2 5057 10 x3 fun v3 =>
      if (99 : Int32) ≤ v3 then
        b_X12_bars_55 nf x1 x2 x3 (x4 + 1) r2
      else
        some (x4, r2)
noncomputable def f_X12_bars (M0 : q_MM) (a1 : Int32) (a2 : Int32) (a3 : Int32) : Option (Int32 × q_MM) :=
  q_let (q_u2 M0 5001 0 0) fun M5 =>
  (f_X12_isPicture M5 a1).bind fun r6 =>
  if r6 = 0 then
    some ((-1), M5)
  else
    (f_X12_isRoom M5 a2).bind fun r8 =>
    if r8 = 0 then
      some ((-1), M5)
    else
      (f_X12_isRoom M5 a3).bind fun r10 =>
      if r10 = 0 then
        some ((-1), M5)
      else
        (f_X12_spreads M5 a1 a2 (-1)).bind fun r12 =>
        q_ld r12 5057 10 a3 fun v13 =>
        if (99 : Int32) ≤ v13 then
          b_X12_bars_55 q_fu a1 a2 a3 0 r12
        else
          some ((-2), r12)
noncomputable def f_X12_move (M0 : q_MM) (a1 : Int32) (a2 : Int32) (a3 : Int32) : Option (Int32 × q_MM) :=
  q_let (q_u2 M0 5001 0 0) fun M1 =>
  (f_X12_isHere M1 a1).bind fun r2 =>
  if r2 = 0 then
    some ((-1), M1)
  else
    (f_X12_isWall M1 a2).bind fun r4 =>
    if r4 = 0 then
      some ((-1), M1)
    else
      (f_X12_isThere M1 5077 (M1 5001 66) a1).bind fun r6 =>
      if r6 = 0 then
        (f_X12_in M1 (Int32.toInt64 a3) (-1000) 4000).bind fun r8 =>
        if r8 = 0 then
          some ((-1), M1)
        else
          if (M1 5001 66) = (8 : Int32) then
            some ((-1), M1)
          else
            q_as M1 5077 8 (M1 5001 66) a1 fun M11 =>
            q_as M11 5078 8 (M11 5001 66) a2 fun M12 =>
            q_as M12 5079 8 (M12 5001 66) a3 fun M13 =>
            q_let (q_u2 M13 5001 66 ((M13 5001 66) + 1)) fun M14 =>
            some (((M14 5001 66) - 1), M14)
      else
        some ((-1), M1)
noncomputable def b_X12_keeps_2 : Nat → Int32 → q_MM → Option (q_MM)
  | 0, _, _ => none
  | nf + 1, x1, M =>
    if (M 5001 18) ≤ x1 then
      some M
    else
      q_ld M 5040 24 x1 fun v2 =>
      q_as M 5080 24 x1 v2 fun M3 =>
      q_ld M3 5041 24 x1 fun v4 =>
      q_as M3 5081 24 x1 v4 fun M5 =>
      q_ld M5 5042 24 x1 fun v6 =>
      q_as M5 5082 24 x1 v6 fun M7 =>
      b_X12_keeps_2 nf (x1 + 1) M7
noncomputable def f_X12_keeps (M0 : q_MM) : Option (q_MM) :=
  b_X12_keeps_2 q_fu 0 M0
noncomputable def b_X12_restores_2 : Nat → Int32 → q_MM → Option (q_MM)
  | 0, _, _ => none
  | nf + 1, x1, M =>
    if (M 5001 18) ≤ x1 then
      some M
    else
      q_ld M 5080 24 x1 fun v2 =>
      q_as M 5040 24 x1 v2 fun M3 =>
      q_ld M3 5081 24 x1 fun v4 =>
      q_as M3 5041 24 x1 v4 fun M5 =>
      q_ld M5 5082 24 x1 fun v6 =>
      q_as M5 5042 24 x1 v6 fun M7 =>
      b_X12_restores_2 nf (x1 + 1) M7
noncomputable def f_X12_restores (M0 : q_MM) : Option (q_MM) :=
  b_X12_restores_2 q_fu 0 M0
noncomputable def b_X12_does_45 (k6 : Int32 → Int32 → q_MM → Option (q_MM)) (x1 : Int32) (x2 : Int32) (M : q_MM) : Option (q_MM) :=
  k6 x1 (x2 + 1) M
noncomputable def b_X12_does_6 : Nat → Int32 → Int32 → q_MM → Option (q_MM)
  | 0, _, _, _ => none
  | nf + 1, x1, x2, M =>
    if (M 5001 66) ≤ x2 then
      some M
    else
      if ((x1 >>> (x2 &&& 31)) &&& 1) = (1 : Int32) then
        q_ld M 5077 8 x2 fun v3 =>
        q_ld M 5078 8 x2 fun v4 =>
        q_ld M 5079 8 x2 fun v5 =>
        (f_X12_puts M v3 v4 v5).bind fun r6 =>
        b_X12_does_45 (b_X12_does_6 nf) x1 x2 r6
      else
        b_X12_does_45 (b_X12_does_6 nf) x1 x2 M
noncomputable def f_X12_does (M0 : q_MM) (a1 : Int32) : Option (q_MM) :=
  (f_X12_restores M0).bind fun r7 =>
  b_X12_does_6 q_fu a1 0 r7
noncomputable def b_X12_roomsTouched_79 (M : q_MM) (k4 : Int32 → Int32 → Int32 → Option (Int32)) (x1 : Int32) (x2 : Int32) (x3 : Int32) : Option (Int32) :=
  k4 x1 x2 (x3 + 1)
noncomputable def b_X12_roomsTouched_77 (M : q_MM) (k4 : Int32 → Int32 → Int32 → Option (Int32)) (x1 : Int32) (x3 : Int32) (s0 : Int32) (s1 : Int32) : Option (Int32) :=
  q_let (s1 ||| s0) fun v1 =>
  b_X12_roomsTouched_79 M k4 x1 v1 x3
noncomputable def b_X12_roomsTouched_4 (M : q_MM) : Nat → Int32 → Int32 → Int32 → Option (Int32)
  | 0, _, _, _ => none
  | nf + 1, x1, x2, x3 =>
    if (M 5001 66) ≤ x3 then
      (f_J6_bitCount_0f7a4 qTM qLM qPM M x2).bind fun r3 =>
      some r3
    else
      if ((x1 >>> (x3 &&& 31)) &&& 1) = 0 then
        b_X12_roomsTouched_79 M (b_X12_roomsTouched_4 M nf) x1 x2 x3
      else
        q_ld M 5078 8 x3 fun v5 =>
        q_ld M 5020 16 v5 fun v6 =>
        q_let (x2 ||| ((1 : Int32) <<< (v6 &&& 31))) fun v7 =>
        q_ld M 5077 8 x3 fun v8 =>
        q_ld M 5080 24 v8 fun v9 =>
        if v9 = (1 : Int32) then
          q_ld M 5077 8 x3 fun v11 =>
          q_ld M 5081 24 v11 fun v12 =>
          q_ld M 5020 16 v12 fun v13 =>
          b_X12_roomsTouched_77 M (b_X12_roomsTouched_4 M nf) x1 x3 ((1 : Int32) <<< (v13 &&& 31)) v7
        else
          b_X12_roomsTouched_77 M (b_X12_roomsTouched_4 M nf) x1 x3 0 v7
noncomputable def f_X12_roomsTouched (M : q_MM) (a1 : Int32) : Option (Int32) :=
  b_X12_roomsTouched_4 M q_fu a1 0 0
noncomputable def b_X12_reaches_29 (k9 : Int32 → Int32 → Int32 → q_MM → Option (q_MM)) (x1 : Int32) (x2 : Int32) (x3 : Int32) (s0 : Int32) (s1 : Int32) (s2 : Nat) (M : q_MM) : Option (q_MM) :=
  q_ck (qTM s2) 2 <|
  q_as M s2 (qLM s2) s1 (vp_nar .boolean s0) fun M2 =>
  k9 x1 x2 (x3 + 1) M2
noncomputable def b_X12_reaches_106 (k38 : Int32 → Int32 → q_MM → Option (q_MM)) (x2 : Int32) (x3 : Int32) (M : q_MM) : Option (q_MM) :=
  k38 x2 (x3 + 1) M
noncomputable def b_X12_reaches_100 (k46 : Int32 → Int32 → Int32 → q_MM → Option (q_MM)) (x2 : Int32) (x3 : Int32) (x4 : Int32) (M : q_MM) : Option (q_MM) :=
  k46 x2 x3 (x4 + 1) M
noncomputable def b_X12_reaches_46 (k38 : Int32 → Int32 → q_MM → Option (q_MM)) : Nat → Int32 → Int32 → Int32 → q_MM → Option (q_MM)
  | 0, _, _, _, _ => none
  | nf + 1, x2, x3, x4, M =>
    if (M 5001 66) ≤ x4 then
      b_X12_reaches_106 k38 x2 x3 M
    else
      q_ld M 5085 256 x3 fun v4 =>
      if v4 = 0 then
        b_X12_reaches_106 k38 x2 x3 M
      else
        if ((x3 >>> (x4 &&& 31)) &&& 1) = 0 then
          q_ld M 5083 256 x3 fun v7 =>
          if ((v7 >>> (x4 &&& 31)) &&& 1) = (1 : Int32) then
            q_as M 5085 256 (x3 ||| ((1 : Int32) <<< (x4 &&& 31))) (vp_nar .boolean 1) fun M9 =>
            b_X12_reaches_100 (b_X12_reaches_46 k38 nf) x2 x3 x4 M9
          else
            b_X12_reaches_100 (b_X12_reaches_46 k38 nf) x2 x3 x4 M
        else
          b_X12_reaches_100 (b_X12_reaches_46 k38 nf) x2 x3 x4 M
noncomputable def b_X12_reaches_38 : Nat → Int32 → Int32 → q_MM → Option (q_MM)
  | 0, _, _, _ => none
  | nf + 1, x2, x3, M =>
    if x2 ≤ x3 then
      some M
    else
      b_X12_reaches_46 (b_X12_reaches_38 nf) q_fu x2 x3 0 M
noncomputable def b_X12_reaches_9 : Nat → Int32 → Int32 → Int32 → q_MM → Option (q_MM)
  | 0, _, _, _, _ => none
  | nf + 1, x1, x2, x3, M =>
    if x2 ≤ x3 then
      b_X12_reaches_38 q_fu x2 x1 M
    else
      if x3 = x1 then
        b_X12_reaches_29 (b_X12_reaches_9 nf) x1 x2 x3 1 x3 5085 M
      else
        b_X12_reaches_29 (b_X12_reaches_9 nf) x1 x2 x3 0 x3 5085 M
noncomputable def f_X12_reaches (M0 : q_MM) (a1 : Int32) : Option (q_MM) :=
  q_let ((1 : Int32) <<< ((M0 5001 66) &&& 31)) fun v13 =>
  b_X12_reaches_9 q_fu a1 v13 0 M0
noncomputable def f_X12_isNight (M : q_MM) (a1 : Int32) (a2 : Int32) (a3 : Int32) (a4 : Int32) : Option (Int32) :=
  if a2 = 0 then
    q_bl 0 (some 0)
  else
    if (a1 &&& a2) = 0 then
      q_ld M 5085 256 (a1 ||| a2) fun v3 =>
      if v3 = 0 then
        q_bl 0 (some 0)
      else
        (f_J6_bitCount_0f7a4 qTM qLM qPM M a2).bind fun r5 =>
        if a3 < r5 then
          q_bl 0 (some 0)
        else
          (f_X12_roomsTouched M a2).bind fun r7 =>
          if a4 < r7 then
            q_bl 0 (some 0)
          else
            q_bl 1 (some 1)
    else
      q_bl 0 (some 0)
noncomputable def b_X12_nights_252 (k204 : Int32 → Int32 → Int32 → Int32 → Int32 → q_MM → Option (Int32 × q_MM)) (x1 : Int32) (x2 : Int32) (x3 : Int32) (x4 : Int32) (x5 : Int32) (M : q_MM) : Option (Int32 × q_MM) :=
  k204 x1 x2 x3 x4 (x5 + 1) M
noncomputable def b_X12_nights_204 (k171 : Int32 → Int32 → Int32 → Int32 → q_MM → Option (Int32 × q_MM)) : Nat → Int32 → Int32 → Int32 → Int32 → Int32 → q_MM → Option (Int32 × q_MM)
  | 0, _, _, _, _, _, _ => none
  | nf + 1, x1, x2, x3, x4, x5, M =>
    if x3 < x5 then
      k171 x1 x2 x3 (x4 + (-1)) M
    else
      (f_X12_isNight M x4 x5 x1 x2).bind fun r2 =>
      if r2 = 0 then
        b_X12_nights_252 (b_X12_nights_204 k171 nf) x1 x2 x3 x4 x5 M
      else
        q_ld M 5084 256 x4 fun v4 =>
        q_ld M 5084 256 (x4 ||| x5) fun v5 =>
        q_as M 5084 256 x4 (if (v5 + 1) < v4 then (v5 + 1) else v4) fun M6 =>
        b_X12_nights_252 (b_X12_nights_204 k171 nf) x1 x2 x3 x4 x5 M6
noncomputable def b_X12_nights_194 (k171 : Int32 → Int32 → Int32 → Int32 → q_MM → Option (Int32 × q_MM)) (x1 : Int32) (x2 : Int32) (x3 : Int32) (x4 : Int32) (s0 : Int32) (s1 : Int32) (s2 : Nat) (M : q_MM) : Option (Int32 × q_MM) :=
  q_ck (qTM s2) 1 <|
  q_as M s2 (qLM s2) s1 s0 fun M8 =>
  (f_X12_reaches M8 x4).bind fun r9 =>
  b_X12_nights_204 k171 q_fu x1 x2 x3 x4 1 r9
noncomputable def b_X12_nights_336 (k301 : Int32 → Int32 → Int32 → Int32 → Int32 → q_MM → Option (Int32 × q_MM)) (x1 : Int32) (x2 : Int32) (x3 : Int32) (x4 : Int32) (x5 : Int32) (M : q_MM) : Option (Int32 × q_MM) :=
  k301 x1 x2 x3 x4 (x5 + 1) M
noncomputable def b_X12_nights_301 (k286 : Int32 → Int32 → Int32 → Int32 → q_MM → Option (Int32 × q_MM)) : Nat → Int32 → Int32 → Int32 → Int32 → Int32 → q_MM → Option (Int32 × q_MM)
  | 0, _, _, _, _, _, _ => none
  | nf + 1, x1, x2, x3, x4, x5, M =>
    (f_X12_isNight M x4 x5 x1 x2).bind fun r10 =>
    if r10 = 0 then
      b_X12_nights_336 (b_X12_nights_301 k286 nf) x1 x2 x3 x4 x5 M
    else
      q_ld M 5084 256 (x4 ||| x5) fun v12 =>
      q_ld M 5084 256 x4 fun v13 =>
      if v12 = (v13 - 1) then
        (f_X12_enters M x5).bind fun r15 =>
        q_let (x4 ||| x5) fun v16 =>
        k286 x1 x2 x3 v16 r15
      else
        b_X12_nights_336 (b_X12_nights_301 k286 nf) x1 x2 x3 x4 x5 M
noncomputable def b_X12_nights_286 : Nat → Int32 → Int32 → Int32 → Int32 → q_MM → Option (Int32 × q_MM)
  | 0, _, _, _, _, _ => none
  | nf + 1, x1, x2, x3, x4, M =>
    if x4 = x3 then
      q_ld M 5084 256 0 fun v18 =>
      some (v18, M)
    else
      (f_X12_reaches M x4).bind fun r19 =>
      b_X12_nights_301 (b_X12_nights_286 nf) q_fu x1 x2 x3 x4 1 r19
noncomputable def b_X12_nights_171 : Nat → Int32 → Int32 → Int32 → Int32 → q_MM → Option (Int32 × q_MM)
  | 0, _, _, _, _, _ => none
  | nf + 1, x1, x2, x3, x4, M =>
    if x4 < 0 then
      q_ld M 5084 256 0 fun v21 =>
      if v21 < (99 : Int32) then
        q_let (q_u2 M 5001 1 0) fun M23 =>
        b_X12_nights_286 q_fu x1 x2 x3 0 M23
      else
        some ((-2), M)
    else
      if x4 = x3 then
        b_X12_nights_194 (b_X12_nights_171 nf) x1 x2 x3 x4 0 x4 5084 M
      else
        b_X12_nights_194 (b_X12_nights_171 nf) x1 x2 x3 x4 99 x4 5084 M
noncomputable def b_X12_nights_150 (k70 : Int32 → Int32 → Int32 → Int32 → Int32 → q_MM → Option (Int32 × q_MM)) (x1 : Int32) (x2 : Int32) (x3 : Int32) (x4 : Int32) (x5 : Int32) (s0 : Int32) (s1 : Int32) (s2 : Int32) (s3 : Nat) (M : q_MM) : Option (Int32 × q_MM) :=
  q_ck (qTM s3) 1 <|
  q_as M s3 (qLM s3) s2 (s1 ||| s0) fun M26 =>
  k70 x1 x2 x3 x4 (x5 + 1) M26
noncomputable def b_X12_nights_149 (k70 : Int32 → Int32 → Int32 → Int32 → Int32 → q_MM → Option (Int32 × q_MM)) (x1 : Int32) (x2 : Int32) (x3 : Int32) (x4 : Int32) (x5 : Int32) (s0 : Int32) (s1 : Int32) (s2 : Nat) (M : q_MM) : Option (Int32 × q_MM) :=
  b_X12_nights_150 k70 x1 x2 x3 x4 x5 0 s0 s1 s2 M
noncomputable def b_X12_nights_70 (k47 : Int32 → Int32 → Int32 → Int32 → q_MM → Option (Int32 × q_MM)) : Nat → Int32 → Int32 → Int32 → Int32 → Int32 → q_MM → Option (Int32 × q_MM)
  | 0, _, _, _, _, _, _ => none
  | nf + 1, x1, x2, x3, x4, x5, M =>
    if (M 5001 66) ≤ x5 then
      k47 x1 x2 x3 (x4 + 1) M
    else
      q_ld M 5083 256 x4 fun v28 =>
      if ((x4 >>> (x5 &&& 31)) &&& 1) = 0 then
        q_ld M 5077 8 x5 fun v30 =>
        q_ld M 5080 24 v30 fun v31 =>
        if (2 : Int32) ≤ v31 then
          b_X12_nights_149 (b_X12_nights_70 k47 nf) x1 x2 x3 x4 x5 v28 x4 5083 M
        else
          q_ld M 5077 8 x5 fun v33 =>
          q_ld M 5078 8 x5 fun v34 =>
          q_ld M 5079 8 x5 fun v35 =>
          (f_X12_wrong M v33 v34 v35 4).bind fun r36 =>
          if r36.1 = 0 then
            b_X12_nights_150 (b_X12_nights_70 k47 nf) x1 x2 x3 x4 x5 ((1 : Int32) <<< (x5 &&& 31)) v28 x4 5083 r36.2
          else
            b_X12_nights_149 (b_X12_nights_70 k47 nf) x1 x2 x3 x4 x5 v28 x4 5083 r36.2
      else
        b_X12_nights_149 (b_X12_nights_70 k47 nf) x1 x2 x3 x4 x5 v28 x4 5083 M
noncomputable def b_X12_nights_47 : Nat → Int32 → Int32 → Int32 → Int32 → q_MM → Option (Int32 × q_MM)
  | 0, _, _, _, _, _ => none
  | nf + 1, x1, x2, x3, x4, M =>
    if x3 < x4 then
      (f_X12_restores M).bind fun r39 =>
      b_X12_nights_171 q_fu x1 x2 x3 x3 r39
    else
      (f_X12_does M x4).bind fun r40 =>
      q_as r40 5083 256 x4 0 fun M41 =>
      b_X12_nights_70 (b_X12_nights_47 nf) q_fu x1 x2 x3 x4 0 M41
noncomputable def f_X12_nights (M0 : q_MM) (a1 : Int32) (a2 : Int32) : Option (Int32 × q_MM) :=
  q_let (q_u2 M0 5001 0 0) fun M42 =>
  (f_X12_in M42 (Int32.toInt64 a1) 1 8).bind fun r43 =>
  if r43 = 0 then
    some ((-1), M42)
  else
    (f_X12_in M42 (Int32.toInt64 a2) 1 8).bind fun r45 =>
    if r45 = 0 then
      some ((-1), M42)
    else
      q_let (((1 : Int32) <<< ((M42 5001 66) &&& 31)) - 1) fun v47 =>
      (f_X12_keeps M42).bind fun r48 =>
      b_X12_nights_47 q_fu a1 a2 v47 0 r48
noncomputable def b_X12_done_74 (M : q_MM) : Option (Int32 × q_MM) :=
  (f_X12_restores M).bind fun r1 =>
  some ((-2), r1)
noncomputable def b_X12_done_25 : Nat → Int32 → q_MM → Option (Int32 × q_MM)
  | 0, _, _ => none
  | nf + 1, x2, M =>
    if (M 5001 66) ≤ x2 then
      q_let (M 5001 66) fun v3 =>
      q_let (q_u2 M 5001 66 0) fun M4 =>
      some (v3, M4)
    else
      q_ld M 5077 8 x2 fun v5 =>
      q_ld M 5080 24 v5 fun v6 =>
      if (2 : Int32) ≤ v6 then
        b_X12_done_74 M
      else
        q_ld M 5077 8 x2 fun v8 =>
        q_ld M 5078 8 x2 fun v9 =>
        q_ld M 5079 8 x2 fun v10 =>
        (f_X12_wrong M v8 v9 v10 4).bind fun r11 =>
        if r11.1 = 0 then
          b_X12_done_25 nf (x2 + 1) r11.2
        else
          b_X12_done_74 r11.2
noncomputable def f_X12_done (M0 : q_MM) : Option (Int32 × q_MM) :=
  q_let (q_u2 M0 5001 0 0) fun M13 =>
  q_let (((1 : Int32) <<< ((M13 5001 66) &&& 31)) - 1) fun v14 =>
  (f_X12_keeps M13).bind fun r15 =>
  (f_X12_does r15 v14).bind fun r16 =>
  b_X12_done_25 q_fu 0 r16
noncomputable def b_X12_sumOf_28 (M : q_MM) (s0 : Int32) (s1 : Int32) : Option (Int32) :=
  some (s1 + s0)
noncomputable def b_X12_sumOf_14 (M : q_MM) (x1 : Int32) (x3 : Int32) (s0 : Int32) : Option (Int32) :=
  if 0 ≤ x3 then
    (f_X12_likes M x1 x3).bind fun r2 =>
    b_X12_sumOf_28 M r2 s0
  else
    b_X12_sumOf_28 M 0 s0
noncomputable def f_X12_sumOf (M : q_MM) (a1 : Int32) (a2 : Int32) (a3 : Int32) : Option (Int32) :=
  if 0 ≤ a2 then
    (f_X12_likes M a1 a2).bind fun r4 =>
    b_X12_sumOf_14 M a1 a3 r4
  else
    b_X12_sumOf_14 M a1 a3 0
noncomputable def b_X12_stand_200 (k73 : Int32 → Int32 → Int32 → Int32 → Int32 → Int32 → q_MM → Option (Int32 × q_MM)) (x1 : Int32) (x2 : Int32) (x3 : Int32) (x4 : Int32) (x5 : Int32) (x6 : Int32) (M : q_MM) : Option (Int32 × q_MM) :=
  k73 x1 x2 x3 x4 x5 (x6 + 1) M
noncomputable def b_X12_stand_181 (k73 : Int32 → Int32 → Int32 → Int32 → Int32 → Int32 → q_MM → Option (Int32 × q_MM)) (x1 : Int32) (x2 : Int32) (x3 : Int32) (x4 : Int32) (x5 : Int32) (x6 : Int32) (x8 : Int32) (M : q_MM) : Option (Int32 × q_MM) :=
  q_as M 5012 64 x8 x6 fun M1 =>
  q_let (q_u2 M1 5001 1 ((M1 5001 1) + 1)) fun M2 =>
  b_X12_stand_200 k73 x1 x2 x3 x4 x5 x6 M2
noncomputable def b_X12_stand_132 (k73 : Int32 → Int32 → Int32 → Int32 → Int32 → Int32 → q_MM → Option (Int32 × q_MM)) : Nat → Int32 → Int32 → Int32 → Int32 → Int32 → Int32 → Int32 → Int32 → q_MM → Option (Int32 × q_MM)
  | 0, _, _, _, _, _, _, _, _, _ => none
  | nf + 1, x1, x2, x3, x4, x5, x6, x7, x8, M =>
    if x8 ≤ 0 then
      b_X12_stand_181 k73 x1 x2 x3 x4 x5 x6 x8 M
    else
      q_ld M 5012 64 (x8 - 1) fun v4 =>
      (f_X12_sumOf M v4 x4 x5).bind fun r5 =>
      if x7 ≤ r5 then
        b_X12_stand_181 k73 x1 x2 x3 x4 x5 x6 x8 M
      else
        q_ld M 5012 64 (x8 - 1) fun v7 =>
        q_as M 5012 64 x8 v7 fun M8 =>
        b_X12_stand_132 k73 nf x1 x2 x3 x4 x5 x6 x7 (x8 + (-1)) M8
noncomputable def b_X12_stand_73 : Nat → Int32 → Int32 → Int32 → Int32 → Int32 → Int32 → q_MM → Option (Int32 × q_MM)
  | 0, _, _, _, _, _, _, _ => none
  | nf + 1, x1, x2, x3, x4, x5, x6, M =>
    if (M 5001 18) ≤ x6 then
      (f_X12_puts M x1 x2 x3).bind fun r10 =>
      some ((r10 5001 1), r10)
    else
      if x6 = x1 then
        b_X12_stand_200 (b_X12_stand_73 nf) x1 x2 x3 x4 x5 x6 M
      else
        q_ld M 5040 24 x6 fun v12 =>
        if v12 = 0 then
          (f_X12_wrong M x6 x2 x3 6).bind fun r14 =>
          if r14.1 = 0 then
            (f_X12_sumOf r14.2 x6 x4 x5).bind fun r16 =>
            q_let (r14.2 5001 1) fun v17 =>
            b_X12_stand_132 (b_X12_stand_73 nf) q_fu x1 x2 x3 x4 x5 x6 r16 v17 r14.2
          else
            b_X12_stand_200 (b_X12_stand_73 nf) x1 x2 x3 x4 x5 x6 r14.2
        else
          b_X12_stand_200 (b_X12_stand_73 nf) x1 x2 x3 x4 x5 x6 M
noncomputable def f_X12_stand (M0 : q_MM) (a1 : Int32) : Option (Int32 × q_MM) :=
  q_let (q_u2 M0 5001 0 0) fun M18 =>
  (f_X12_isPicture M18 a1).bind fun r19 =>
  if r19 = 0 then
    some ((-1), M18)
  else
    q_ld M18 5040 24 a1 fun v21 =>
    if v21 = (1 : Int32) then
      q_ld M18 5041 24 a1 fun v23 =>
      q_ld M18 5042 24 a1 fun v24 =>
      (f_X12_takes M18 a1 0).bind fun r25 =>
      (f_X12_beside r25 v23 v24 (-1) 1).bind fun r26 =>
      (f_X12_beside r25 v23 v24 (-1) 0).bind fun r27 =>
      q_let (q_u2 r25 5001 1 0) fun M28 =>
      b_X12_stand_73 q_fu a1 v23 v24 r26 r27 0 M28
    else
      some ((-1), M18)
noncomputable def f_X12_sight (M0 : q_MM) (a1 : Int32) (a2 : Int32) : Option (Int32 × q_MM) :=
  q_let (q_u2 M0 5001 0 0) fun M1 =>
  (f_X12_isRoom M1 a1).bind fun r2 =>
  if r2 = 0 then
    q_bl 0 (some (0, M1))
  else
    (f_X12_isWall M1 a2).bind fun r4 =>
    if r4 = 0 then
      q_bl 0 (some (0, M1))
    else
      q_ld M1 5020 16 a2 fun v6 =>
      if v6 = a1 then
        q_bl 0 (some (0, M1))
      else
        q_as M1 5086 160 (((16 : Int32) * a1) + a2) (vp_nar .boolean 1) fun M8 =>
        q_bl 1 (some (1, M8))
noncomputable def b_X12_isSeen_59 (M : q_MM) (k5 : Int32 → Int32 → Int32 → Int32 → Option (Int32)) (x1 : Int32) (x2 : Int32) (x4 : Int32) (s0 : Int32) : Option (Int32) :=
  k5 x1 x2 s0 (x4 + 1)
noncomputable def b_X12_isSeen_58 (M : q_MM) (k5 : Int32 → Int32 → Int32 → Int32 → Option (Int32)) (x1 : Int32) (x2 : Int32) (x4 : Int32) : Option (Int32) :=
  b_X12_isSeen_59 M k5 x1 x2 x4 0
noncomputable def b_X12_isSeen_54 (M : q_MM) (k5 : Int32 → Int32 → Int32 → Int32 → Option (Int32)) (x1 : Int32) (x2 : Int32) (x4 : Int32) : Option (Int32) :=
  b_X12_isSeen_59 M k5 x1 x2 x4 1
noncomputable def b_X12_isSeen_5 (M : q_MM) : Nat → Int32 → Int32 → Int32 → Int32 → Option (Int32)
  | 0, _, _, _, _ => none
  | nf + 1, x1, x2, x3, x4 =>
    if (M 5001 3) ≤ x4 then
      q_bl x3 (some x3)
    else
      if x3 = 0 then
        if ((x2 >>> (x4 &&& 31)) &&& 1) = (1 : Int32) then
          q_ld M 5020 16 x1 fun v4 =>
          if v4 = x4 then
            b_X12_isSeen_54 M (b_X12_isSeen_5 M nf) x1 x2 x4
          else
            q_ld M 5086 160 (((16 : Int32) * x4) + x1) fun v6 =>
            if v6 = 0 then
              b_X12_isSeen_58 M (b_X12_isSeen_5 M nf) x1 x2 x4
            else
              b_X12_isSeen_54 M (b_X12_isSeen_5 M nf) x1 x2 x4
        else
          b_X12_isSeen_58 M (b_X12_isSeen_5 M nf) x1 x2 x4
      else
        b_X12_isSeen_54 M (b_X12_isSeen_5 M nf) x1 x2 x4
noncomputable def f_X12_isSeen (M : q_MM) (a1 : Int32) (a2 : Int32) : Option (Int32) :=
  b_X12_isSeen_5 M q_fu a1 a2 0 0
noncomputable def b_X12_guard_113 (k57 : Int32 → Int32 → Int32 → Int32 → Int32 → q_MM → Option (Int32 × q_MM)) (x1 : Int32) (x2 : Int32) (x3 : Int32) (x5 : Int32) (s0 : Int32) (M : q_MM) : Option (Int32 × q_MM) :=
  k57 x1 x2 x3 s0 (x5 + 1) M
noncomputable def b_X12_guard_112 (k57 : Int32 → Int32 → Int32 → Int32 → Int32 → q_MM → Option (Int32 × q_MM)) (x1 : Int32) (x2 : Int32) (x3 : Int32) (x5 : Int32) (M : q_MM) : Option (Int32 × q_MM) :=
  b_X12_guard_113 k57 x1 x2 x3 x5 0 M
noncomputable def b_X12_guard_132 (k23 : Int32 → Int32 → Int32 → q_MM → Option (Int32 × q_MM)) (x1 : Int32) (x2 : Int32) (x3 : Int32) (M : q_MM) : Option (Int32 × q_MM) :=
  k23 x1 x2 (x3 + 1) M
noncomputable def b_X12_guard_131 (k23 : Int32 → Int32 → Int32 → q_MM → Option (Int32 × q_MM)) (x1 : Int32) (x3 : Int32) (s0 : Int32) (M : q_MM) : Option (Int32 × q_MM) :=
  b_X12_guard_132 k23 x1 s0 x3 M
noncomputable def b_X12_guard_108 (k57 : Int32 → Int32 → Int32 → Int32 → Int32 → q_MM → Option (Int32 × q_MM)) (x1 : Int32) (x2 : Int32) (x3 : Int32) (x5 : Int32) (M : q_MM) : Option (Int32 × q_MM) :=
  b_X12_guard_113 k57 x1 x2 x3 x5 1 M
noncomputable def b_X12_guard_57 (k23 : Int32 → Int32 → Int32 → q_MM → Option (Int32 × q_MM)) : Nat → Int32 → Int32 → Int32 → Int32 → Int32 → q_MM → Option (Int32 × q_MM)
  | 0, _, _, _, _, _, _ => none
  | nf + 1, x1, x2, x3, x4, x5, M =>
    if (M 5001 18) ≤ x5 then
      if x4 = 0 then
        b_X12_guard_131 k23 x1 x3 x2 M
      else
        b_X12_guard_131 k23 x1 x3 x3 M
    else
      if x4 = 0 then
        b_X12_guard_112 (b_X12_guard_57 k23 nf) x1 x2 x3 x5 M
      else
        q_ld M 5040 24 x5 fun v4 =>
        if v4 = (1 : Int32) then
          q_ld M 5034 24 x5 fun v6 =>
          if v6 < x1 then
            b_X12_guard_108 (b_X12_guard_57 k23 nf) x1 x2 x3 x5 M
          else
            q_ld M 5041 24 x5 fun v8 =>
            (f_X12_isSeen M v8 x3).bind fun r9 =>
            if r9 = 0 then
              b_X12_guard_112 (b_X12_guard_57 k23 nf) x1 x2 x3 x5 M
            else
              b_X12_guard_108 (b_X12_guard_57 k23 nf) x1 x2 x3 x5 M
        else
          b_X12_guard_108 (b_X12_guard_57 k23 nf) x1 x2 x3 x5 M
noncomputable def b_X12_guard_51 (k23 : Int32 → Int32 → Int32 → q_MM → Option (Int32 × q_MM)) (x1 : Int32) (x2 : Int32) (x3 : Int32) (M : q_MM) : Option (Int32 × q_MM) :=
  b_X12_guard_57 k23 q_fu x1 x2 x3 1 0 M
noncomputable def b_X12_guard_23 : Nat → Int32 → Int32 → Int32 → q_MM → Option (Int32 × q_MM)
  | 0, _, _, _, _ => none
  | nf + 1, x1, x2, x3, M =>
    if ((1 : Int32) <<< ((M 5001 3) &&& 31)) ≤ x3 then
      q_let (q_u2 M 5001 1 0) fun M12 =>
      (f_X12_enters M12 x2).bind fun r13 =>
      (f_J6_bitCount_0f7a4 qTM qLM qPM r13 x2).bind fun r14 =>
      some (r14, r13)
    else
      if x2 < 0 then
        b_X12_guard_51 (b_X12_guard_23 nf) x1 x2 x3 M
      else
        (f_J6_bitCount_0f7a4 qTM qLM qPM M x3).bind fun r16 =>
        (f_J6_bitCount_0f7a4 qTM qLM qPM M x2).bind fun r17 =>
        if r16 < r17 then
          b_X12_guard_51 (b_X12_guard_23 nf) x1 x2 x3 M
        else
          b_X12_guard_132 (b_X12_guard_23 nf) x1 x2 x3 M
noncomputable def f_X12_guard (M0 : q_MM) (a1 : Int32) : Option (Int32 × q_MM) :=
  q_let (q_u2 M0 5001 0 0) fun M19 =>
  (f_X12_in M19 (Int32.toInt64 a1) 0 999).bind fun r20 =>
  if r20 = 0 then
    some ((-1), M19)
  else
    b_X12_guard_23 q_fu a1 (-1) 0 M19
noncomputable def b_X12_hungMany_28 (M : q_MM) (k4 : Int32 → Int32 → Option (Int32)) (x2 : Int32) (s0 : Int32) (s1 : Int32) : Option (Int32) :=
  (f_X12_truth M s0).bind fun r1 =>
  q_let (s1 + r1) fun v2 =>
  k4 v2 (x2 + 1)
noncomputable def b_X12_hungMany_4 (M : q_MM) : Nat → Int32 → Int32 → Option (Int32)
  | 0, _, _ => none
  | nf + 1, x1, x2 =>
    if (M 5001 18) ≤ x2 then
      some x1
    else
      q_ld M 5040 24 x2 fun v4 =>
      if v4 = (1 : Int32) then
        b_X12_hungMany_28 M (b_X12_hungMany_4 M nf) x2 1 x1
      else
        b_X12_hungMany_28 M (b_X12_hungMany_4 M nf) x2 0 x1
noncomputable def f_X12_hungMany (M : q_MM) : Option (Int32) :=
  b_X12_hungMany_4 M q_fu 0 0
noncomputable def f_X12_count (M0 : q_MM) (a1 : Int32) : Option (Int32 × q_MM) :=
  q_let (q_u2 M0 5001 0 0) fun M1 =>
  if a1 = (0 : Int32) then
    some ((M1 5001 3), M1)
  else
    if a1 = (1 : Int32) then
      some ((M1 5001 4), M1)
    else
      if a1 = (2 : Int32) then
        some ((M1 5001 9), M1)
      else
        if a1 = (3 : Int32) then
          some ((M1 5001 18), M1)
        else
          if a1 = (4 : Int32) then
            some ((M1 5001 36), M1)
          else
            if a1 = (5 : Int32) then
              some ((M1 5001 35), M1)
            else
              if a1 = (6 : Int32) then
                (f_X12_hungMany M1).bind fun r9 =>
                some (r9, M1)
              else
                if a1 = (7 : Int32) then
                  some ((M1 5001 60), M1)
                else
                  if a1 = (8 : Int32) then
                    some ((M1 5001 62), M1)
                  else
                    if a1 = (9 : Int32) then
                      some ((M1 5001 66), M1)
                    else
                      if a1 = (10 : Int32) then
                        some ((M1 5001 1), M1)
                      else
                        if a1 = (11 : Int32) then
                          some ((M1 5001 42), M1)
                        else
                          if a1 = (12 : Int32) then
                            q_ld M1 5027 4 2 fun v16 =>
                            some (v16, M1)
                          else
                            if a1 = (13 : Int32) then
                              q_ld M1 5027 4 3 fun v18 =>
                              some (v18, M1)
                            else
                              if a1 = (14 : Int32) then
                                q_ld M1 5027 4 0 fun v20 =>
                                some (v20, M1)
                              else
                                if a1 = (15 : Int32) then
                                  q_ld M1 5027 4 1 fun v22 =>
                                  some (v22, M1)
                                else
                                  some ((-1), M1)
noncomputable def f_X12_row (M0 : q_MM) (a1 : Int32) : Option (Int32 × q_MM) :=
  q_let (q_u2 M0 5001 0 0) fun M1 =>
  (f_X12_in M1 (Int32.toInt64 a1) 0 (Int32.toInt64 ((M1 5001 1) - 1))).bind fun r2 =>
  if r2 = 0 then
    (f_X12_refuse M1).bind fun r4 =>
    some (r4.1, r4.2)
  else
    q_ld M1 5012 64 a1 fun v5 =>
    some (v5, M1)
