noncomputable def f_GM_in (p0 : Int32) (p1 : Int32) (p2 : Int32) : Int32 :=
  if p0 < p1 then
    (0 : Int32)
  else
    if p2 < p0 then
      (0 : Int32)
    else
      (1 : Int32)
noncomputable def f_GM_unlink (S : MS) : Option MS :=
  lt (stM S 0 3 0) fun S2 =>
  lt (stM S2 0 20 0) fun S7 =>
  some S7
noncomputable def f_GM_sign (S : MS) (p1 : Int32) (p2 : Int32) : Option (Int32 × MS) :=
  lt (f_GM_in p1 0 2) fun x3 =>
  jn (fun (T31 : MS) =>
    some ((-1 : Int32), T31)) fun k31 =>
  if x3 = 0 then
    k31 S
  else
    lt (f_GM_in p2 33 126) fun x14 =>
    if x14 = 0 then
      k31 S
    else
      gd (ix p1 3) <|
      lt (S 2 p1.toNatClampNeg) fun x25 =>
      if x25 = 60 then
        k31 S
      else
        lt ((60 : Int32) * p1) fun x40 =>
        gd (ix p1 3) <|
        lt (S 2 p1.toNatClampNeg) fun x46 =>
        lt (x40 + x46) fun x47 =>
        gd (ix x47 180) <|
        lt (stM S 1 x47.toNatClampNeg p2) fun S49 =>
        gd (ix p1 3) <|
        lt (S49 2 p1.toNatClampNeg) fun x56 =>
        lt (x56 + (1 : Int32)) fun x58 =>
        gd (ix p1 3) <|
        lt (stM S49 2 p1.toNatClampNeg x58) fun S59 =>
        gd (ix p1 3) <|
        lt (stM S59 3 p1.toNatClampNeg 0) fun S66 =>
        bd (f_GM_unlink S66) fun S68 =>
        gd (ix p1 3) <|
        lt (S68 2 p1.toNatClampNeg) fun x76 =>
        some (x76, S68)
noncomputable def f_GM_clear (S : MS) (p1 : Int32) : Option (Int32 × MS) :=
  lt (f_GM_in p1 0 2) fun x3 =>
  if x3 = 0 then
    some ((-1 : Int32), S)
  else
    gd (ix p1 3) <|
    lt (stM S 2 p1.toNatClampNeg 0) fun S17 =>
    gd (ix p1 3) <|
    lt (stM S17 3 p1.toNatClampNeg 1) fun S24 =>
    bd (f_GM_unlink S24) fun S26 =>
    some ((0 : Int32), S26)
noncomputable def f_GM_isVariable (p0 : Int32) : Int32 :=
  let x5 := f_GM_in p0 97 104
  x5
noncomputable def f_GM_isLetter (p0 : Int32) : Int32 :=
  let x5 := f_GM_in p0 65 90
  x5
noncomputable def f_GM_isOperator (p0 : Int32) : Int32 :=
  if p0 = 43 then
    (1 : Int32)
  else
    if p0 = 45 then
      (1 : Int32)
    else
      if p0 = 38 then
        (1 : Int32)
      else
        if p0 = 124 then
          (1 : Int32)
        else
          if p0 = 94 then
            (1 : Int32)
          else
            if p0 = 60 then
              (1 : Int32)
            else
              if p0 = 61 then
                (1 : Int32)
              else
                (0 : Int32)
noncomputable def f_GM_push (S : MS) (p1 : Int32) (p2 : Int32) : Option (Int32 × MS) :=
  if S 0 5 = 6 then
    some ((0 : Int32), S)
  else
    gd (ix (S 0 5) 8) <|
    lt (stM S 4 (S 0 5).toNatClampNeg p1) fun S20 =>
    lt ((S20 0 5) + (1 : Int32)) fun x27 =>
    lt (stM S20 0 5 x27) fun S28 =>
    lt (stM S28 0 6 p2) fun S33 =>
    some ((1 : Int32), S33)
noncomputable def q_GM_operandEnds_0 : Nat → MS → (MS → Option MS) → Option MS
  | 0, _, _ => none
  | n + 1, S0, K0 =>
    if S0 0 5 ≤ 0 then
      K0 S0
    else
      lt ((S0 0 5) - (1 : Int32)) fun x16 =>
      gd (ix x16 8) <|
      lt (S0 4 x16.toNatClampNeg) fun x17 =>
      if x17 = 2 then
        lt ((S0 0 5) - (1 : Int32)) fun x28 =>
        lt (stM S0 0 5 x28) fun S29 =>
        q_GM_operandEnds_0 n S29 K0
      else
        K0 S0
noncomputable def f_GM_operandEnds (S : MS) : Option MS :=
  q_GM_operandEnds_0 (fz 2000) S fun (S35 : MS) =>
    lt (stM S35 0 6 5) fun S37 =>
    some S37
noncomputable def f_GM_atStatement (S : MS) (p1 : Int32) : Option (Int32 × MS) :=
  lt (S 0 9) fun x4 =>
  lt (stM S 0 9 0) fun S7 =>
  jn (fun (T32 : MS) =>
    if p1 = 125 then
      lt ((T32 0 5) - (1 : Int32)) fun x44 =>
      lt (stM T32 0 5 x44) fun S45 =>
      gd (ix (S45 0 5) 8) <|
      lt (S45 4 (S45 0 5).toNatClampNeg) fun x57 =>
      jn (fun (T67 : MS) (z67 : Int32) =>
        gd (isB z67) <|
        lt (stM T67 0 9 z67) fun S67 =>
        jn (fun (T83 : MS) (z83 : Int32) =>
          lt (stM T83 0 6 z83) fun S83 =>
          some ((1 : Int32), S83)) fun k83 =>
        if S67 0 5 = 0 then
          k83 S67 0
        else
          k83 S67 2) fun k67 =>
      if x57 = 4 then
        k67 S45 1
      else
        k67 S45 0
    else
      lt (f_GM_isLetter p1) fun x89 =>
      jn (fun (T178 : MS) =>
        some ((1 : Int32), T178)) fun k178 =>
      if x89 = 0 then
        lt (f_GM_isVariable p1) fun x105 =>
        if x105 = 0 then
          jn (fun (T142 : MS) =>
            jn (fun (T165 : MS) (z165 : Int32) =>
              lt (stM T165 0 7 z165) fun S165 =>
              lt (stM S165 0 6 4) fun S170 =>
              k178 S170) fun k165 =>
            if p1 = 33 then
              k165 T142 0
            else
              if p1 = 63 then
                k165 T142 4
              else
                k165 T142 6) fun k142 =>
          if p1 = 33 then
            k142 T32
          else
            if p1 = 63 then
              k142 T32
            else
              if p1 = 64 then
                k142 T32
              else
                some ((0 : Int32), T32)
        else
          lt (stM T32 0 7 0) fun S113 =>
          lt (stM S113 0 6 3) fun S118 =>
          k178 S118
      else
        lt (stM T32 0 6 6) fun S98 =>
        k178 S98) fun k32 =>
  if p1 = 58 then
    if x4 = 0 then
      k32 S7
    else
      lt (stM S7 0 7 5) fun S22 =>
      lt (stM S22 0 6 1) fun S27 =>
      some ((1 : Int32), S27)
  else
    k32 S7
noncomputable def f_GM_atOperand (S : MS) (p1 : Int32) : Option (Int32 × MS) :=
  if p1 = 40 then
    bd2 (f_GM_push S 1 4) fun x9 S9 =>
    some (x9, S9)
  else
    jn (fun (T25 : MS) =>
      bd2 (f_GM_push T25 2 4) fun x28 S28 =>
      some (x28, S28)) fun k25 =>
    if p1 = 126 then
      k25 S
    else
      if p1 = 45 then
        k25 S
      else
        lt (f_GM_in p1 48 57) fun x37 =>
        jn (fun (T54 : MS) =>
          jn (fun (T65 : MS) (z65 : Int32) =>
            lt (stM T65 0 8 z65) fun S65 =>
            bd (f_GM_operandEnds S65) fun S69 =>
            some ((1 : Int32), S69)) fun k65 =>
          if x37 = 0 then
            k65 T54 9
          else
            k65 T54 1) fun k54 =>
        if x37 = 0 then
          lt (f_GM_isVariable p1) fun x46 =>
          if x46 = 0 then
            some ((0 : Int32), S)
          else
            k54 S
        else
          k54 S
noncomputable def f_GM_afterOperand (S : MS) (p1 : Int32) : Option (Int32 × MS) :=
  lt (f_GM_in p1 48 57) fun x5 =>
  if x5 = 0 then
    lt ((S 0 5) - (1 : Int32)) fun x44 =>
    gd (ix x44 8) <|
    lt (S 4 x44.toNatClampNeg) fun x45 =>
    jn (fun (T55 : MS) (z55 : Int32) =>
      lt (f_GM_isOperator p1) fun x57 =>
      jn (fun (T164 : MS) =>
        some ((1 : Int32), T164)) fun k164 =>
      if x57 = 0 then
        jn (fun (T104 : MS) =>
          jn (fun (T129 : MS) =>
            jn (fun (T163 : MS) (z163 : Int32) =>
              gd (isB z163) <|
              some (z163, T163)) fun k163 =>
            jn (fun (T162 : MS) =>
              k163 T162 0) fun k162 =>
            if p1 = 123 then
              if z55 = 0 then
                if T129 0 7 ≤ 0 then
                  k162 T129
                else
                  bd2 (f_GM_push T129 (T129 0 7) 2) fun x152 S152 =>
                  if x152 = 0 then
                    k162 S152
                  else
                    k163 S152 1
              else
                k162 T129
            else
              k162 T129) fun k129 =>
          if p1 = 59 then
            if z55 = 0 then
              if T104 0 7 = 0 then
                lt (stM T104 0 6 2) fun S123 =>
                k164 S123
              else
                k129 T104
            else
              k129 T104
          else
            k129 T104) fun k104 =>
        if p1 = 41 then
          if z55 = 0 then
            k104 T55
          else
            lt ((T55 0 5) - (1 : Int32)) fun x87 =>
            lt (stM T55 0 5 x87) fun S88 =>
            lt (stM S88 0 8 9) fun S94 =>
            bd (f_GM_operandEnds S94) fun S98 =>
            k164 S98
        else
          k104 T55
      else
        lt (stM T55 0 6 4) fun S65 =>
        k164 S65) fun k55 =>
    if x45 = 1 then
      k55 S 1
    else
      k55 S 0
  else
    lt ((S 0 8) + (1 : Int32)) fun x17 =>
    lt (stM S 0 8 x17) fun S18 =>
    jn (fun (T34 : MS) (z34 : Int32) =>
      gd (isB z34) <|
      some (z34, T34)) fun k34 =>
    if (4 : Int32) < S18 0 8 then
      k34 S18 0
    else
      k34 S18 1
noncomputable def f_GM_stands (S : MS) (p1 : Int32) : Option (Int32 × MS) :=
  if S 0 6 = 0 then
    lt (stM S 0 7 3) fun S9 =>
    lt (stM S9 0 6 1) fun S14 =>
    lt (f_GM_isLetter p1) fun x18 =>
    some (x18, S14)
  else
    if S 0 6 = 1 then
      jn (fun (T53 : MS) (z53 : Int32) =>
        gd (isB z53) <|
        some (z53, T53)) fun k53 =>
      jn (fun (T52 : MS) =>
        k53 T52 0) fun k52 =>
      if p1 = 123 then
        bd2 (f_GM_push S (S 0 7) 2) fun x42 S42 =>
        if x42 = 0 then
          k52 S42
        else
          k53 S42 1
      else
        k52 S
    else
      if S 0 6 = 2 then
        bd2 (f_GM_atStatement S p1) fun x64 S64 =>
        some (x64, S64)
      else
        if S 0 6 = 4 then
          bd2 (f_GM_atOperand S p1) fun x78 S78 =>
          some (x78, S78)
        else
          if S 0 6 = 5 then
            bd2 (f_GM_afterOperand S p1) fun x92 S92 =>
            some (x92, S92)
          else
            jn (fun (T112 : MS) (z112 : Int32) =>
              jn (fun (T120 : MS) (z120 : Int32) =>
                jn (fun (T135 : MS) (z135 : Int32) =>
                  lt (stM T135 0 6 z135) fun S135 =>
                  gd (isB z120) <|
                  some (z120, S135)) fun k135 =>
                if T120 0 6 = 3 then
                  k135 T120 4
                else
                  k135 T120 2) fun k120 =>
              if p1 = z112 then
                k120 T112 1
              else
                k120 T112 0) fun k112 =>
            if S 0 6 = 3 then
              k112 S 61
            else
              k112 S 59
noncomputable def q_GM_fault_28 : Nat → MS → Int32 → Int32 → (MS → Int32 → Option (Int32 × MS)) → Option (Int32 × MS)
  | 0, _, _, _, _ => none
  | n + 1, S28, p1, y28_2, K28 =>
    gd (ix p1 3) <|
    lt (S28 2 p1.toNatClampNeg) fun x34 =>
    if x34 ≤ y28_2 then
      K28 S28 y28_2
    else
      lt ((60 : Int32) * p1) fun x46 =>
      lt (x46 + y28_2) fun x48 =>
      gd (ix x48 180) <|
      lt (S28 1 x48.toNatClampNeg) fun x49 =>
      bd2 (f_GM_stands S28 x49) fun x50 S50 =>
      if x50 = 0 then
        some (y28_2, S50)
      else
        lt (y28_2 + 1) fun x58 =>
        q_GM_fault_28 n S50 p1 x58 K28
noncomputable def f_GM_fault (S : MS) (p1 : Int32) : Option (Int32 × MS) :=
  lt (f_GM_in p1 0 2) fun x3 =>
  if x3 = 0 then
    some ((-1 : Int32), S)
  else
    lt (stM S 0 5 0) fun S13 =>
    lt (stM S13 0 6 0) fun S18 =>
    lt (stM S18 0 9 0) fun S23 =>
    q_GM_fault_28 (fz 2000) S23 p1 0 fun (S64 : MS) (y64_2 : Int32) =>
      jn (fun (T82 : MS) (z82 : Int32) =>
        some (z82, T82)) fun k82 =>
      if S64 0 6 = 0 then
        k82 S64 (-2)
      else
        gd (ix p1 3) <|
        lt (S64 2 p1.toNatClampNeg) fun x81 =>
        k82 S64 x81
noncomputable def q_GM_map_25 : Nat → MS → Int32 → Int32 → Int32 → Int32 → Int32 → Int32 → Int32 → Int32 → Int32 → (MS → Int32 → Int32 → Int32 → Int32 → Int32 → Int32 → Int32 → Option (Int32 × MS)) → Option (Int32 × MS)
  | 0, _, _, _, _, _, _, _, _, _, _, _ => none
  | n + 1, S25, x3, p1, y25_4, y25_6, y25_5, y25_7, y25_3, y25_8, y25_9, K25 =>
    gd (ix p1 3) <|
    lt (S25 2 p1.toNatClampNeg) fun x33 =>
    lt (x3 + x33) fun x34 =>
    if x34 ≤ y25_9 then
      K25 S25 y25_4 y25_6 y25_5 y25_7 y25_3 y25_8 y25_9
    else
      gd (ix y25_9 180) <|
      lt (S25 1 y25_9.toNatClampNeg) fun x44 =>
      gd (ix y25_9 180) <|
      lt (stM S25 9 y25_9.toNatClampNeg y25_6) fun S55 =>
      jn (fun (T168 : MS) (y168_4 : Int32) (y168_6 : Int32) (y168_5 : Int32) (y168_7 : Int32) =>
        jn (fun (T191 : MS) (y191_7 : Int32) =>
          jn (fun (T250 : MS) (y250_3 : Int32) =>
            jn (fun (T286 : MS) (y286_3 : Int32) =>
              jn (fun (T312 : MS) (z312 : Int32) =>
                lt (y25_9 + 1) fun x314 =>
                q_GM_map_25 n T312 x3 p1 y168_4 y168_6 y168_5 y191_7 y286_3 z312 x314 K25) fun k312 =>
              jn (fun (T307 : MS) =>
                k312 T307 1) fun k307 =>
              if x44 = 59 then
                k307 T286
              else
                if x44 = 123 then
                  k307 T286
                else
                  if x44 = 125 then
                    k307 T286
                  else
                    k312 T286 0) fun k286 =>
            if x44 = 125 then
              lt (y250_3 + (-1)) fun x257 =>
              gd (ix x257 8) <|
              lt (T250 4 x257.toNatClampNeg) fun x271 =>
              gd (ix y25_9 180) <|
              lt (stM T250 5 y25_9.toNatClampNeg x271) fun S272 =>
              gd (ix x257 8) <|
              lt (S272 4 x257.toNatClampNeg) fun x282 =>
              gd (ix x282 180) <|
              lt (stM S272 5 x282.toNatClampNeg y25_9) fun S285 =>
              k286 S285 x257
            else
              k286 T250 y250_3) fun k250 =>
          if x44 = 123 then
            gd (ix y25_9 180) <|
            lt (stM T191 6 y25_9.toNatClampNeg y191_7) fun S206 =>
            lt (y25_9 - (1 : Int32)) fun x220 =>
            gd (ix x220 180) <|
            lt (S206 1 x220.toNatClampNeg) fun x221 =>
            jn (fun (T238 : MS) (z238 : Int32) =>
              gd (ix y25_9 180) <|
              lt (stM T238 7 y25_9.toNatClampNeg z238) fun S238 =>
              gd (ix y25_3 8) <|
              lt (stM S238 4 y25_3.toNatClampNeg y25_9) fun S246 =>
              lt (y25_3 + 1) fun x247 =>
              k250 S246 x247) fun k238 =>
            if x221 = 58 then
              k238 S206 5
            else
              gd (ix y191_7 180) <|
              lt (S206 7 y191_7.toNatClampNeg) fun x237 =>
              k238 S206 x237
          else
            k250 T191 y25_3) fun k191 =>
        if x44 = 58 then
          lt (y25_9 - (1 : Int32)) fun x186 =>
          gd (ix x186 180) <|
          lt (T168 5 x186.toNatClampNeg) fun x187 =>
          gd (ix x187 180) <|
          lt (T168 6 x187.toNatClampNeg) fun x188 =>
          k191 T168 x188
        else
          k191 T168 y168_7) fun k168 =>
      jn (fun (T93 : MS) (y93_4 : Int32) (y93_6 : Int32) (y93_5 : Int32) (y93_7 : Int32) =>
        if y25_8 = 0 then
          k168 T93 y93_4 y93_6 y93_5 y93_7
        else
          if x44 = 125 then
            k168 T93 y93_4 y93_6 y93_5 y93_7
          else
            if x44 = 58 then
              k168 T93 y93_4 y93_6 y93_5 y93_7
            else
              lt (y93_5 + 1) fun x112 =>
              gd (ix y25_9 180) <|
              lt (stM T93 8 y25_9.toNatClampNeg x112) fun S123 =>
              gd (ix y25_9 180) <|
              lt (stM S123 9 y25_9.toNatClampNeg y93_6) fun S132 =>
              jn (fun (T167 : MS) (z167 : Int32) =>
                gd (ix y25_9 180) <|
                lt (stM T167 7 y25_9.toNatClampNeg z167) fun S167 =>
                k168 S167 y93_4 y93_6 x112 y25_9) fun k167 =>
              if x44 = 63 then
                k167 S132 4
              else
                if x44 = 64 then
                  k167 S132 6
                else
                  k167 S132 0) fun k93 =>
      if y25_3 = 0 then
        lt (f_GM_isLetter x44) fun x62 =>
        if x62 = 0 then
          k93 S55 y25_4 y25_6 y25_5 y25_7
        else
          lt (y25_4 + 1) fun x68 =>
          gd (ix y25_9 180) <|
          lt (stM S55 7 y25_9.toNatClampNeg 3) fun S89 =>
          k168 S89 x68 x44 0 y25_9
      else
        k93 S55 y25_4 y25_6 y25_5 y25_7
noncomputable def f_GM_map (S : MS) (p1 : Int32) : Option (Int32 × MS) :=
  lt ((60 : Int32) * p1) fun x3 =>
  q_GM_map_25 (fz 2000) S x3 p1 0 0 0 0 0 0 x3 fun (S320 : MS) (y320_4 : Int32) (y320_6 : Int32) (y320_5 : Int32) (y320_7 : Int32) (y320_3 : Int32) (y320_8 : Int32) (y320_9 : Int32) =>
    some (y320_4, S320)
noncomputable def q_GM_twice_10 : Nat → MS → Int32 → Int32 → Int32 → Int32 → (MS → Int32 → Int32 → Int32 → Option (Int32 × MS)) → Option (Int32 × MS)
  | 0, _, _, _, _, _, _ => none
  | n + 1, S10, p1, y10_2, y10_3, y10_4, K10 =>
    lt ((60 : Int32) * p1) fun x15 =>
    gd (ix p1 3) <|
    lt (S10 2 p1.toNatClampNeg) fun x21 =>
    lt (x15 + x21) fun x22 =>
    if x22 ≤ y10_4 then
      K10 S10 y10_2 y10_3 y10_4
    else
      gd (ix y10_4 180) <|
      lt (S10 1 y10_4.toNatClampNeg) fun x32 =>
      jn (fun (T72 : MS) (y72_2 : Int32) =>
        jn (fun (T82 : MS) (y82_3 : Int32) =>
          jn (fun (T92 : MS) (y92_3 : Int32) =>
            lt (y10_4 + 1) fun x92 =>
            q_GM_twice_10 n T92 p1 y72_2 y92_3 x92 K10) fun k92 =>
          if x32 = 125 then
            lt (y82_3 + (-1)) fun x89 =>
            k92 T82 x89
          else
            k92 T82 y82_3) fun k82 =>
        if x32 = 123 then
          lt (y10_3 + 1) fun x79 =>
          k82 T72 x79
        else
          k82 T72 y10_3) fun k72 =>
      if y10_3 = 0 then
        lt (f_GM_isLetter x32) fun x41 =>
        if x41 = 0 then
          k72 S10 y10_2
        else
          lt (x32 - (65 : Int32)) fun x52 =>
          lt (y10_2 >>> (x52 &&& 31)) fun x53 =>
          lt (x53 &&& (1 : Int32)) fun x55 =>
          if x55 = 1 then
            some ((1 : Int32), S10)
          else
            lt (x32 - (65 : Int32)) fun x68 =>
            lt ((1 : Int32) <<< (x68 &&& 31)) fun x69 =>
            lt (y10_2 ||| x69) fun x70 =>
            k72 S10 x70
      else
        k72 S10 y10_2
noncomputable def f_GM_twice (S : MS) (p1 : Int32) : Option (Int32 × MS) :=
  lt ((60 : Int32) * p1) fun x7 =>
  q_GM_twice_10 (fz 2000) S p1 0 0 x7 fun (S98 : MS) (y98_2 : Int32) (y98_3 : Int32) (y98_4 : Int32) =>
    some ((0 : Int32), S98)
noncomputable def f_GM_compile (S : MS) (p1 : Int32) : Option (Int32 × MS) :=
  lt (f_GM_in p1 0 2) fun x3 =>
  if x3 = 0 then
    some ((-1 : Int32), S)
  else
    bd (f_GM_unlink S) fun S12 =>
    gd (ix p1 3) <|
    lt (stM S12 3 p1.toNatClampNeg 0) fun S21 =>
    bd2 (f_GM_fault S21 p1) fun x24 S24 =>
    if x24 = (-2) then
      bd2 (f_GM_twice S24 p1) fun x37 S37 =>
      if x37 = 0 then
        gd (ix p1 3) <|
        lt (stM S37 3 p1.toNatClampNeg 1) fun S52 =>
        bd2 (f_GM_map S52 p1) fun x55 S55 =>
        some (x55, S55)
      else
        some ((-3 : Int32), S37)
    else
      some ((-2 : Int32), S24)
noncomputable def q_GM_gather_2 : Nat → MS → Int32 → (MS → Int32 → Option (Int32 × MS)) → Option (Int32 × MS)
  | 0, _, _, _ => none
  | n + 1, S2, y2_1, K2 =>
    if (26 : Int32) ≤ y2_1 then
      K2 S2 y2_1
    else
      gd (ix y2_1 26) <|
      lt (stM S2 10 y2_1.toNatClampNeg (-1)) fun S14 =>
      gd (ix y2_1 26) <|
      lt (stM S14 11 y2_1.toNatClampNeg 0) fun S21 =>
      lt (y2_1 + 1) fun x22 =>
      q_GM_gather_2 n S21 x22 K2
noncomputable def q_GM_gather_52 : Nat → MS → Int32 → Int32 → Int32 → Int32 → Int32 → (MS → Int32 → Int32 → Int32 → Option (Int32 × MS)) → Option (Int32 × MS)
  | 0, _, _, _, _, _, _, _ => none
  | n + 1, S52, x37, y30_1, y52_4, y52_3, y52_5, K52 =>
    lt ((60 : Int32) * y30_1) fun x57 =>
    gd (ix y30_1 3) <|
    lt (S52 2 y30_1.toNatClampNeg) fun x63 =>
    lt (x57 + x63) fun x64 =>
    if x64 ≤ y52_5 then
      K52 S52 y52_4 y52_3 y52_5
    else
      gd (ix y52_5 180) <|
      lt (S52 1 y52_5.toNatClampNeg) fun x74 =>
      jn (fun (T147 : MS) (y147_4 : Int32) =>
        jn (fun (T157 : MS) (y157_3 : Int32) =>
          jn (fun (T167 : MS) (y167_3 : Int32) =>
            lt (y52_5 + 1) fun x167 =>
            q_GM_gather_52 n T167 x37 y30_1 y147_4 y167_3 x167 K52) fun k167 =>
          if x74 = 125 then
            lt (y157_3 + (-1)) fun x164 =>
            k167 T157 x164
          else
            k167 T157 y157_3) fun k157 =>
        if x74 = 123 then
          lt (y52_3 + 1) fun x154 =>
          k157 T147 x154
        else
          k157 T147 y52_3) fun k147 =>
      jn (fun (T122 : MS) (y122_4 : Int32) =>
        lt (f_GM_isLetter x74) fun x124 =>
        if x124 = 0 then
          k147 T122 y122_4
        else
          gd (ix y122_4 26) <|
          lt (T122 11 y122_4.toNatClampNeg) fun x137 =>
          lt (x74 - (65 : Int32)) fun x143 =>
          lt ((1 : Int32) <<< (x143 &&& 31)) fun x144 =>
          lt (x137 ||| x144) fun x145 =>
          gd (ix y122_4 26) <|
          lt (stM T122 11 y122_4.toNatClampNeg x145) fun S146 =>
          k147 S146 y122_4) fun k122 =>
      if y52_3 = 0 then
        lt (f_GM_isLetter x74) fun x83 =>
        if x83 = 0 then
          k122 S52 y52_4
        else
          lt (x74 - (65 : Int32)) fun x93 =>
          gd (ix x93 26) <|
          lt (S52 10 x93.toNatClampNeg) fun x102 =>
          if x102 < 0 then
            lt (y52_5 + (1 : Int32)) fun x117 =>
            gd (ix x93 26) <|
            lt (stM S52 10 x93.toNatClampNeg x117) fun S118 =>
            k147 S118 x93
          else
            some ((0 : Int32), S52)
      else
        k122 S52 y52_4
noncomputable def q_GM_gather_30 : Nat → MS → Int32 → (MS → Int32 → Option (Int32 × MS)) → Option (Int32 × MS)
  | 0, _, _, _ => none
  | n + 1, S30, y30_1, K30 =>
    if (3 : Int32) ≤ y30_1 then
      K30 S30 y30_1
    else
      bd2 (f_GM_map S30 y30_1) fun x37 S37 =>
      lt ((60 : Int32) * y30_1) fun x49 =>
      q_GM_gather_52 (fz 2000) S37 x37 y30_1 0 0 x49 fun (S173 : MS) (y173_4 : Int32) (y173_3 : Int32) (y173_5 : Int32) =>
        lt (y30_1 + 1) fun x173 =>
        q_GM_gather_30 n S173 x173 K30
noncomputable def f_GM_gather (S : MS) : Option (Int32 × MS) :=
  q_GM_gather_2 (fz 2000) S 0 fun (S28 : MS) (y28_1 : Int32) =>
    q_GM_gather_30 (fz 2000) S28 0 fun (S179 : MS) (y179_1 : Int32) =>
      some ((1 : Int32), S179)
noncomputable def q_GM_link_52 : Nat → MS → Int32 → Int32 → Int32 → Int32 → (MS → Int32 → Int32 → Int32 → Int32 → Option (Int32 × MS)) → Option (Int32 × MS)
  | 0, _, _, _, _, _, _ => none
  | n + 1, S52, y52_1, y52_3, y52_2, y52_4, K52 =>
    if (26 : Int32) ≤ y52_4 then
      K52 S52 y52_1 y52_3 y52_2 y52_4
    else
      gd (ix y52_4 26) <|
      lt (S52 10 y52_4.toNatClampNeg) fun x65 =>
      jn (fun (T79 : MS) (y79_1 : Int32) (y79_3 : Int32) =>
        gd (ix y52_4 26) <|
        lt (T79 11 y52_4.toNatClampNeg) fun x86 =>
        lt (y52_2 ||| x86) fun x87 =>
        lt (y52_4 + 1) fun x89 =>
        q_GM_link_52 n T79 y79_1 y79_3 x87 x89 K52) fun k79 =>
      if x65 < 0 then
        k79 S52 y52_1 y52_3
      else
        lt ((1 : Int32) <<< (y52_4 &&& 31)) fun x73 =>
        lt (y52_1 ||| x73) fun x74 =>
        lt (y52_3 + 1) fun x76 =>
        k79 S52 x74 x76
noncomputable def q_GM_link_139 : Nat → MS → Int32 → Int32 → Int32 → Int32 → Int32 → Int32 → (MS → Int32 → Option (Int32 × MS)) → Option (Int32 × MS)
  | 0, _, _, _, _, _, _, _, _ => none
  | n + 1, S139, y129_5, y119_4, y95_3, y95_2, y95_1, y139_6, K139 =>
    if (26 : Int32) ≤ y139_6 then
      K139 S139 y139_6
    else
      gd (ix y129_5 26) <|
      lt (S139 11 y129_5.toNatClampNeg) fun x152 =>
      lt (x152 >>> (y139_6 &&& 31)) fun x155 =>
      lt (x155 &&& (1 : Int32)) fun x157 =>
      jn (fun (T179 : MS) =>
        lt (y139_6 + 1) fun x179 =>
        q_GM_link_139 n T179 y129_5 y119_4 y95_3 y95_2 y95_1 x179 K139) fun k179 =>
      if x157 = 1 then
        gd (ix y129_5 26) <|
        lt (S139 11 y129_5.toNatClampNeg) fun x169 =>
        gd (ix y139_6 26) <|
        lt (S139 11 y139_6.toNatClampNeg) fun x176 =>
        lt (x169 ||| x176) fun x177 =>
        gd (ix y129_5 26) <|
        lt (stM S139 11 y129_5.toNatClampNeg x177) fun S178 =>
        k179 S178
      else
        k179 S139
noncomputable def q_GM_link_129 : Nat → MS → Int32 → Int32 → Int32 → Int32 → Int32 → (MS → Int32 → Option (Int32 × MS)) → Option (Int32 × MS)
  | 0, _, _, _, _, _, _, _ => none
  | n + 1, S129, y119_4, y95_3, y95_2, y95_1, y129_5, K129 =>
    if (26 : Int32) ≤ y129_5 then
      K129 S129 y129_5
    else
      q_GM_link_139 (fz 2000) S129 y129_5 y119_4 y95_3 y95_2 y95_1 0 fun (S185 : MS) (y185_6 : Int32) =>
        lt (y129_5 + 1) fun x185 =>
        q_GM_link_129 n S185 y119_4 y95_3 y95_2 y95_1 x185 K129
noncomputable def q_GM_link_119 : Nat → MS → Int32 → Int32 → Int32 → Int32 → (MS → Int32 → Option (Int32 × MS)) → Option (Int32 × MS)
  | 0, _, _, _, _, _, _ => none
  | n + 1, S119, y95_3, y95_2, y95_1, y119_4, K119 =>
    if (26 : Int32) ≤ y119_4 then
      K119 S119 y119_4
    else
      q_GM_link_129 (fz 2000) S119 y119_4 y95_3 y95_2 y95_1 0 fun (S191 : MS) (y191_5 : Int32) =>
        lt (y119_4 + 1) fun x191 =>
        q_GM_link_119 n S191 y95_3 y95_2 y95_1 x191 K119
noncomputable def q_GM_link_200 : Nat → MS → Int32 → Int32 → Int32 → Int32 → (MS → Int32 → Option (Int32 × MS)) → Option (Int32 × MS)
  | 0, _, _, _, _, _, _ => none
  | n + 1, S200, y95_3, y95_2, y95_1, y200_4, K200 =>
    if (26 : Int32) ≤ y200_4 then
      K200 S200 y200_4
    else
      gd (ix y200_4 26) <|
      lt (S200 11 y200_4.toNatClampNeg) fun x213 =>
      lt (x213 >>> (y200_4 &&& 31)) fun x216 =>
      lt (x216 &&& (1 : Int32)) fun x218 =>
      if x218 = 1 then
        some ((-5 : Int32), S200)
      else
        lt (y200_4 + 1) fun x226 =>
        q_GM_link_200 n S200 y95_3 y95_2 y95_1 x226 K200
noncomputable def f_GM_link (S : MS) : Option (Int32 × MS) :=
  gd (ix (0 : Int32) 3) <|
  lt (S 3 (0 : Int32).toNatClampNeg) fun x5 =>
  jn (fun (T27 : MS) =>
    some ((-1 : Int32), T27)) fun k27 =>
  if x5 = 0 then
    k27 S
  else
    gd (ix (1 : Int32) 3) <|
    lt (S 3 (1 : Int32).toNatClampNeg) fun x14 =>
    if x14 = 0 then
      k27 S
    else
      gd (ix (2 : Int32) 3) <|
      lt (S 3 (2 : Int32).toNatClampNeg) fun x23 =>
      if x23 = 0 then
        k27 S
      else
        bd (f_GM_unlink S) fun S30 =>
        bd2 (f_GM_gather S30) fun x34 S34 =>
        if x34 = 0 then
          some ((-3 : Int32), S34)
        else
          q_GM_link_52 (fz 2000) S34 0 0 0 0 fun (S95 : MS) (y95_1 : Int32) (y95_3 : Int32) (y95_2 : Int32) (y95_4 : Int32) =>
            gd (ix (12 : Int32) 26) <|
            lt (S95 10 (12 : Int32).toNatClampNeg) fun x101 =>
            jn (fun (T113 : MS) =>
              some ((-4 : Int32), T113)) fun k113 =>
            if x101 < 0 then
              k113 S95
            else
              lt (y95_1 ^^^ (-1 : Int32)) fun x108 =>
              lt (y95_2 &&& x108) fun x109 =>
              if x109 = 0 then
                q_GM_link_119 (fz 2000) S95 y95_3 y95_2 y95_1 0 fun (S197 : MS) (y197_4 : Int32) =>
                  q_GM_link_200 (fz 2000) S197 y95_3 y95_2 y95_1 0 fun (S232 : MS) (y232_4 : Int32) =>
                    lt (stM S232 0 3 1) fun S234 =>
                    some (y95_3, S234)
              else
                k113 S95
noncomputable def f_GM_apply (p0 : Int32) (p1 : Int32) (p2 : Int32) : Int32 :=
  if p0 = 43 then
    let x8 : Int32 := p1 + p2
    x8
  else
    if p0 = 45 then
      let x18 : Int32 := p1 - p2
      x18
    else
      if p0 = 38 then
        let x28 : Int32 := p1 &&& p2
        x28
      else
        if p0 = 124 then
          let x38 : Int32 := p1 ||| p2
          x38
        else
          if p0 = 94 then
            let x48 : Int32 := p1 ^^^ p2
            x48
          else
            if p0 = 60 then
              if p2 ≤ p1 then
                (0 : Int32)
              else
                (1 : Int32)
            else
              if p0 = 61 then
                if p1 = p2 then
                  (1 : Int32)
                else
                  (0 : Int32)
              else
                p2
noncomputable def q_GM_operand_2 : Nat → MS → Int32 → Int32 → Int32 → (MS → Int32 → Option MS) → Option MS
  | 0, _, _, _, _, _ => none
  | n + 1, S2, p1, p2, y2_3, K2 =>
    gd (ix p1 8) <|
    lt (S2 17 p1.toNatClampNeg) fun x11 =>
    if S2 0 28 ≤ x11 then
      K2 S2 y2_3
    else
      lt ((S2 0 28) - (1 : Int32)) fun x21 =>
      lt (stM S2 0 28 x21) fun S22 =>
      gd (ix (S22 0 28) 60) <|
      lt (S22 18 (S22 0 28).toNatClampNeg) fun x33 =>
      jn (fun (T47 : MS) (z47 : Int32) =>
        q_GM_operand_2 n T47 p1 p2 z47 K2) fun k47 =>
      if x33 = 126 then
        lt (y2_3 ^^^ (-1 : Int32)) fun x41 =>
        k47 S22 x41
      else
        lt (-y2_3) fun x46 =>
        k47 S22 x46
noncomputable def f_GM_operand (S : MS) (p1 : Int32) (p2 : Int32) : Option MS :=
  q_GM_operand_2 (fz 2000) S p1 p2 p2 fun (S51 : MS) (y51_3 : Int32) =>
    gd (ix p1 8) <|
    lt (S51 16 p1.toNatClampNeg) fun x61 =>
    gd (ix p1 8) <|
    lt (S51 15 p1.toNatClampNeg) fun x67 =>
    lt (f_GM_apply x61 x67 y51_3) fun x69 =>
    gd (ix p1 8) <|
    lt (stM S51 15 p1.toNatClampNeg x69) fun S72 =>
    some S72
noncomputable def q_GM_work_89 : Nat → MS → Int32 → Int32 → Int32 → Int32 → Int32 → Int32 → (MS → Int32 → Int32 → Option (Int32 × MS)) → Option (Int32 × MS)
  | 0, _, _, _, _, _, _, _, _ => none
  | n + 1, S89, x64, y26_3, y26_2, p1, y89_6, y89_4, K89 =>
    gd (ix y89_4 180) <|
    lt (S89 1 y89_4.toNatClampNeg) fun x95 =>
    lt (f_GM_in x95 48 57) fun x100 =>
    if x100 = 0 then
      K89 S89 y89_6 y89_4
    else
      lt ((10 : Int32) * y89_6) fun x110 =>
      gd (ix y89_4 180) <|
      lt (S89 1 y89_4.toNatClampNeg) fun x117 =>
      lt (x110 + x117) fun x118 =>
      lt (x118 - (48 : Int32)) fun x121 =>
      lt (y89_4 + 1) fun x124 =>
      q_GM_work_89 n S89 x64 y26_3 y26_2 p1 x121 x124 K89
noncomputable def q_GM_work_26 : Nat → MS → Int32 → Int32 → Int32 → Int32 → (MS → Int32 → Int32 → Int32 → Option (Int32 × MS)) → Option (Int32 × MS)
  | 0, _, _, _, _, _, _ => none
  | n + 1, S26, p1, y26_4, y26_3, y26_2, K26 =>
    jn (fun (T58 : MS) =>
      gd (ix y26_4 180) <|
      lt (T58 1 y26_4.toNatClampNeg) fun x64 =>
      lt (y26_4 + 1) fun x67 =>
      lt (f_GM_in x64 48 57) fun x76 =>
      jn (fun (T264 : MS) (y264_4 : Int32) (y264_3 : Int32) (y264_2 : Int32) =>
        q_GM_work_26 n T264 p1 y264_4 y264_3 y264_2 K26) fun k264 =>
      if x76 = 0 then
        lt (f_GM_isVariable x64) fun x144 =>
        if x144 = 0 then
          if x64 = 40 then
            lt (y26_2 + 1) fun x177 =>
            gd (ix x177 8) <|
            lt (stM T58 17 x177.toNatClampNeg (T58 0 28)) fun S189 =>
            gd (ix x177 8) <|
            lt (stM S189 16 x177.toNatClampNeg 0) fun S196 =>
            k264 S196 x67 y26_3 x177
          else
            if x64 = 41 then
              lt (y26_2 + (-1)) fun x207 =>
              lt (x207 + (1 : Int32)) fun x218 =>
              gd (ix x218 8) <|
              lt (T58 15 x218.toNatClampNeg) fun x219 =>
              bd (f_GM_operand T58 x207 x219) fun S220 =>
              k264 S220 x67 y26_3 x207
            else
              if y26_3 = 0 then
                gd (ix y26_2 8) <|
                lt (stM T58 16 y26_2.toNatClampNeg x64) fun S261 =>
                k264 S261 x67 1 y26_2
              else
                gd (ix (T58 0 28) 60) <|
                lt (stM T58 18 (T58 0 28).toNatClampNeg x64) fun S240 =>
                lt ((S240 0 28) + (1 : Int32)) fun x247 =>
                lt (stM S240 0 28 x247) fun S248 =>
                k264 S248 x67 y26_3 y26_2
        else
          lt (x64 - (97 : Int32)) fun x160 =>
          gd (ix x160 8) <|
          lt (T58 12 x160.toNatClampNeg) fun x161 =>
          bd (f_GM_operand T58 y26_2 x161) fun S162 =>
          k264 S162 x67 0 y26_2
      else
        lt (x64 - (48 : Int32)) fun x86 =>
        q_GM_work_89 (fz 2000) T58 x64 y26_3 y26_2 p1 x86 x67 fun (S130 : MS) (y130_6 : Int32) (y130_4 : Int32) =>
          bd (f_GM_operand S130 y26_2 y130_6) fun S134 =>
          k264 S134 y130_4 0 y26_2) fun k58 =>
    if (0 : Int32) < y26_2 then
      k58 S26
    else
      if y26_3 = 0 then
        gd (ix y26_4 180) <|
        lt (S26 1 y26_4.toNatClampNeg) fun x40 =>
        if x40 = 59 then
          K26 S26 y26_4 y26_3 y26_2
        else
          gd (ix y26_4 180) <|
          lt (S26 1 y26_4.toNatClampNeg) fun x52 =>
          if x52 = 123 then
            K26 S26 y26_4 y26_3 y26_2
          else
            k58 S26
      else
        k58 S26
noncomputable def f_GM_work (S : MS) (p1 : Int32) : Option (Int32 × MS) :=
  lt (stM S 0 28 0) fun S6 =>
  gd (ix (0 : Int32) 8) <|
  lt (stM S6 17 (0 : Int32).toNatClampNeg 0) fun S15 =>
  gd (ix (0 : Int32) 8) <|
  lt (stM S15 16 (0 : Int32).toNatClampNeg 0) fun S22 =>
  q_GM_work_26 (fz 2000) S22 p1 p1 1 0 fun (S267 : MS) (y267_4 : Int32) (y267_3 : Int32) (y267_2 : Int32) =>
    lt (stM S267 0 29 y267_4) fun S270 =>
    gd (ix (0 : Int32) 8) <|
    lt (S270 15 (0 : Int32).toNatClampNeg) fun x278 =>
    some (x278, S270)
noncomputable def q_GM_settle_0 : Nat → MS → (MS → Option MS) → Option MS
  | 0, _, _ => none
  | n + 1, S0, K0 =>
    if S0 0 20 = 0 then
      K0 S0
    else
      gd (ix (S0 0 21) 180) <|
      lt (S0 1 (S0 0 21).toNatClampNeg) fun x15 =>
      if x15 = 125 then
        gd (ix (S0 0 21) 180) <|
        lt (S0 5 (S0 0 21).toNatClampNeg) fun x29 =>
        gd (ix x29 180) <|
        lt (S0 7 x29.toNatClampNeg) fun x36 =>
        jn (fun (T156 : MS) =>
          q_GM_settle_0 n T156 K0) fun k156 =>
        if x36 = 6 then
          gd (ix x29 180) <|
          lt (S0 6 x29.toNatClampNeg) fun x50 =>
          lt (stM S0 0 21 x50) fun S51 =>
          k156 S51
        else
          jn (fun (T67 : MS) =>
            lt ((T67 0 21) + (1 : Int32)) fun x73 =>
            lt (stM T67 0 21 x73) fun S74 =>
            if x36 = 4 then
              gd (ix (S74 0 21) 180) <|
              lt (S74 1 (S74 0 21).toNatClampNeg) fun x90 =>
              if x90 = 58 then
                lt ((S74 0 21) + (1 : Int32)) fun x106 =>
                gd (ix x106 180) <|
                lt (S74 5 x106.toNatClampNeg) fun x107 =>
                lt (x107 + (1 : Int32)) fun x109 =>
                lt (stM S74 0 21 x109) fun S110 =>
                k156 S110
              else
                k156 S74
            else
              k156 S74) fun k67 =>
          if x36 = 4 then
            k67 S0
          else
            if x36 = 5 then
              k67 S0
            else
              lt ((S0 0 23) - (1 : Int32)) fun x122 =>
              lt (stM S0 0 23 x122) fun S123 =>
              if S123 0 23 = 0 then
                lt (stM S123 0 20 0) fun S135 =>
                k156 S135
              else
                lt ((S123 0 23) - (1 : Int32)) fun x151 =>
                gd (ix x151 26) <|
                lt (S123 14 x151.toNatClampNeg) fun x152 =>
                lt (stM S123 0 21 x152) fun S153 =>
                k156 S153
      else
        K0 S0
noncomputable def f_GM_settle (S : MS) : Option MS :=
  q_GM_settle_0 (fz 2000) S fun (S159 : MS) =>
    some S159
noncomputable def f_GM_start (S : MS) : Option (Int32 × MS) :=
  jn (fun (T14 : MS) =>
    some ((-1 : Int32), T14)) fun k14 =>
  if S 0 3 = 0 then
    k14 S
  else
    if S 0 20 = 0 then
      lt (stM S 0 19 0) fun S18 =>
      lt (stM S18 0 20 1) fun S23 =>
      lt (stM S23 0 23 1) fun S28 =>
      gd (ix (12 : Int32) 26) <|
      lt (S28 10 (12 : Int32).toNatClampNeg) fun x38 =>
      lt (x38 + (1 : Int32)) fun x40 =>
      lt (stM S28 0 21 x40) fun S41 =>
      bd (f_GM_settle S41) fun S45 =>
      jn (fun (T60 : MS) (z60 : Int32) =>
        some (z60, T60)) fun k60 =>
      if S45 0 20 = 0 then
        k60 S45 0
      else
        k60 S45 1
    else
      k14 S
noncomputable def f_GM_branch (S : MS) (p1 : Int32) : Option MS :=
  lt (p1 + (1 : Int32)) fun x3 =>
  bd2 (f_GM_work S x3) fun x4 S4 =>
  lt (S4 0 29) fun x12 =>
  gd (ix p1 180) <|
  lt (S4 1 p1.toNatClampNeg) fun x18 =>
  jn (fun (T29 : MS) (z29 : Int32) =>
    jn (fun (T86 : MS) =>
      some T86) fun k86 =>
    if x4 = 0 then
      gd (ix x12 180) <|
      lt (T29 5 x12.toNatClampNeg) fun x51 =>
      lt (x51 + (1 : Int32)) fun x53 =>
      lt (stM T29 0 21 x53) fun S54 =>
      if z29 = 0 then
        gd (ix (S54 0 21) 180) <|
        lt (S54 1 (S54 0 21).toNatClampNeg) fun x70 =>
        if x70 = 58 then
          lt ((S54 0 21) + (2 : Int32)) fun x82 =>
          lt (stM S54 0 21 x82) fun S83 =>
          k86 S83
        else
          k86 S54
      else
        k86 S54
    else
      lt (x12 + (1 : Int32)) fun x38 =>
      lt (stM T29 0 21 x38) fun S39 =>
      k86 S39) fun k29 =>
  if x18 = 64 then
    k29 S4 1
  else
    k29 S4 0
noncomputable def f_GM_step (S : MS) : Option MS :=
  gd (ix (S 0 21) 180) <|
  lt (S 1 (S 0 21).toNatClampNeg) fun x8 =>
  lt (f_GM_isLetter x8) fun x11 =>
  jn (fun (T174 : MS) =>
    bd (f_GM_settle T174) fun S175 =>
    some S175) fun k174 =>
  if x11 = 0 then
    jn (fun (T74 : MS) =>
      bd (f_GM_branch T74 (T74 0 21)) fun S79 =>
      k174 S79) fun k74 =>
    if x8 = 63 then
      k74 S
    else
      if x8 = 64 then
        k74 S
      else
        if x8 = 33 then
          lt ((S 0 21) + (1 : Int32)) fun x97 =>
          bd2 (f_GM_work S x97) fun x98 S98 =>
          jn (fun (T122 : MS) =>
            lt ((T122 0 19) + (1 : Int32)) fun x128 =>
            lt (stM T122 0 19 x128) fun S129 =>
            lt ((S129 0 29) + (1 : Int32)) fun x138 =>
            lt (stM S129 0 21 x138) fun S139 =>
            k174 S139) fun k122 =>
          if (24 : Int32) ≤ S98 0 19 then
            k122 S98
          else
            gd (ix (S98 0 19) 24) <|
            lt (stM S98 13 (S98 0 19).toNatClampNeg x98) fun S121 =>
            k122 S121
        else
          lt (x8 - (97 : Int32)) fun x152 =>
          lt ((S 0 21) + (2 : Int32)) fun x159 =>
          bd2 (f_GM_work S x159) fun x160 S160 =>
          gd (ix x152 8) <|
          lt (stM S160 12 x152.toNatClampNeg x160) fun S163 =>
          lt ((S163 0 29) + (1 : Int32)) fun x170 =>
          lt (stM S163 0 21 x170) fun S171 =>
          k174 S171
  else
    lt ((S 0 23) - (1 : Int32)) fun x26 =>
    lt ((S 0 21) + (2 : Int32)) fun x32 =>
    gd (ix x26 26) <|
    lt (stM S 14 x26.toNatClampNeg x32) fun S33 =>
    lt ((S33 0 23) + (1 : Int32)) fun x40 =>
    lt (stM S33 0 23 x40) fun S41 =>
    lt (x8 - (65 : Int32)) fun x52 =>
    gd (ix x52 26) <|
    lt (S41 10 x52.toNatClampNeg) fun x53 =>
    lt (x53 + (1 : Int32)) fun x55 =>
    lt (stM S41 0 21 x55) fun S56 =>
    k174 S56
noncomputable def q_GM_run_20 : Nat → MS → Int32 → Int32 → (MS → Int32 → Option (Int32 × MS)) → Option (Int32 × MS)
  | 0, _, _, _, _ => none
  | n + 1, S20, p1, y20_2, K20 =>
    if p1 ≤ y20_2 then
      K20 S20 y20_2
    else
      if S20 0 20 = 0 then
        K20 S20 y20_2
      else
        bd (f_GM_step S20) fun S33 =>
        lt (y20_2 + 1) fun x36 =>
        q_GM_run_20 n S33 p1 x36 K20
noncomputable def f_GM_run (S : MS) (p1 : Int32) : Option (Int32 × MS) :=
  lt (f_GM_in p1 1 4) fun x3 =>
  jn (fun (T16 : MS) =>
    some ((-1 : Int32), T16)) fun k16 =>
  if x3 = 0 then
    k16 S
  else
    if S 0 20 = 0 then
      k16 S
    else
      q_GM_run_20 (fz 2000) S p1 0 fun (S42 : MS) (y42_2 : Int32) =>
        jn (fun (T54 : MS) (z54 : Int32) =>
          some (z54, T54)) fun k54 =>
        if S42 0 20 = 0 then
          k54 S42 0
        else
          k54 S42 1
noncomputable def f_GM_stop (S : MS) : Option (Int32 × MS) :=
  if S 0 20 = 0 then
    some ((-1 : Int32), S)
  else
    lt (stM S 0 20 0) fun S11 =>
    some ((0 : Int32), S11)
noncomputable def f_GM_set (S : MS) (p1 : Int32) (p2 : Int32) : Option (Int32 × MS) :=
  lt (f_GM_in p1 0 7) fun x4 =>
  if x4 = 0 then
    some ((-1 : Int32), S)
  else
    gd (ix p1 8) <|
    lt (stM S 12 p1.toNatClampNeg p2) fun S18 =>
    some ((0 : Int32), S18)
noncomputable def f_GM_get (S : MS) (p1 : Int32) : Option (Int64 × MS) :=
  lt (f_GM_in p1 0 7) fun x4 =>
  jn (fun (T23 : MS) (z23 : Int64) =>
    some ((z23 : Int64), T23)) fun k23 =>
  if x4 = 0 then
    k23 S (-1000000000000)
  else
    gd (ix p1 8) <|
    lt (S 12 p1.toNatClampNeg) fun x15 =>
    k23 S x15.toInt64
noncomputable def f_GM_output (S : MS) (p1 : Int32) : Option (Int64 × MS) :=
  lt (f_GM_in p1 0 23) fun x4 =>
  jn (fun (T30 : MS) (z30 : Int64) =>
    some ((z30 : Int64), T30)) fun k30 =>
  jn (fun (T27 : MS) =>
    k30 T27 (-1000000000000)) fun k27 =>
  if x4 = 0 then
    k27 S
  else
    if S 0 19 ≤ p1 then
      k27 S
    else
      gd (ix p1 24) <|
      k30 S ((S 13 p1.toNatClampNeg).toInt64)
noncomputable def f_GM_at (S : MS) (p1 : Int32) : Option (Int32 × MS) :=
  if p1 = 3 then
    some (S 0 19, S)
  else
    lt (f_GM_in p1 0 2) fun x13 =>
    if x13 = 0 then
      some ((-1 : Int32), S)
    else
      if S 0 20 = 0 then
        some ((0 : Int32), S)
      else
        jn (fun (T67 : MS) (z67 : Int32) =>
          some (z67, T67)) fun k67 =>
        if p1 = 0 then
          gd (ix (S 0 21) 180) <|
          lt (S 9 (S 0 21).toNatClampNeg) fun x42 =>
          k67 S x42
        else
          if p1 = 1 then
            gd (ix (S 0 21) 180) <|
            lt (S 8 (S 0 21).toNatClampNeg) fun x59 =>
            k67 S x59
          else
            k67 S (S 0 23)
noncomputable def f_GM_operate (S : MS) (p1 : Int32) (p2 : Int32) (p3 : Int32) : Option (Int64 × MS) :=
  lt (f_GM_in p1 0 5) fun x3 =>
  if x3 = 0 then
    some (((-1000000000000) : Int64), S)
  else
    jn (fun (T64 : MS) (z64 : Int32) =>
      lt (f_GM_apply z64 p2 p3) fun x70 =>
      some ((x70.toInt64 : Int64), T64)) fun k64 =>
    if p1 = 0 then
      k64 S 43
    else
      if p1 = 1 then
        k64 S 45
      else
        if p1 = 2 then
          k64 S 38
        else
          if p1 = 3 then
            k64 S 124
          else
            if p1 = 4 then
              k64 S 94
            else
              k64 S 60
noncomputable def f_GM_state (S : MS) (p1 : Int32) (p2 : Int32) : Option (Int32 × MS) :=
  lt (f_GM_in p1 0 2) fun x3 =>
  jn (fun (T18 : MS) =>
    some ((-1 : Int32), T18)) fun k18 =>
  if x3 = 0 then
    k18 S
  else
    lt (f_GM_in p2 0 2) fun x12 =>
    if x12 = 0 then
      k18 S
    else
      jn (fun (T67 : MS) (z67 : Int32) =>
        some (z67, T67)) fun k67 =>
      if p2 = 0 then
        gd (ix p1 3) <|
        lt (S 2 p1.toNatClampNeg) fun x29 =>
        k67 S x29
      else
        if p2 = 1 then
          gd (ix p1 3) <|
          lt (S 3 p1.toNatClampNeg) fun x43 =>
          if x43 = 0 then
            k67 S 0
          else
            k67 S 1
        else
          if S 0 3 = 0 then
            k67 S 0
          else
            k67 S 1
