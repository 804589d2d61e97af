noncomputable def f_GS_isModule (p0 : Int32) : Int32 :=
  if p0 < 0 then
    (0 : Int32)
  else
    if (3 : Int32) ≤ p0 then
      (0 : Int32)
    else
      (1 : Int32)
noncomputable def f_GS_isLetter (p0 : Int32) : Int32 :=
  if p0 < 65 then
    (0 : Int32)
  else
    if (90 : Int32) < p0 then
      (0 : Int32)
    else
      (1 : Int32)
noncomputable def f_GS_isLetterNumber (p0 : Int32) : Int32 :=
  if p0 < 0 then
    (0 : Int32)
  else
    if (26 : Int32) ≤ p0 then
      (0 : Int32)
    else
      (1 : Int32)
noncomputable def f_GS_hasBit (p0 : Int32) (p1 : Int32) : Int32 :=
  let x2 : Int32 := (p0.toUInt32 >>> (p1.toUInt32 &&& Int32.toUInt32 31)).toInt32
  let x4 : Int32 := x2 &&& (1 : Int32)
  if x4 = 0 then
    (0 : Int32)
  else
    (1 : Int32)
noncomputable def f_GS_isVariable (p0 : Int32) : Int32 :=
  if p0 < 97 then
    (0 : Int32)
  else
    if (104 : Int32) < p0 then
      (0 : Int32)
    else
      (1 : Int32)
noncomputable def f_RD_behindFirstSign (p0 : Int32) : Int32 :=
  let x1 := f_GS_isVariable p0
  if x1 = 0 then
    let x10 := f_GS_isLetter p0
    if x10 = 0 then
      if p0 = 33 then
        (6 : Int32)
      else
        if p0 = 63 then
          (6 : Int32)
        else
          if p0 = 64 then
            (6 : Int32)
          else
            (2 : Int32)
    else
      (5 : Int32)
  else
    (4 : Int32)
noncomputable def f_GS_isPrefix (p0 : Int32) : Int32 :=
  if p0 = 126 then
    (1 : Int32)
  else
    if p0 = 45 then
      (1 : Int32)
    else
      (0 : Int32)
noncomputable def f_GS_isDigit (p0 : Int32) : Int32 :=
  if p0 < 48 then
    (0 : Int32)
  else
    if (57 : Int32) < p0 then
      (0 : Int32)
    else
      (1 : Int32)
noncomputable def f_GS_operationOf (p0 : Int32) : Int32 :=
  if p0 = 38 then
    (2 : Int32)
  else
    if p0 = 43 then
      (0 : Int32)
    else
      if p0 = 45 then
        (1 : Int32)
      else
        if p0 = 60 then
          (5 : Int32)
        else
          if p0 = 61 then
            (6 : Int32)
          else
            if p0 = 94 then
              (4 : Int32)
            else
              if p0 = 124 then
                (3 : Int32)
              else
                (-1 : Int32)
noncomputable def f_JI_bitCount (p0 : Int32) : Int32 :=
  let x3 : Int32 := (p0.toUInt32 >>> ((1 : Int32).toUInt32 &&& Int32.toUInt32 31)).toInt32
  let x7 : Int32 := x3 &&& (1431655765 : Int32)
  let x8 : Int32 := p0 - x7
  let x14 : Int32 := x8 &&& (858993459 : Int32)
  let x17 : Int32 := (x8.toUInt32 >>> ((2 : Int32).toUInt32 &&& Int32.toUInt32 31)).toInt32
  let x21 : Int32 := x17 &&& (858993459 : Int32)
  let x22 : Int32 := x14 + x21
  let x27 : Int32 := (x22.toUInt32 >>> ((4 : Int32).toUInt32 &&& Int32.toUInt32 31)).toInt32
  let x28 : Int32 := x22 + x27
  let x32 : Int32 := x28 &&& (252645135 : Int32)
  let x38 : Int32 := (x32.toUInt32 >>> ((8 : Int32).toUInt32 &&& Int32.toUInt32 31)).toInt32
  let x39 : Int32 := x32 + x38
  let x45 : Int32 := (x39.toUInt32 >>> ((16 : Int32).toUInt32 &&& Int32.toUInt32 31)).toInt32
  let x46 : Int32 := x39 + x45
  let x51 : Int32 := x46 &&& (63 : Int32)
  x51
noncomputable def f_GS_worked (p0 : Int32) (p1 : Int32) (p2 : Int32) : Int32 :=
  if p0 = 0 then
    let x42 : Int32 := p1 + p2
    x42
  else
    if p0 = 1 then
      let x46 : Int32 := p1 - p2
      x46
    else
      if p0 = 2 then
        let x50 : Int32 := p1 &&& p2
        x50
      else
        if p0 = 3 then
          let x54 : Int32 := p1 ||| p2
          x54
        else
          if p0 = 4 then
            let x58 : Int32 := p1 ^^^ p2
            x58
          else
            if p0 = 5 then
              if p2 ≤ p1 then
                (0 : Int32)
              else
                (1 : Int32)
            else
              if p1 = p2 then
                (1 : Int32)
              else
                (0 : Int32)
noncomputable def f_GS_isVariableNumber (p0 : Int32) : Int32 :=
  if p0 < 0 then
    (0 : Int32)
  else
    if (8 : Int32) ≤ p0 then
      (0 : Int32)
    else
      (1 : Int32)
noncomputable def f_MT_append (S : CS) (k : Nat) (p1 : Int32) : Int32 × CS :=
  if S.1 k 0 6 < 60 then
    let S20 := stT S k 1 (S.1 k 0 6).toNatClampNeg p1
    let x27 : Int32 := (S20.1 k 0 6) + (1 : Int32)
    let S28 := stT S20 k 0 6 x27
    let S33 := stT S28 k 0 9 0
    ((1 : Int32), S33)
  else
    ((0 : Int32), S)
noncomputable def f_MA_halt (S : CS) : CS :=
  let S2 := stR S 9 3 0
  S2
noncomputable def f_GS_loosen (S : CS) : CS :=
  let S2 := stR S 0 5 0
  let S9 := f_MA_halt S2
  S9
noncomputable def f_MT_length (S : CS) (k : Nat) : Int32 :=
  S.1 k 0 6
noncomputable def f_GS_sign (S : CS) (p1 : Int32) (p2 : Int32) : Int32 × CS :=
  let x1 := f_GS_isModule p1
  if x1 = 0 then
    ((-1 : Int32), S)
  else
    if p2 < 33 then
      ((-1 : Int32), S)
    else
      if p2 ≤ 126 then
        let x28 := (f_MT_append S p1.toNatClampNeg p2).1
        let S28 := (f_MT_append S p1.toNatClampNeg p2).2
        if x28 = 0 then
          ((-1 : Int32), S28)
        else
          let S37 := f_GS_loosen S28
          let x46 := f_MT_length S37 p1.toNatClampNeg
          (x46, S37)
      else
        ((-1 : Int32), S)
noncomputable def f_MT_forget (S : CS) (k : Nat) : CS :=
  let S2 := stT S k 0 7 0
  let S7 := stT S2 k 0 8 0
  S7
noncomputable def f_MT_empty (S : CS) (k : Nat) : CS :=
  let S2 := stT S k 0 6 0
  let S6 := f_MT_forget S2 k
  let S11 := stT S6 k 0 9 1
  S11
noncomputable def f_GS_clear (S : CS) (p1 : Int32) : Int32 × CS :=
  let x1 := f_GS_isModule p1
  if x1 = 0 then
    ((-1 : Int32), S)
  else
    let S15 := f_MT_empty S p1.toNatClampNeg
    let S19 := f_GS_loosen S15
    ((0 : Int32), S19)
noncomputable def f_MT_signAt (S : CS) (k : Nat) (p1 : Int32) : Int32 :=
  if p1 < 0 then
    (0 : Int32)
  else
    if S.1 k 0 6 ≤ p1 then
      (0 : Int32)
    else
      let x17 := S.1 k 1 p1.toNatClampNeg
      x17
noncomputable def f_MT_addProcedure (S : CS) (k : Nat) (p1 : Int32) (p2 : Int32) : CS :=
  let x1 := f_GS_isLetterNumber p1
  if x1 = 0 then
    S
  else
    if S.1 k 0 8 = 0 then
      let x21 := f_GS_hasBit (S.1 k 0 7) p1
      if x21 = 0 then
        let S32 := stT S k 0 8 0
        let x42 : Int32 := (1 : Int32) <<< (p1 &&& 31)
        let x43 : Int32 := (S32.1 k 0 7) ||| x42
        let S44 := stT S32 k 0 7 x43
        let S53 := stT S44 k 5 p1.toNatClampNeg p2
        let S60 := stT S53 k 6 p1.toNatClampNeg 0
        S60
      else
        let S32 := stT S k 0 8 1
        let x42 : Int32 := (1 : Int32) <<< (p1 &&& 31)
        let x43 : Int32 := (S32.1 k 0 7) ||| x42
        let S44 := stT S32 k 0 7 x43
        let S53 := stT S44 k 5 p1.toNatClampNeg p2
        let S60 := stT S53 k 6 p1.toNatClampNeg 0
        S60
    else
      let S32 := stT S k 0 8 1
      let x42 : Int32 := (1 : Int32) <<< (p1 &&& 31)
      let x43 : Int32 := (S32.1 k 0 7) ||| x42
      let S44 := stT S32 k 0 7 x43
      let S53 := stT S44 k 5 p1.toNatClampNeg p2
      let S60 := stT S53 k 6 p1.toNatClampNeg 0
      S60
noncomputable def f_RD_expects (S : CS) (p1 : Int32) : Int32 × CS :=
  let S2 := stR S 2 2 p1
  ((1 : Int32), S2)
noncomputable def f_RD_begins (S : CS) (p1 : Int32) (p2 : Int32) : Int32 × CS :=
  let S2 := stR S 2 3 p1
  let x7 := (f_RD_expects S2 p2).1
  let S7 := (f_RD_expects S2 p2).2
  (x7, S7)
noncomputable def f_RD_takesProcedure (S : CS) (k : Nat) (p2 : Int32) : Int32 × CS :=
  let x2 := f_MT_signAt S k p2
  let x7 := f_GS_isLetter x2
  if x7 = 0 then
    ((0 : Int32), S)
  else
    let x19 : Int32 := x2 - (65 : Int32)
    let S20 := stR S 2 6 x19
    let S25 := stR S20 2 7 0
    let S34 := f_MT_addProcedure S25 k (S25.2 2 6) p2
    let x40 := (f_RD_begins S34 p2 1).1
    let S40 := (f_RD_begins S34 p2 1).2
    (x40, S40)
noncomputable def f_RD_opens (S : CS) (p1 : Int32) (p2 : Int32) : Int32 × CS :=
  if S.2 2 1 < 6 then
    let S20 := stR S 3 (S.2 2 1).toNatClampNeg p1
    let x27 : Int32 := (S20.2 2 1) + (1 : Int32)
    let S28 := stR S20 2 1 x27
    let x33 := (f_RD_expects S28 p2).1
    let S33 := (f_RD_expects S28 p2).2
    (x33, S33)
  else
    ((0 : Int32), S)
noncomputable def f_MT_isPlace (S : CS) (k : Nat) (p1 : Int32) : Int32 :=
  if p1 < 0 then
    (0 : Int32)
  else
    if S.1 k 0 6 ≤ p1 then
      (0 : Int32)
    else
      (1 : Int32)
noncomputable def f_MT_addBlock (S : CS) (k : Nat) (p1 : Int32) (p2 : Int32) : CS :=
  let x2 := f_MT_isPlace S k p1
  if x2 = 0 then
    S
  else
    let x10 := f_MT_isPlace S k p2
    if x10 = 0 then
      S
    else
      let S22 := stT S k 3 p2.toNatClampNeg p1
      let S29 := stT S22 k 4 p1.toNatClampNeg p2
      S29
noncomputable def f_RD_closesBlock (S : CS) (k : Nat) (p2 : Int32) : Int32 × CS :=
  if (1 : Int32) ≤ S.2 2 1 then
    let x16 : Int32 := (S.2 2 1) - (1 : Int32)
    let S17 := stR S 2 1 x16
    let x28 := S17.2 3 (S17.2 2 1).toNatClampNeg
    let S33 := f_MT_addBlock S17 k x28 p2
    let x38 := f_MT_signAt S33 k x28
    let x45 := f_GS_isLetter x38
    if x45 = 0 then
      if x38 = 63 then
        let x70 := (f_RD_expects S33 3).1
        let S70 := (f_RD_expects S33 3).2
        (x70, S70)
      else
        let x70 := (f_RD_expects S33 2).1
        let S70 := (f_RD_expects S33 2).2
        (x70, S70)
    else
      let x53 := (f_RD_expects S33 0).1
      let S53 := (f_RD_expects S33 0).2
      (x53, S53)
  else
    ((0 : Int32), S)
noncomputable def f_MT_addCall (S : CS) (k : Nat) (p1 : Int32) (p2 : Int32) : CS :=
  let x1 := f_GS_isLetterNumber p1
  if x1 = 0 then
    S
  else
    let x8 := f_GS_isLetterNumber p2
    if x8 = 0 then
      S
    else
      let x20 := S.1 k 6 p1.toNatClampNeg
      let x23 : Int32 := (1 : Int32) <<< (p2 &&& 31)
      let x24 : Int32 := x20 ||| x23
      let S25 := stT S k 6 p1.toNatClampNeg x24
      S25
noncomputable def f_MT_addStatement (S : CS) (k : Nat) (p1 : Int32) (p2 : Int32) : CS :=
  let x2 := f_MT_isPlace S k p1
  if x2 = 0 then
    S
  else
    let S14 := stT S k 2 p1.toNatClampNeg p2
    S14
noncomputable def f_RD_takesStatement (S : CS) (k : Nat) (p2 : Int32) : Int32 × CS :=
  let x2 := f_MT_signAt S k p2
  if x2 = 125 then
    let x15 := (f_RD_closesBlock S k p2).1
    let S15 := (f_RD_closesBlock S k p2).2
    (x15, S15)
  else
    let x20 := f_RD_behindFirstSign x2
    if x20 = 2 then
      ((0 : Int32), S)
    else
      if x20 = 5 then
        let x47 : Int32 := x2 - (65 : Int32)
        let S48 := f_MT_addCall S k (S.2 2 6) x47
        let x57 : Int32 := (S48.2 2 7) + (1 : Int32)
        let S58 := stR S48 2 7 x57
        let S67 := f_MT_addStatement S58 k p2 (S58.2 2 7)
        if x2 = 63 then
          let S90 := stR S67 2 4 123
          let x97 := (f_RD_begins S90 p2 x20).1
          let S97 := (f_RD_begins S90 p2 x20).2
          (x97, S97)
        else
          if x2 = 64 then
            let S90 := stR S67 2 4 123
            let x97 := (f_RD_begins S90 p2 x20).1
            let S97 := (f_RD_begins S90 p2 x20).2
            (x97, S97)
          else
            let S90 := stR S67 2 4 59
            let x97 := (f_RD_begins S90 p2 x20).1
            let S97 := (f_RD_begins S90 p2 x20).2
            (x97, S97)
      else
        let x57 : Int32 := (S.2 2 7) + (1 : Int32)
        let S58 := stR S 2 7 x57
        let S67 := f_MT_addStatement S58 k p2 (S58.2 2 7)
        if x2 = 63 then
          let S90 := stR S67 2 4 123
          let x97 := (f_RD_begins S90 p2 x20).1
          let S97 := (f_RD_begins S90 p2 x20).2
          (x97, S97)
        else
          if x2 = 64 then
            let S90 := stR S67 2 4 123
            let x97 := (f_RD_begins S90 p2 x20).1
            let S97 := (f_RD_begins S90 p2 x20).2
            (x97, S97)
          else
            let S90 := stR S67 2 4 59
            let x97 := (f_RD_begins S90 p2 x20).1
            let S97 := (f_RD_begins S90 p2 x20).2
            (x97, S97)
noncomputable def f_RD_lastOpen (S : CS) (k : Nat) : Int32 :=
  if S.2 2 1 ≤ 0 then
    (0 : Int32)
  else
    let x17 : Int32 := (S.2 2 1) - (1 : Int32)
    let x18 := S.2 3 x17.toNatClampNeg
    let x19 := f_MT_signAt S k x18
    x19
noncomputable def q_RD_endsOperand_0 : Nat → CS → Nat → Int32 → Int32 × CS
  | 0, S1, _, _ => (0, S1)
  | n + 1, S1, k, p2 =>
    if S1.2 2 1 ≤ 0 then
      let x33 := (f_RD_expects S1 p2).1
      let S33 := (f_RD_expects S1 p2).2
      (x33, S33)
    else
      let x9 := f_RD_lastOpen S1 k
      let x12 := f_GS_isPrefix x9
      if x12 = 0 then
        let x33 := (f_RD_expects S1 p2).1
        let S33 := (f_RD_expects S1 p2).2
        (x33, S33)
      else
        let x24 : Int32 := (S1.2 2 1) - (1 : Int32)
        let S25 := stR S1 2 1 x24
        q_RD_endsOperand_0 n S25 k p2
noncomputable def f_RD_endsOperand (S : CS) (k : Nat) (p2 : Int32) : Int32 × CS :=
  q_RD_endsOperand_0 (fz 7) S k p2
noncomputable def f_RD_takesOperand (S : CS) (k : Nat) (p2 : Int32) : Int32 × CS :=
  let x2 := f_MT_signAt S k p2
  if x2 = 40 then
    let x23 := (f_RD_opens S p2 6).1
    let S23 := (f_RD_opens S p2 6).2
    (x23, S23)
  else
    let x13 := f_GS_isPrefix x2
    if x13 = 0 then
      let x28 := f_GS_isVariable x2
      if x28 = 0 then
        let S44 := stR S 2 5 1
        let x48 := f_GS_isDigit x2
        if x48 = 0 then
          ((0 : Int32), S44)
        else
          let x58 := (f_RD_endsOperand S44 k 7).1
          let S58 := (f_RD_endsOperand S44 k 7).2
          if x58 = 0 then
            ((0 : Int32), S58)
          else
            ((1 : Int32), S58)
      else
        let x38 := (f_RD_endsOperand S k 8).1
        let S38 := (f_RD_endsOperand S k 8).2
        (x38, S38)
    else
      let x23 := (f_RD_opens S p2 6).1
      let S23 := (f_RD_opens S p2 6).2
      (x23, S23)
noncomputable def f_RD_takesDigit (S : CS) : Int32 × CS :=
  let x6 : Int32 := (S.2 2 5) + (1 : Int32)
  let S7 := stR S 2 5 x6
  if (4 : Int32) < S7.2 2 5 then
    ((0 : Int32), S7)
  else
    ((1 : Int32), S7)
noncomputable def f_RD_takesOperator (S : CS) (k : Nat) (p2 : Int32) : Int32 × CS :=
  let x2 := f_MT_signAt S k p2
  let x7 := f_GS_operationOf x2
  if x7 = (-1) then
    let x23 := f_RD_lastOpen S k
    if x23 = 40 then
      if x2 = 41 then
        let x69 : Int32 := (S.2 2 1) - (1 : Int32)
        let S70 := stR S 2 1 x69
        let x77 := (f_RD_endsOperand S70 k 8).1
        let S77 := (f_RD_endsOperand S70 k 8).2
        (x77, S77)
      else
        ((0 : Int32), S)
    else
      if x2 = S.2 2 4 then
        if x2 = 123 then
          let x93 := (f_RD_opens S (S.2 2 3) 2).1
          let S93 := (f_RD_opens S (S.2 2 3) 2).2
          (x93, S93)
        else
          let x101 := (f_RD_expects S 2).1
          let S101 := (f_RD_expects S 2).2
          (x101, S101)
      else
        ((0 : Int32), S)
  else
    let x17 := (f_RD_expects S 6).1
    let S17 := (f_RD_expects S 6).2
    (x17, S17)
noncomputable def f_RD_takes (S : CS) (k : Nat) (p2 : Int32) : Int32 × CS :=
  let x2 := f_MT_signAt S k p2
  let x10 := S.2 2 2
  if x10 = 0 then
    let x59 := (f_RD_takesProcedure S k p2).1
    let S59 := (f_RD_takesProcedure S k p2).2
    (x59, S59)
  else
    if x10 = 1 then
      if x2 = 123 then
        let x75 := (f_RD_opens S (S.2 2 3) 2).1
        let S75 := (f_RD_opens S (S.2 2 3) 2).2
        if x75 = 0 then
          ((0 : Int32), S75)
        else
          ((1 : Int32), S75)
      else
        ((0 : Int32), S)
    else
      if x10 = 2 then
        let x90 := (f_RD_takesStatement S k p2).1
        let S90 := (f_RD_takesStatement S k p2).2
        (x90, S90)
      else
        if x10 = 3 then
          if x2 = 58 then
            let x103 := (f_RD_begins S p2 1).1
            let S103 := (f_RD_begins S p2 1).2
            (x103, S103)
          else
            let x112 := (f_RD_takesStatement S k p2).1
            let S112 := (f_RD_takesStatement S k p2).2
            (x112, S112)
        else
          if x10 = 4 then
            if x2 = 61 then
              let x125 := (f_RD_expects S 6).1
              let S125 := (f_RD_expects S 6).2
              if x125 = 0 then
                ((0 : Int32), S125)
              else
                ((1 : Int32), S125)
            else
              ((0 : Int32), S)
          else
            if x10 = 5 then
              if x2 = 59 then
                let x145 := (f_RD_expects S 2).1
                let S145 := (f_RD_expects S 2).2
                if x145 = 0 then
                  ((0 : Int32), S145)
                else
                  ((1 : Int32), S145)
              else
                ((0 : Int32), S)
            else
              if x10 = 6 then
                let x160 := (f_RD_takesOperand S k p2).1
                let S160 := (f_RD_takesOperand S k p2).2
                (x160, S160)
              else
                if x10 = 7 then
                  let x165 := f_GS_isDigit x2
                  if x165 = 0 then
                    let x181 := (f_RD_takesOperator S k p2).1
                    let S181 := (f_RD_takesOperator S k p2).2
                    (x181, S181)
                  else
                    let x172 := (f_RD_takesDigit S).1
                    let S172 := (f_RD_takesDigit S).2
                    (x172, S172)
                else
                  let x188 := (f_RD_takesOperator S k p2).1
                  let S188 := (f_RD_takesOperator S k p2).2
                  (x188, S188)
noncomputable def q_RD_faultOf_21 : Nat → CS → Int32 → Nat → Int32 → Int32 × CS
  | 0, S1, _, _, _ => (0, S1)
  | n + 1, S1, x15, k, y3 =>
    if x15 ≤ y3 then
      if S1.2 2 2 = 0 then
        ((-2 : Int32), S1)
      else
        (x15, S1)
    else
      let x29 := (f_RD_takes S1 k y3).1
      let S29 := (f_RD_takes S1 k y3).2
      if x29 = 0 then
        (y3, S29)
      else
        let x37 := y3 + 1
        q_RD_faultOf_21 n S29 x15 k x37
noncomputable def f_RD_faultOf (S : CS) (k : Nat) : Int32 × CS :=
  let S1 := f_MT_forget S k
  let S6 := stR S1 2 1 0
  let S11 := stR S6 2 2 0
  let x15 := f_MT_length S11 k
  q_RD_faultOf_21 (fz 61) S11 x15 k 0
noncomputable def f_MT_hasTwins (S : CS) (k : Nat) : Int32 :=
  S.1 k 0 8
noncomputable def f_MT_mark (S : CS) (k : Nat) (p1 : Int32) : CS :=
  let S2 := stT S k 0 9 p1
  S2
noncomputable def f_MT_defined (S : CS) (k : Nat) : Int32 :=
  S.1 k 0 7
noncomputable def f_GS_compile (S : CS) (p1 : Int32) : Int32 × CS :=
  let x1 := f_GS_isModule p1
  if x1 = 0 then
    ((-1 : Int32), S)
  else
    let x21 := (f_RD_faultOf S p1.toNatClampNeg).1
    let S21 := (f_RD_faultOf S p1.toNatClampNeg).2
    if x21 = (-2) then
      let x41 := f_MT_hasTwins S21 p1.toNatClampNeg
      if x41 = 0 then
        let S52 := f_MT_mark S21 p1.toNatClampNeg 1
        let S56 := f_GS_loosen S52
        let x67 := f_MT_hasTwins S56 p1.toNatClampNeg
        if x67 = 0 then
          let x79 := f_MT_defined S56 p1.toNatClampNeg
          let x82 := f_JI_bitCount x79
          (x82, S56)
        else
          ((-3 : Int32), S56)
      else
        let S52 := f_MT_mark S21 p1.toNatClampNeg 0
        let S56 := f_GS_loosen S52
        let x67 := f_MT_hasTwins S56 p1.toNatClampNeg
        if x67 = 0 then
          let x79 := f_MT_defined S56 p1.toNatClampNeg
          let x82 := f_JI_bitCount x79
          (x82, S56)
        else
          ((-3 : Int32), S56)
    else
      let S52 := f_MT_mark S21 p1.toNatClampNeg 0
      let S56 := f_GS_loosen S52
      ((-2 : Int32), S56)
noncomputable def f_GS_fault (S : CS) (p1 : Int32) : Int32 × CS :=
  let x1 := f_GS_isModule p1
  if x1 = 0 then
    ((-1 : Int32), S)
  else
    let x17 := (f_RD_faultOf S p1.toNatClampNeg).1
    let S17 := (f_RD_faultOf S p1.toNatClampNeg).2
    (x17, S17)
noncomputable def f_MT_isCompiled (S : CS) (k : Nat) : Int32 :=
  S.1 k 0 9
noncomputable def q_PR_forget_7 : Nat → CS → Int32 → CS
  | 0, S1, _ => S1
  | n + 1, S1, y1 =>
    if (26 : Int32) ≤ y1 then
      S1
    else
      let S19 := stR S1 5 y1.toNatClampNeg 0
      let S26 := stR S19 6 y1.toNatClampNeg 0
      let x27 := y1 + 1
      q_PR_forget_7 n S26 x27
noncomputable def f_PR_forget (S : CS) : CS :=
  let S2 := stR S 4 2 0
  q_PR_forget_7 (fz 27) S2 0
noncomputable def f_MT_callsOf (S : CS) (k : Nat) (p1 : Int32) : Int32 :=
  let x1 := f_GS_isLetterNumber p1
  if x1 = 0 then
    (0 : Int32)
  else
    let x12 := S.1 k 6 p1.toNatClampNeg
    x12
noncomputable def q_PR_takeOver_2 : Nat → CS → Nat → Int32 → CS
  | 0, S1, _, _ => S1
  | n + 1, S1, k, y2 =>
    if (26 : Int32) ≤ y2 then
      S1
    else
      let x9 := f_MT_defined S1 k
      let x13 := f_GS_hasBit x9 y2
      if x13 = 0 then
        let x37 := y2 + 1
        q_PR_takeOver_2 n S1 k x37
      else
        let S25 := stR S1 5 y2.toNatClampNeg (nI (k + 1))
        let x33 := f_MT_callsOf S25 k y2
        let S36 := stR S25 6 y2.toNatClampNeg x33
        let x37 := y2 + 1
        q_PR_takeOver_2 n S36 k x37
noncomputable def f_PR_takeOver (S : CS) (k : Nat) : CS :=
  q_PR_takeOver_2 (fz 27) S k 0
noncomputable def q_PR_lacksOne_6 : Nat → CS → Int32 → Int32 → Int32
  | 0, _, _, _ => 0
  | n + 1, S, y2, y1 =>
    if (26 : Int32) ≤ y2 then
      let x33 : Int32 := (S.2 4 2) ^^^ (-1 : Int32)
      let x34 : Int32 := y1 &&& x33
      if x34 = 0 then
        (0 : Int32)
      else
        (1 : Int32)
    else
      let x18 := S.2 6 y2.toNatClampNeg
      let x19 : Int32 := y1 ||| x18
      let x21 := y2 + 1
      q_PR_lacksOne_6 n S x21 x19
noncomputable def f_PR_lacksOne (S : CS) : Int32 :=
  q_PR_lacksOne_6 (fz 27) S 0 4096
noncomputable def q_PR_followChains_10 : Nat → CS → Int32 → Int32 → CS
  | 0, S2, _, _ => S2
  | n2 + 1, S2, y1, y2 =>
    if (26 : Int32) ≤ y2 then
      let x50 := y1 + 1
      S2
    else
      let x21 := S2.2 6 y2.toNatClampNeg
      let x23 := f_GS_hasBit x21 y1
      if x23 = 0 then
        let x44 := y2 + 1
        q_PR_followChains_10 n2 S2 y1 x44
      else
        let x35 := S2.2 6 y2.toNatClampNeg
        let x41 := S2.2 6 y1.toNatClampNeg
        let x42 : Int32 := x35 ||| x41
        let S43 := stR S2 6 y2.toNatClampNeg x42
        let x44 := y2 + 1
        q_PR_followChains_10 n2 S43 y1 x44
noncomputable def q_PR_followChains_2 : Nat → CS → Int32 → CS
  | 0, S1, _ => S1
  | n + 1, S1, y1 =>
    if (26 : Int32) ≤ y1 then
      S1
    else
      let S10 := q_PR_followChains_10 (fz 27) S1 y1 0
      let x50 := y1 + 1
      q_PR_followChains_2 n S10 x50
noncomputable def f_PR_followChains (S : CS) : CS :=
  q_PR_followChains_2 (fz 27) S 0
noncomputable def q_PR_hasCircle_2 : Nat → CS → Int32 → Int32
  | 0, _, _ => 0
  | n + 1, S, y1 =>
    if (26 : Int32) ≤ y1 then
      (0 : Int32)
    else
      let x13 := S.2 6 y1.toNatClampNeg
      let x15 := f_GS_hasBit x13 y1
      if x15 = 0 then
        let x23 := y1 + 1
        q_PR_hasCircle_2 n S x23
      else
        (1 : Int32)
noncomputable def f_PR_hasCircle (S : CS) : Int32 :=
  q_PR_hasCircle_2 (fz 27) S 0
noncomputable def q_PR_join_6 : Nat → CS → Int32 → Int32 × CS
  | 0, S1, _ => (0, S1)
  | n + 1, S1, y2 =>
    if (3 : Int32) ≤ y2 then
      let x58 := f_PR_lacksOne S1
      if x58 = 0 then
        let S68 := f_PR_followChains S1
        let x72 := f_PR_hasCircle S68
        if x72 = 0 then
          let x87 := f_JI_bitCount (S68.2 4 2)
          (x87, S68)
        else
          ((-5 : Int32), S68)
      else
        ((-4 : Int32), S1)
    else
      let x19 := f_MT_defined S1 y2.toNatClampNeg
      let x22 : Int32 := (S1.2 4 2) &&& x19
      if x22 = 0 then
        let x40 : Int32 := (S1.2 4 2) ||| x19
        let S41 := stR S1 4 2 x40
        let S48 := f_PR_takeOver S41 y2.toNatClampNeg
        let x51 := y2 + 1
        q_PR_join_6 n S48 x51
      else
        ((-3 : Int32), S1)
noncomputable def f_PR_join (S : CS) : Int32 × CS :=
  let S1 := f_PR_forget S
  q_PR_join_6 (fz 4) S1 0
noncomputable def q_GS_link_2 : Nat → CS → Int32 → Int32 × CS
  | 0, S1, _ => (0, S1)
  | n + 1, S1, y1 =>
    if (3 : Int32) ≤ y1 then
      let S28 := f_GS_loosen S1
      let x39 := (f_PR_join S28).1
      let S39 := (f_PR_join S28).2
      if x39 < 0 then
        let S53 := stR S39 0 5 0
        (x39, S53)
      else
        let S53 := stR S39 0 5 1
        (x39, S53)
    else
      let x13 := f_MT_isCompiled S1 y1.toNatClampNeg
      if x13 = 0 then
        ((-1 : Int32), S1)
      else
        let x21 := y1 + 1
        q_GS_link_2 n S1 x21
noncomputable def f_GS_link (S : CS) : Int32 × CS :=
  q_GS_link_2 (fz 4) S 0
noncomputable def f_MA_isGoing (S : CS) : Int32 :=
  if S.2 9 3 ≤ 0 then
    (0 : Int32)
  else
    (1 : Int32)
noncomputable def f_PR_homeOf (S : CS) (p1 : Int32) : Nat :=
  let x1 := f_GS_isLetterNumber p1
  if x1 = 0 then
    0
  else
    hc (S.2 5 p1.toNatClampNeg)
noncomputable def f_MT_firstPlaceOf (S : CS) (k : Nat) (p1 : Int32) : Int32 :=
  let x1 := f_GS_isLetterNumber p1
  if x1 = 0 then
    (0 : Int32)
  else
    let x12 := S.1 k 5 p1.toNatClampNeg
    let x14 : Int32 := x12 + (2 : Int32)
    x14
noncomputable def f_MA_enter (S : CS) (p2 : Int32) : CS :=
  if f_PR_homeOf S p2 = 0 then
    S
  else
    let k5 := (f_PR_homeOf S p2) - 1
    if S.2 9 3 < 26 then
      let S29 := stR S 10 (S.2 9 3).toNatClampNeg p2
      let x40 := f_MT_firstPlaceOf S29 k5 p2
      let S43 := stR S29 11 (S29.2 9 3).toNatClampNeg x40
      let x50 : Int32 := (S43.2 9 3) + (1 : Int32)
      let S51 := stR S43 9 3 x50
      S51
    else
      S
noncomputable def f_MA_currentText (S : CS) : Nat :=
  if S.2 9 3 ≤ 0 then
    0
  else
    let x17 : Int32 := (S.2 9 3) - (1 : Int32)
    let x18 := S.2 10 x17.toNatClampNeg
    f_PR_homeOf S x18
noncomputable def f_MT_endsProcedure (S : CS) (k : Nat) (p1 : Int32) : Int32 :=
  let x2 := f_MT_isPlace S k p1
  if x2 = 0 then
    (0 : Int32)
  else
    let x14 := S.1 k 3 p1.toNatClampNeg
    let x15 := f_MT_signAt S k x14
    let x18 := f_GS_isLetter x15
    if x18 = 0 then
      (0 : Int32)
    else
      (1 : Int32)
noncomputable def f_MT_behindEndOf (S : CS) (k : Nat) (p1 : Int32) : Int32 :=
  let x2 := f_MT_isPlace S k p1
  if x2 = 0 then
    p1
  else
    let x13 := S.1 k 4 p1.toNatClampNeg
    let x15 : Int32 := x13 + (1 : Int32)
    x15
noncomputable def f_MT_behindBlock (S : CS) (k : Nat) (p1 : Int32) : Int32 :=
  let x2 := f_MT_isPlace S k p1
  if x2 = 0 then
    p1
  else
    let x16 := S.1 k 3 p1.toNatClampNeg
    let x17 := f_MT_signAt S k x16
    if x17 = 64 then
      let x30 := S.1 k 3 p1.toNatClampNeg
      x30
    else
      let x34 : Int32 := p1 + (1 : Int32)
      let x38 := f_MT_signAt S k x34
      if x38 = 58 then
        let x48 := f_MT_behindEndOf S k x34
        x48
      else
        x34
noncomputable def q_MA_leaveEndedBlocks_2 : Nat → CS → Int32 → CS
  | 0, S1, _ => S1
  | n + 1, S1, y2 =>
    if (156 : Int32) ≤ y2 then
      S1
    else
      if f_MA_currentText S1 = 0 then
        S1
      else
        let k14 := (f_MA_currentText S1) - 1
        let x29 : Int32 := (S1.2 9 3) - (1 : Int32)
        let x30 := S1.2 11 x29.toNatClampNeg
        let x31 := f_MT_signAt S1 k14 x30
        if x31 = 125 then
          let x49 : Int32 := (S1.2 9 3) - (1 : Int32)
          let x50 := S1.2 11 x49.toNatClampNeg
          let x56 := f_MT_endsProcedure S1 k14 x50
          if x56 = 0 then
            let x84 : Int32 := (S1.2 9 3) - (1 : Int32)
            let x88 := f_MT_behindBlock S1 k14 x50
            let S91 := stR S1 11 x84.toNatClampNeg x88
            let x92 := y2 + 1
            q_MA_leaveEndedBlocks_2 n S91 x92
          else
            let x68 : Int32 := (S1.2 9 3) - (1 : Int32)
            let S69 := stR S1 9 3 x68
            let x92 := y2 + 1
            q_MA_leaveEndedBlocks_2 n S69 x92
        else
          S1
noncomputable def f_MA_leaveEndedBlocks (S : CS) : CS :=
  q_MA_leaveEndedBlocks_2 (fz 157) S 0
noncomputable def f_MA_begin (S : CS) : CS :=
  let S2 := stR S 9 4 0
  let S7 := stR S2 9 3 0
  let S14 := f_MA_enter S7 12
  let S19 := f_MA_leaveEndedBlocks S14
  S19
noncomputable def f_GS_start (S : CS) : Int32 × CS :=
  if S.2 0 5 = 0 then
    ((-1 : Int32), S)
  else
    let x11 := f_MA_isGoing S
    if x11 = 0 then
      let S27 := f_MA_begin S
      let x34 := f_MA_isGoing S27
      if x34 = 0 then
        ((0 : Int32), S27)
      else
        ((1 : Int32), S27)
    else
      ((-1 : Int32), S)
noncomputable def q_CA_number_4 : Nat → CS → Nat → Int32 → Int32 → Int32 × CS
  | 0, S1, _, _, _ => (0, S1)
  | n + 1, S1, k, y3, y2 =>
    if (4 : Int32) ≤ y3 then
      (y2, S1)
    else
      let x14 := f_MT_signAt S1 k (S1.2 7 1)
      let x17 := f_GS_isDigit x14
      if x17 = 0 then
        (y2, S1)
      else
        let x26 : Int32 := y2 * (10 : Int32)
        let x35 : Int32 := x26 + x14
        let x38 : Int32 := x35 - (48 : Int32)
        let x46 : Int32 := (S1.2 7 1) + (1 : Int32)
        let S47 := stR S1 7 1 x46
        let x50 := y3 + 1
        q_CA_number_4 n S47 k x50 x38
noncomputable def f_CA_number (S : CS) (k : Nat) : Int32 × CS :=
  q_CA_number_4 (fz 5) S k 0 0
noncomputable def q_CA_expression_10 : Nat → (CS → Int32 × CS) → CS → Nat → Int32 → Int32 → Int32 × CS
  | 0, _, S1, _, _, _ => (0, S1)
  | n + 1, o, S1, k, y4, y3 =>
    if (60 : Int32) ≤ y4 then
      (y3, S1)
    else
      let x22 := f_MT_signAt S1 k (S1.2 7 1)
      let x25 := f_GS_operationOf x22
      if x25 = (-1) then
        (y3, S1)
      else
        let x45 : Int32 := (S1.2 7 1) + (1 : Int32)
        let S46 := stR S1 7 1 x45
        let x55 := (o S46).1
        let S55 := (o S46).2
        let x58 := f_GS_worked x25 y3 x55
        let x62 := y4 + 1
        q_CA_expression_10 n o S55 k x62 x58
noncomputable def f_CA_exprO (o : CS → Int32 × CS) (S : CS) (k : Nat) : Int32 × CS :=
  let x3 := (o S).1
  let S3 := (o S).2
  q_CA_expression_10 (fz 61) o S3 k 0 x3
noncomputable def f_CA_operand : Nat → CS → Nat → Int32 → Int32 × CS
  | 0, S, _, _ => (0, S)
  | d + 1, S, k, p2 =>
    let x5 := f_MT_signAt S k (S.2 7 1)
    let x10 := f_GS_isDigit x5
    if x10 = 0 then
      let x28 : Int32 := (S.2 7 1) + (1 : Int32)
      let S29 := stR S 7 1 x28
      let x33 := f_GS_isVariable x5
      if x33 = 0 then
        if p2 < 6 then
          if x5 = 126 then
            let x67 : Int32 := p2 + (1 : Int32)
            let x68 := (f_CA_operand d S29 k x67).1
            let S68 := (f_CA_operand d S29 k x67).2
            let x72 : Int32 := x68 ^^^ (-1 : Int32)
            (x72, S68)
          else
            if x5 = 45 then
              let x84 : Int32 := p2 + (1 : Int32)
              let x85 := (f_CA_operand d S29 k x84).1
              let S85 := (f_CA_operand d S29 k x84).2
              let x88 : Int32 := -x85
              (x88, S85)
            else
              let x94 : Int32 := p2 + (1 : Int32)
              let x95 := (f_CA_exprO (fun S => f_CA_operand d S k x94) S29 k).1
              let S95 := (f_CA_exprO (fun S => f_CA_operand d S k x94) S29 k).2
              let x106 : Int32 := (S95.2 7 1) + (1 : Int32)
              let S107 := stR S95 7 1 x106
              (x95, S107)
        else
          ((0 : Int32), S29)
      else
        let x46 : Int32 := x5 - (97 : Int32)
        let x47 := S29.2 8 x46.toNatClampNeg
        (x47, S29)
    else
      let x18 := (f_CA_number S k).1
      let S18 := (f_CA_number S k).2
      (x18, S18)
noncomputable def f_CA_expr0 (S : CS) (k : Nat) : Int32 × CS := f_CA_exprO (fun S => f_CA_operand (fz 7) S k 0) S k
noncomputable def f_CA_valueAt (S : CS) (k : Nat) (p2 : Int32) : Int32 × CS :=
  let S2 := stR S 7 1 p2
  let x8 := (f_CA_expr0 S2 k).1
  let S8 := (f_CA_expr0 S2 k).2
  (x8, S8)
noncomputable def f_CA_cursor (S : CS) : Int32 :=
  S.2 7 1
noncomputable def f_CA_assign (S : CS) (p1 : Int32) (p2 : Int32) : Int32 × CS :=
  let x1 := f_GS_isVariableNumber p1
  if x1 = 0 then
    ((0 : Int32), S)
  else
    let S15 := stR S 8 p1.toNatClampNeg p2
    ((1 : Int32), S15)
noncomputable def f_MA_keep (S : CS) (p1 : Int32) : CS :=
  if (24 : Int32) ≤ S.2 9 4 then
    let x25 : Int32 := (S.2 9 4) + (1 : Int32)
    let S26 := stR S 9 4 x25
    S26
  else
    let S18 := stR S 12 (S.2 9 4).toNatClampNeg p1
    let x25 : Int32 := (S18.2 9 4) + (1 : Int32)
    let S26 := stR S18 9 4 x25
    S26
noncomputable def f_MT_placeIfZero (S : CS) (k : Nat) (p1 : Int32) : Int32 :=
  let x2 := f_MT_behindEndOf S k p1
  let x8 := f_MT_signAt S k x2
  if x8 = 58 then
    let x18 : Int32 := x2 + (2 : Int32)
    x18
  else
    x2
noncomputable def f_MA_placeBehind (S : CS) (k : Nat) (p2 : Int32) : Int32 × CS :=
  let x2 := f_MT_signAt S k p2
  let x9 := f_GS_isVariable x2
  if x9 = 0 then
    let x29 : Int32 := p2 + (1 : Int32)
    let x30 := (f_CA_valueAt S k x29).1
    let S30 := (f_CA_valueAt S k x29).2
    let x36 := f_CA_cursor S30
    let x40 : Int32 := x36 + (1 : Int32)
    if x2 = 33 then
      let S73 := f_MA_keep S30 x30
      (x40, S73)
    else
      if x30 = 0 then
        let x91 := f_MT_placeIfZero S30 k p2
        (x91, S30)
      else
        (x40, S30)
  else
    let x23 : Int32 := p2 + (2 : Int32)
    let x30 := (f_CA_valueAt S k x23).1
    let S30 := (f_CA_valueAt S k x23).2
    let x36 := f_CA_cursor S30
    let x40 : Int32 := x36 + (1 : Int32)
    let x53 : Int32 := x2 - (97 : Int32)
    let x56 := (f_CA_assign S30 x53 x30).1
    let S56 := (f_CA_assign S30 x53 x30).2
    (x40, S56)
noncomputable def f_MA_step (S : CS) : CS :=
  if f_MA_currentText S = 0 then
    S
  else
    let k5 := (f_MA_currentText S) - 1
    let x16 : Int32 := (S.2 9 3) - (1 : Int32)
    let x25 := S.2 11 x16.toNatClampNeg
    let x31 := f_MT_signAt S k5 x25
    let x38 := f_GS_isLetter x31
    if x38 = 0 then
      let x79 := (f_MA_placeBehind S k5 x25).1
      let S79 := (f_MA_placeBehind S k5 x25).2
      let S82 := stR S79 11 x16.toNatClampNeg x79
      let S85 := f_MA_leaveEndedBlocks S82
      S85
    else
      let x53 : Int32 := x25 + (2 : Int32)
      let S54 := stR S 11 x16.toNatClampNeg x53
      let x61 : Int32 := x31 - (65 : Int32)
      let S62 := f_MA_enter S54 x61
      let S85 := f_MA_leaveEndedBlocks S62
      S85
noncomputable def q_GS_run_24 : Nat → CS → Int32 → Int32 → Int32 × CS
  | 0, S1, _, _ => (0, S1)
  | n + 1, S1, p1, y2 =>
    if p1 ≤ y2 then
      let x64 := f_MA_isGoing S1
      if x64 = 0 then
        ((0 : Int32), S1)
      else
        ((1 : Int32), S1)
    else
      let x33 := f_MA_isGoing S1
      if x33 = 0 then
        ((0 : Int32), S1)
      else
        let S51 := f_MA_step S1
        let x54 := y2 + 1
        q_GS_run_24 n S51 p1 x54
noncomputable def f_GS_run (S : CS) (p1 : Int32) : Int32 × CS :=
  if p1 < 1 then
    ((-1 : Int32), S)
  else
    if (4 : Int32) < p1 then
      ((-1 : Int32), S)
    else
      let x14 := f_MA_isGoing S
      if x14 = 0 then
        ((-1 : Int32), S)
      else
        q_GS_run_24 (fz 5) S p1 0
noncomputable def f_GS_stop (S : CS) : Int32 × CS :=
  let x4 := f_MA_isGoing S
  if x4 = 0 then
    ((-1 : Int32), S)
  else
    let S16 := f_MA_halt S
    ((0 : Int32), S16)
noncomputable def f_GS_set (S : CS) (p1 : Int32) (p2 : Int32) : Int32 × CS :=
  let x6 := (f_CA_assign S p1 p2).1
  let S6 := (f_CA_assign S p1 p2).2
  if x6 = 0 then
    ((-1 : Int32), S6)
  else
    ((0 : Int32), S6)
noncomputable def f_CA_variable (S : CS) (p1 : Int32) : Int32 :=
  let x1 := f_GS_isVariableNumber p1
  if x1 = 0 then
    (0 : Int32)
  else
    let x12 := S.2 8 p1.toNatClampNeg
    x12
noncomputable def f_GS_get (S : CS) (p1 : Int32) : Int64 :=
  let x1 := f_GS_isVariableNumber p1
  if x1 = 0 then
    ((-1000000000000) : Int64)
  else
    let x12 := f_CA_variable S p1
    (x12.toInt64 : Int64)
noncomputable def f_MA_hasKept (S : CS) (p1 : Int32) : Int32 :=
  if p1 < 0 then
    (0 : Int32)
  else
    if (24 : Int32) ≤ p1 then
      (0 : Int32)
    else
      if S.2 9 4 ≤ p1 then
        (0 : Int32)
      else
        (1 : Int32)
noncomputable def f_MA_kept (S : CS) (p1 : Int32) : Int32 :=
  let x2 := f_MA_hasKept S p1
  if x2 = 0 then
    (0 : Int32)
  else
    let x13 := S.2 12 p1.toNatClampNeg
    x13
noncomputable def f_GS_output (S : CS) (p1 : Int32) : Int64 :=
  let x5 := f_MA_hasKept S p1
  if x5 = 0 then
    ((-1000000000000) : Int64)
  else
    let x16 := f_MA_kept S p1
    (x16.toInt64 : Int64)
noncomputable def f_MA_letterCode (S : CS) : Int32 :=
  if S.2 9 3 ≤ 0 then
    (0 : Int32)
  else
    let x18 : Int32 := (S.2 9 3) - (1 : Int32)
    let x19 := S.2 10 x18.toNatClampNeg
    let x20 : Int32 := (65 : Int32) + x19
    x20
noncomputable def f_MT_numberAt (S : CS) (k : Nat) (p1 : Int32) : Int32 :=
  let x2 := f_MT_isPlace S k p1
  if x2 = 0 then
    (0 : Int32)
  else
    let x13 := S.1 k 2 p1.toNatClampNeg
    x13
noncomputable def f_MA_statementNumber (S : CS) : Int32 :=
  if f_MA_currentText S = 0 then
    (0 : Int32)
  else
    let k5 := (f_MA_currentText S) - 1
    let x24 : Int32 := (S.2 9 3) - (1 : Int32)
    let x25 := S.2 11 x24.toNatClampNeg
    let x26 := f_MT_numberAt S k5 x25
    x26
noncomputable def f_MA_depth (S : CS) : Int32 :=
  S.2 9 3
noncomputable def f_MA_outputCount (S : CS) : Int32 :=
  S.2 9 4
noncomputable def f_GS_at (S : CS) (p1 : Int32) : Int32 :=
  if p1 = 0 then
    let x36 := f_MA_letterCode S
    x36
  else
    if p1 = 1 then
      let x48 := f_MA_statementNumber S
      x48
    else
      if p1 = 2 then
        let x56 := f_MA_depth S
        x56
      else
        if p1 = 3 then
          let x64 := f_MA_outputCount S
          x64
        else
          (-1 : Int32)
noncomputable def f_GS_operate (S : CS) (p1 : Int32) (p2 : Int32) (p3 : Int32) : Int64 :=
  if p1 < 0 then
    ((-1000000000000) : Int64)
  else
    if p1 ≤ 5 then
      let x16 := f_GS_worked p1 p2 p3
      (x16.toInt64 : Int64)
    else
      ((-1000000000000) : Int64)
noncomputable def f_GS_state (S : CS) (p1 : Int32) (p2 : Int32) : Int32 :=
  let x1 := f_GS_isModule p1
  if x1 = 0 then
    (-1 : Int32)
  else
    if p2 = 0 then
      let x42 := f_MT_length S p1.toNatClampNeg
      x42
    else
      if p2 = 1 then
        let x52 := f_MT_isCompiled S p1.toNatClampNeg
        if x52 = 0 then
          (0 : Int32)
        else
          (1 : Int32)
      else
        if p2 = 2 then
          if S.2 0 5 = 0 then
            (0 : Int32)
          else
            (1 : Int32)
        else
          (-1 : Int32)
theorem let_in {p : Int32} (h : ¬ f_GS_isLetterNumber p = 0) : vp_in p 26 := by
  unfold f_GS_isLetterNumber at h
  by_cases h1 : p < 0
  · rw [if_pos h1] at h; exact absurd rfl h
  · by_cases h2 : (26 : Int32) ≤ p
    · rw [if_neg h1, if_pos h2] at h; exact absurd rfl h
    · exact vin (i_nlt 0 rfl h1) (i_nle 26 rfl h2)
theorem vn_in {p : Int32} (h : ¬ f_GS_isVariableNumber p = 0) : vp_in p 8 := by
  unfold f_GS_isVariableNumber at h
  by_cases h1 : p < 0
  · rw [if_pos h1] at h; exact absurd rfl h
  · by_cases h2 : (8 : Int32) ≤ p
    · rw [if_neg h1, if_pos h2] at h; exact absurd rfl h
    · exact vin (i_nlt 0 rfl h1) (i_nle 8 rfl h2)
theorem md_in {p : Int32} (h : ¬ f_GS_isModule p = 0) : vp_in p 3 := by
  unfold f_GS_isModule at h
  by_cases h1 : p < 0
  · rw [if_pos h1] at h; exact absurd rfl h
  · by_cases h2 : (3 : Int32) ≤ p
    · rw [if_neg h1, if_pos h2] at h; exact absurd rfl h
    · exact vin (i_nlt 0 rfl h1) (i_nle 3 rfl h2)
theorem md_k {p : Int32} (h : ¬ f_GS_isModule p = 0) : p.toNatClampNeg < 3 := Nat.not_le.mp fun q => md_in h (Or.inr q)
theorem va_in {x : Int32} (h : ¬ f_GS_isVariable x = 0) : vp_in (x - 97) 8 := by
  unfold f_GS_isVariable at h
  by_cases h1 : x < 97
  · rw [if_pos h1] at h; exact absurd rfl h
  · by_cases h2 : (104 : Int32) < x
    · rw [if_neg h1, if_pos h2] at h; exact absurd rfl h
    · have a1 := i_nlt 97 rfl h1
      have a2 : x.toInt ≤ 104 := by rw [Int32.lt_iff_toInt_lt, show (104 : Int32).toInt = 104 from rfl] at h2; omega
      refine vin ?_ ?_ <;> rw [i_sub 97 rfl (by omega) (by omega)] <;> omega
theorem kp_in {S : CS} {p : Int32} (h : ¬ f_MA_hasKept S p = 0) : vp_in p 24 := by
  unfold f_MA_hasKept at h
  by_cases h1 : p < 0
  · rw [if_pos h1] at h; exact absurd rfl h
  · by_cases h2 : (24 : Int32) ≤ p
    · rw [if_neg h1, if_pos h2] at h; exact absurd rfl h
    · exact vin (i_nlt 0 rfl h1) (i_nle 24 rfl h2)
theorem pl_in {N : Nat} {S : CS} {k : Nat} {p : Int32} (hI : IC N S) (hk : k < 3) (h : ¬ f_MT_isPlace S k p = 0) : vp_in p 60 := by
  unfold f_MT_isPlace at h
  by_cases h1 : p < 0
  · rw [if_pos h1] at h; exact absurd rfl h
  · by_cases h2 : S.1 k 0 6 ≤ p
    · rw [if_neg h1, if_pos h2] at h; exact absurd rfl h
    · exact sg_in hI hk h1 h2
theorem ho_le {N : Nat} {S : CS} {p : Int32} (hI : IC N S) : f_PR_homeOf S p ≤ 3 := by
  unfold f_PR_homeOf
  by_cases h1 : f_GS_isLetterNumber p = 0
  · simp only [if_pos h1]; omega
  · simp only [if_neg h1]; exact hI.2.2.1 _
theorem ho_k {N : Nat} {S : CS} {p : Int32} {k : Nat} (hI : IC N S) (h : k + 1 = f_PR_homeOf S p) : k < 3 := by
  have := ho_le (p := p) hI
  omega
theorem ct_le {N : Nat} {S : CS} (hI : IC N S) : f_MA_currentText S ≤ 3 := by
  unfold f_MA_currentText
  by_cases h1 : S.2 9 3 ≤ 0
  · simp only [if_pos h1]; omega
  · simp only [if_neg h1]; exact ho_le hI
theorem ct_k {N : Nat} {S : CS} {k : Nat} (hI : IC N S) (h : k + 1 = f_MA_currentText S) : k < 3 := by
  have := ct_le hI
  omega
theorem ct_pos {S : CS} {k : Nat} (h : k + 1 = f_MA_currentText S) : 0 < (S.2 9 3).toInt := by
  unfold f_MA_currentText at h
  by_cases h1 : S.2 9 3 ≤ 0
  · rw [if_pos h1] at h; omega
  · exact i_nle0 h1
theorem lo_pos {S : CS} {k : Nat} (h : f_RD_lastOpen S k = 40) : 0 < (S.2 2 1).toInt := by
  unfold f_RD_lastOpen at h
  by_cases h1 : S.2 2 1 ≤ 0
  · rw [if_pos h1] at h; exact absurd h (by decide)
  · exact i_nle0 h1
