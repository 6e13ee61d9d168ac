def f_X4_size (x : TxC) : Option (Int32) :=
  some x.2
def f_X4_isFull (x : TxC) : Option (Int32) :=
  if x.2 < 60 then
    some 0
  else
    some 1
def f_X4_add (p0 : Int32) (x : TxC) : Option (TxC) :=
  if x.2 < 0 then
    some x
  else
    if 60 ≤ x.2 then
      some x
    else
      gi x.2 60 <|
      some ((upd x.1 x.2.toNatClampNeg p0), x.2 + 1)
def f_X4_empty (x : TxC) : Option (TxC) :=
  some (x.1, 0)
def f_X4_codeAt (p0 : Int32) (x : TxC) : Option (Int32) :=
  if p0 < 0 then
    some 0
  else
    if x.2 ≤ p0 then
      some 0
    else
      if 60 ≤ p0 then
        some 0
      else
        gi p0 60 <|
        some (x.1 p0.toNatClampNeg)
def f_X4_indexOf_2 : Nat → Int32 → Int32 → TxC → Option (Int32)
  | 0, _, _, _ => none
  | fu + 1, v1, v3, x =>
    if x.2 ≤ v3 then
      some x.2
    else
      Option.bind (f_X4_codeAt v3 x) fun z1 =>
      if z1 = v1 then
        some v3
      else
        f_X4_indexOf_2 fu v1 (v3 + 1) x
def f_X4_indexOf (p0 : Int32) (p1 : Int32) (x : TxC) : Option (Int32) :=
  f_X4_indexOf_2 FU p0 p1 x
def f_X4_numberIn_5 : Nat → Int32 → Int32 → Int32 → TxC → Option (Int32)
  | 0, _, _, _, _ => none
  | fu + 1, v2, v3, v4, x =>
    if v2 ≤ v4 then
      some v3
    else
      if x.2 ≤ v4 then
        some v3
      else
        Option.bind (f_X4_codeAt v4 x) fun z1 =>
        f_X4_numberIn_5 fu v2 (((10 * v3) + z1) - 48) (v4 + 1) x
def f_X4_numberIn (p0 : Int32) (p1 : Int32) (x : TxC) : Option (Int32) :=
  f_X4_numberIn_5 FU p1 0 p0 x
def f_X4_firstDigit (p0 : Int32) : Option (Int32) :=
  if p0 = 48 then
    some 1
  else
    if p0 < 49 then
      some (-1)
    else
      if 57 < p0 then
        some (-1)
      else
        some 2
def f_X4_laterDigit (p0 : Int32) (p1 : Int32) : Option (Int32) :=
  if p0 = 42 then
    some 5
  else
    if p0 < 48 then
      some (-1)
    else
      if 57 < p0 then
        some (-1)
      else
        some p1
def f_X4_behindSize_20 : Option (Int32) :=
  some 7
def f_X4_behindSize (p0 : Int32) : Option (Int32) :=
  if p0 = 44 then
    some 0
  else
    if p0 = 33 then
      f_X4_behindSize_20
    else
      if p0 = 43 then
        f_X4_behindSize_20
      else
        some (-1)
def f_X4_stateBehind_53 (v1 : Int32) : Option (Int32) :=
  if v1 = 42 then
    some 5
  else
    some (-1)
def f_X4_stateBehind (p0 : Int32) (p1 : Int32) : Option (Int32) :=
  if p0 = 0 then
    Option.bind (f_X4_firstDigit p1) fun z1 =>
    some z1
  else
    if p0 = 1 then
      f_X4_stateBehind_53 p1
    else
      if p0 = 2 then
        Option.bind (f_X4_laterDigit p1 3) fun z2 =>
        some z2
      else
        if p0 = 3 then
          Option.bind (f_X4_laterDigit p1 4) fun z3 =>
          some z3
        else
          if p0 = 4 then
            f_X4_stateBehind_53 p1
          else
            if p0 = 5 then
              if p1 < 49 then
                some (-1)
              else
                if 52 < p1 then
                  some (-1)
                else
                  some 6
            else
              if p0 = 6 then
                Option.bind (f_X4_behindSize p1) fun z4 =>
                some z4
              else
                if p0 = 7 then
                  if p1 = 44 then
                    some 0
                  else
                    some (-1)
                else
                  some (-1)
def f_X4_firstWrong_4 : Nat → Int32 → Int32 → TxC → Option (Int32)
  | 0, _, _, _ => none
  | fu + 1, v1, v2, x =>
    if x.2 ≤ v2 then
      some x.2
    else
      Option.bind (f_X4_codeAt v2 x) fun z1 =>
      Option.bind (f_X4_stateBehind v1 z1) fun z2 =>
      if z2 = (-1) then
        some v2
      else
        f_X4_firstWrong_4 fu z2 (v2 + 1) x
def f_X4_firstWrong (x : TxC) : Option (Int32) :=
  f_X4_firstWrong_4 FU 0 0 x
def f_X4_isComplete_40 (x : TxC) : Option (Int32) :=
  some 1
def f_X4_isComplete_4 : Nat → Int32 → Int32 → TxC → Option (Int32)
  | 0, _, _, _ => none
  | fu + 1, v1, v2, x =>
    if x.2 ≤ v2 then
      if v1 = 6 then
        f_X4_isComplete_40 x
      else
        if v1 = 7 then
          f_X4_isComplete_40 x
        else
          some 0
    else
      Option.bind (f_X4_codeAt v2 x) fun z1 =>
      Option.bind (f_X4_stateBehind v1 z1) fun z2 =>
      f_X4_isComplete_4 fu z2 (v2 + 1) x
def f_X4_isComplete (x : TxC) : Option (Int32) :=
  f_X4_isComplete_4 FU 0 0 x
