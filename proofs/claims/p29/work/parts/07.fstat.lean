def f_X5_bitsOfShare_49 (v2 : UInt64) (v4 : Int64) : Option (Int64) :=
  gf (FP.dsub v2 FP.dconst1) <|
  gf (FP.dmul (FP.dsub v2 FP.dconst1) 4841369599423283200) <|
  some ((v4 <<< ((52 : Int32).toInt64 &&& 63)) + (FP.d2l (FP.dmul (FP.dsub v2 FP.dconst1) 4841369599423283200)))
def f_X5_bitsOfShare_18 : Nat → UInt64 → Int64 → Int32 → Option (Int64)
  | 0, _, _, _ => none
  | fu + 1, v2, v4, v6 =>
    if 6 ≤ v6 then
      f_X5_bitsOfShare_49 v2 v4
    else
      if 0 ≤ (Op.cmpValue (FP.dcmp v2 FP.dconst1) .g) then
        f_X5_bitsOfShare_49 v2 v4
      else
        gf (FP.dmul v2 4611686018427387904) <|
        f_X5_bitsOfShare_18 fu (FP.dmul v2 4611686018427387904) (v4 - 1) (v6 + 1)
def f_X5_bitsOfShare (p0 : UInt64) : Option (Int64) :=
  if 0 < (Op.cmpValue (FP.dcmp p0 FP.dconst0) .g) then
    f_X5_bitsOfShare_18 FU p0 1023 0
  else
    some 0
def f_X5_kindOfSign (p0 : Int32) : Option (Int32) :=
  if p0 = 33 then
    some 1
  else
    if p0 = 43 then
      some 2
    else
      some 0
def f_X5_isValue (p0 : Int32) : Option (Int32) :=
  if p0 < 0 then
    some 0
  else
    if 999 < p0 then
      some 0
    else
      some 1
def f_X5_isSize (p0 : Int32) : Option (Int32) :=
  if p0 < 1 then
    some 0
  else
    if 4 < p0 then
      some 0
    else
      some 1
def f_X5_isThing (p0 : Int32) (p1 : Int32) (p2 : Int32) : Option (Int32) :=
  Option.bind (f_X5_isValue p0) fun z1 =>
  if z1 = 0 then
    some 0
  else
    Option.bind (f_X5_isSize p1) fun z2 =>
    if z2 = 0 then
      some 0
    else
      if p2 < 0 then
        some 0
      else
        if 2 < p2 then
          some 0
        else
          some 1
def f_X5_isWalker (p0 : Int32) : Option (Int32) :=
  if p0 < 0 then
    some 0
  else
    if 4 ≤ p0 then
      some 0
    else
      some 1
