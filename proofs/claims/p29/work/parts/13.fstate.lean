def f_X3_copyFrom (x : StC) (o : StC) : Option (StC) :=
  Option.bind (f_X2_copyFrom x.1 o.1) fun z1 =>
  Option.bind (f_X1_copyFrom x.2.1 o.2.1) fun z2 =>
  some (z1, z2, x.2.2.1, o.2.2.2.1, o.2.2.2.2.1, o.2.2.2.2.2.1, o.2.2.2.2.2.2)
def f_X3_addAt (p0 : Int32) (p1 : Int32) (p2 : Int32) (p3 : Int32) (x : StC) : Option (Int32 × StC) :=
  Option.bind (f_X2_lowestFor p2 x.1) fun z1 =>
  if z1 = (-1) then
    some (z1, x)
  else
    Option.bind (f_X2_occupy z1 p1 p2 p3 x.1) fun z2 =>
    Option.bind (f_X1_insert p0 z1 x.2.1) fun z3 =>
    some (z1, (z2, z3, x.2.2.1, x.2.2.2.1, x.2.2.2.2.1 + 1, x.2.2.2.2.2))
def f_X3_drop (p0 : Int32) (x : StC) : Option (StC) :=
  Option.bind (f_X2_release p0 x.1) fun z1 =>
  Option.bind (f_X1_bury p0 x.2.1) fun z2 =>
  some (z1, z2, x.2.2.1, x.2.2.2.1, x.2.2.2.2.1, x.2.2.2.2.2.1 + 1, x.2.2.2.2.2.2)
def f_X3_fireThings_16 : Nat → Int32 → Int32 → Int32 → StC → Option (Int32 × StC)
  | 0, _, _, _, _ => none
  | fu + 1, v1, v2, v3, x =>
    if v1 ≤ v3 then
      some (v2, (x.1, x.2.1, x.2.2.1, x.2.2.2.1 + 1, x.2.2.2.2))
    else
      gi v3 64 <|
      Option.bind (f_X2_valueAt (x.2.2.1 v3.toNatClampNeg) x.1) fun z2 =>
      Option.bind (f_X2_kindAt (x.2.2.1 v3.toNatClampNeg) x.1) fun z3 =>
      Option.bind (f_X2_timesFired (x.2.2.1 v3.toNatClampNeg) x.1) fun z4 =>
      Option.bind (f_X2_setTimesFired (x.2.2.1 v3.toNatClampNeg) (z4 + 1) x.1) fun z5 =>
      if z3 = 1 then
        Option.bind (f_X3_drop (x.2.2.1 v3.toNatClampNeg) (z5, x.2)) fun z9 =>
        f_X3_fireThings_16 fu v1 (v2 + z2) (v3 + 1) z9
      else
        if z3 = 2 then
          Option.bind (f_X1_size x.2.1) fun z6 =>
          Option.bind (f_X2_sizeAt (x.2.2.1 v3.toNatClampNeg) z5) fun z7 =>
          Option.bind (f_X3_addAt z6 z2 z7 0 (z5, x.2)) fun z8 =>
          f_X3_fireThings_16 fu v1 (v2 + z2) (v3 + 1) z8.2
        else
          f_X3_fireThings_16 fu v1 (v2 + z2) (v3 + 1) (z5, x.2)
def f_X3_fireThings (x : StC) : Option (Int32 × StC) :=
  Option.bind (f_X1_list x.2.1 x.2.2.1) fun z1 =>
  f_X3_fireThings_16 FU z1.1 0 0 (x.1, x.2.1, z1.2, x.2.2.2)
def f_X3_moveThings_66 (k15 : Int32 → Int32 → Int32 → Int32 → StC → Option (Int32 × StC)) (v1 : Int32) (v2 : Int32) (v3 : Int32) (v4 : Int32) (v5 : Int32) (x : StC) : Option (Int32 × StC) :=
  k15 v1 (v2 + v5) v3 (v4 + 1) x
def f_X3_moveThings_15 : Nat → Int32 → Int32 → Int32 → Int32 → StC → Option (Int32 × StC)
  | 0, _, _, _, _, _ => none
  | fu + 1, v1, v2, v3, v4, x =>
    if v3 ≤ v4 then
      some (v1, (x.1, x.2.1, x.2.2.1, x.2.2.2.1, x.2.2.2.2.1, x.2.2.2.2.2.1, x.2.2.2.2.2.2 + v1))
    else
      Option.bind (f_X2_sizeAt v4 x.1) fun z2 =>
      if z2 ≤ 0 then
        f_X3_moveThings_66 (f_X3_moveThings_15 fu) v1 v2 v3 v4 z2 x
      else
        if v4 = v2 then
          f_X3_moveThings_66 (f_X3_moveThings_15 fu) v1 v2 v3 v4 z2 x
        else
          Option.bind (f_X2_carry v4 v2 x.1) fun z3 =>
          Option.bind (f_X1_rename v4 v2 x.2.1) fun z4 =>
          f_X3_moveThings_66 (f_X3_moveThings_15 fu) (v1 + 1) v2 v3 v4 z2 (z3, z4, x.2.2)
def f_X3_moveThings (x : StC) : Option (Int32 × StC) :=
  Option.bind (f_X2_cellsNow x.1) fun z1 =>
  f_X3_moveThings_15 FU 0 0 z1 0 x
