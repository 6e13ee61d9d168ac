def f_X2_copyFrom (x : SlC) (o : SlC) : Option (SlC) :=
  gcp 0 0 64 64 64 <|
  gcp 0 0 64 64 64 <|
  gcp 0 0 64 64 64 <|
  gcp 0 0 64 64 64 <|
  gcp 0 0 64 64 64 <|
  gcp 0 0 64 64 64 <|
  some (o.1, (va_cpy o.2.1 x.2.1 (0 : Int32).toNatClampNeg (0 : Int32).toNatClampNeg (64 : Int32).toNatClampNeg), (va_cpy o.2.2.1 x.2.2.1 (0 : Int32).toNatClampNeg (0 : Int32).toNatClampNeg (64 : Int32).toNatClampNeg), (va_cpy o.2.2.2.1 x.2.2.2.1 (0 : Int32).toNatClampNeg (0 : Int32).toNatClampNeg (64 : Int32).toNatClampNeg), (va_cpy o.2.2.2.2.1 x.2.2.2.2.1 (0 : Int32).toNatClampNeg (0 : Int32).toNatClampNeg (64 : Int32).toNatClampNeg), (va_cpy o.2.2.2.2.2.1 x.2.2.2.2.2.1 (0 : Int32).toNatClampNeg (0 : Int32).toNatClampNeg (64 : Int32).toNatClampNeg), (va_cpy o.2.2.2.2.2.2 x.2.2.2.2.2.2 (0 : Int32).toNatClampNeg (0 : Int32).toNatClampNeg (64 : Int32).toNatClampNeg))
def f_X2_isCell (p0 : Int32) (x : SlC) : Option (Int32) :=
  if p0 < 0 then
    some 0
  else
    if x.1 ≤ p0 then
      some 0
    else
      if 64 ≤ p0 then
        some 0
      else
        some 1
def f_X2_cellsNow (x : SlC) : Option (Int32) :=
  some x.1
def f_X2_stampAt (p0 : Int32) (x : SlC) : Option (Int32) :=
  Option.bind (f_X2_isCell p0 x) fun z1 =>
  if z1 = 0 then
    some 0
  else
    gi p0 64 <|
    some (x.2.1 p0.toNatClampNeg)
def f_X2_ownerOf (p0 : Int32) (x : SlC) : Option (Int32) :=
  Option.bind (f_X2_isCell p0 x) fun z1 =>
  if z1 = 0 then
    some (-1)
  else
    gi p0 64 <|
    some (x.2.2.1 p0.toNatClampNeg)
def f_X2_sizeAt (p0 : Int32) (x : SlC) : Option (Int32) :=
  Option.bind (f_X2_isCell p0 x) fun z1 =>
  if z1 = 0 then
    some 0
  else
    gi p0 64 <|
    some (x.2.2.2.1 p0.toNatClampNeg)
def f_X2_valueAt (p0 : Int32) (x : SlC) : Option (Int32) :=
  Option.bind (f_X2_isCell p0 x) fun z1 =>
  if z1 = 0 then
    some 0
  else
    gi p0 64 <|
    some (x.2.2.2.2.1 p0.toNatClampNeg)
def f_X2_kindAt (p0 : Int32) (x : SlC) : Option (Int32) :=
  Option.bind (f_X2_isCell p0 x) fun z1 =>
  if z1 = 0 then
    some 0
  else
    gi p0 64 <|
    some (x.2.2.2.2.2.1 p0.toNatClampNeg)
def f_X2_timesFired (p0 : Int32) (x : SlC) : Option (Int32) :=
  Option.bind (f_X2_isCell p0 x) fun z1 =>
  if z1 = 0 then
    some 0
  else
    gi p0 64 <|
    some (x.2.2.2.2.2.2 p0.toNatClampNeg)
def f_X2_handleOf (p0 : Int32) (x : SlC) : Option (Int32) :=
  Option.bind (f_X2_isCell p0 x) fun z1 =>
  if z1 = 0 then
    some (-1)
  else
    gi p0 64 <|
    some ((p0 * 1000) + (x.2.1 p0.toNatClampNeg))
def f_X2_whyRefused (p0 : Int32) (x : SlC) : Option (Int32) :=
  if p0 < 0 then
    some 1
  else
    Option.bind (f_X2_isCell (p0 / 1000) x) fun z1 =>
    if z1 = 0 then
      some 1
    else
      Option.bind (f_X2_stampAt (p0 / 1000) x) fun z2 =>
      if z2 = (p0 - p0 / 1000 * 1000) then
        Option.bind (f_X2_sizeAt (p0 / 1000) x) fun z3 =>
        if z3 = 0 then
          some 3
        else
          some 0
      else
        some 2
def f_X2_lowestFor_27 (k4 : Int32 → Int32 → Int32 → SlC → Option (Int32)) (v1 : Int32) (v3 : Int32) (t0 : Int32) (x : SlC) : Option (Int32) :=
  if t0 = v1 then
    some ((v3 - v1) + 1)
  else
    k4 v1 t0 (v3 + 1) x
def f_X2_lowestFor_4 : Nat → Int32 → Int32 → Int32 → SlC → Option (Int32)
  | 0, _, _, _, _ => none
  | fu + 1, v1, v2, v3, x =>
    if 64 ≤ v3 then
      some (-1)
    else
      gi v3 64 <|
      if (x.2.2.1 v3.toNatClampNeg) = (-1) then
        f_X2_lowestFor_27 (f_X2_lowestFor_4 fu) v1 v3 (v2 + 1) x
      else
        f_X2_lowestFor_27 (f_X2_lowestFor_4 fu) v1 v3 0 x
def f_X2_lowestFor (p0 : Int32) (x : SlC) : Option (Int32) :=
  f_X2_lowestFor_4 FU p0 0 0 x
def f_X2_growTo_2 : Nat → Int32 → Int32 → SlC → Option (SlC)
  | 0, _, _, _ => none
  | fu + 1, v1, v2, x =>
    if 2 ≤ v2 then
      some x
    else
      if v1 ≤ x.1 then
        f_X2_growTo_2 fu v1 (v2 + 1) x
      else
        if 64 ≤ x.1 then
          f_X2_growTo_2 fu v1 (v2 + 1) x
        else
          f_X2_growTo_2 fu v1 (v2 + 1) (2 * x.1, x.2)
def f_X2_growTo (p0 : Int32) (x : SlC) : Option (SlC) :=
  f_X2_growTo_2 FU p0 0 x
def f_X2_giveCells_3 : Nat → Int32 → Int32 → Int32 → Int32 → SlC → Option (SlC)
  | 0, _, _, _, _, _ => none
  | fu + 1, v1, v2, v3, v4, x =>
    if (v1 + v2) ≤ v4 then
      some x
    else
      Option.bind (f_X2_isCell v4 x) fun z1 =>
      if z1 = 0 then
        f_X2_giveCells_3 fu v1 v2 v3 (v4 + 1) x
      else
        gi v4 64 <|
        f_X2_giveCells_3 fu v1 v2 v3 (v4 + 1) (x.1, x.2.1, (upd x.2.2.1 v4.toNatClampNeg v3), x.2.2.2)
def f_X2_giveCells (p0 : Int32) (p1 : Int32) (p2 : Int32) (x : SlC) : Option (SlC) :=
  f_X2_giveCells_3 FU p0 p1 p2 p0 x
def f_X2_occupy (p0 : Int32) (p1 : Int32) (p2 : Int32) (p3 : Int32) (x : SlC) : Option (SlC) :=
  Option.bind (f_X2_growTo (p0 + p2) x) fun z1 =>
  Option.bind (f_X2_isCell p0 z1) fun z2 =>
  if z2 = 0 then
    some z1
  else
    gi p0 64 <|
    gi p0 64 <|
    gi p0 64 <|
    gi p0 64 <|
    Option.bind (f_X2_giveCells p0 p2 p0 (z1.1, z1.2.1, z1.2.2.1, (upd z1.2.2.2.1 p0.toNatClampNeg p2), (upd z1.2.2.2.2.1 p0.toNatClampNeg p1), (upd z1.2.2.2.2.2.1 p0.toNatClampNeg p3), (upd z1.2.2.2.2.2.2 p0.toNatClampNeg 0))) fun z3 =>
    some z3
def f_X2_release (p0 : Int32) (x : SlC) : Option (SlC) :=
  Option.bind (f_X2_isCell p0 x) fun z1 =>
  if z1 = 0 then
    some x
  else
    gi p0 64 <|
    Option.bind (f_X2_giveCells p0 (x.2.2.2.1 p0.toNatClampNeg) (-1) x) fun z2 =>
    gi p0 64 <|
    gi p0 64 <|
    gi p0 64 <|
    some (z2.1, (upd z2.2.1 p0.toNatClampNeg (((z2.2.1 p0.toNatClampNeg) + 1) - ((z2.2.1 p0.toNatClampNeg) + 1) / 1000 * 1000)), z2.2.2.1, (upd z2.2.2.2.1 p0.toNatClampNeg 0), z2.2.2.2.2)
def f_X2_setTimesFired (p0 : Int32) (p1 : Int32) (x : SlC) : Option (SlC) :=
  Option.bind (f_X2_isCell p0 x) fun z1 =>
  if z1 = 0 then
    some x
  else
    gi p0 64 <|
    some (x.1, x.2.1, x.2.2.1, x.2.2.2.1, x.2.2.2.2.1, x.2.2.2.2.2.1, (upd x.2.2.2.2.2.2 p0.toNatClampNeg p1))
def f_X2_carry (p0 : Int32) (p1 : Int32) (x : SlC) : Option (SlC) :=
  Option.bind (f_X2_valueAt p0 x) fun z1 =>
  Option.bind (f_X2_sizeAt p0 x) fun z2 =>
  Option.bind (f_X2_kindAt p0 x) fun z3 =>
  Option.bind (f_X2_timesFired p0 x) fun z4 =>
  Option.bind (f_X2_release p0 x) fun z5 =>
  Option.bind (f_X2_occupy p1 z1 z2 z3 z5) fun z6 =>
  Option.bind (f_X2_setTimesFired p1 z4 z6) fun z7 =>
  some z7
def f_X2_setValue (p0 : Int32) (p1 : Int32) (x : SlC) : Option (SlC) :=
  Option.bind (f_X2_isCell p0 x) fun z1 =>
  if z1 = 0 then
    some x
  else
    gi p0 64 <|
    some (x.1, x.2.1, x.2.2.1, x.2.2.2.1, (upd x.2.2.2.2.1 p0.toNatClampNeg p1), x.2.2.2.2.2)
def f_X2_roomFor_33 (k7 : Int32 → Int32 → Int32 → Int32 → SlC → Option (Int32)) (v1 : Int32) (v2 : Int32) (v4 : Int32) (t0 : Int32) (x : SlC) : Option (Int32) :=
  if t0 = v1 then
    k7 v1 (v2 + 1) 0 (v4 + 1) x
  else
    k7 v1 v2 t0 (v4 + 1) x
def f_X2_roomFor_7 : Nat → Int32 → Int32 → Int32 → Int32 → SlC → Option (Int32)
  | 0, _, _, _, _, _ => none
  | fu + 1, v1, v2, v3, v4, x =>
    if x.1 ≤ v4 then
      some v2
    else
      Option.bind (f_X2_ownerOf v4 x) fun z1 =>
      if z1 = (-1) then
        f_X2_roomFor_33 (f_X2_roomFor_7 fu) v1 v2 v4 (v3 + 1) x
      else
        f_X2_roomFor_33 (f_X2_roomFor_7 fu) v1 v2 v4 0 x
def f_X2_roomFor (p0 : Int32) (x : SlC) : Option (Int32) :=
  f_X2_roomFor_7 FU p0 0 0 0 x
def f_X2_freeCells (x : SlC) : Option (Int32) :=
  Option.bind (f_X2_roomFor 1 x) fun z1 =>
  some z1
def f_X2_sumOfValues_4 : Nat → Int32 → Int32 → SlC → Option (Int32)
  | 0, _, _, _ => none
  | fu + 1, v1, v2, x =>
    if x.1 ≤ v2 then
      some v1
    else
      Option.bind (f_X2_sizeAt v2 x) fun z1 =>
      if z1 ≤ 0 then
        f_X2_sumOfValues_4 fu v1 (v2 + 1) x
      else
        Option.bind (f_X2_valueAt v2 x) fun z2 =>
        f_X2_sumOfValues_4 fu (v1 + z2) (v2 + 1) x
def f_X2_sumOfValues (x : SlC) : Option (Int32) :=
  f_X2_sumOfValues_4 FU 0 0 x
def f_X2_longestGap_30 (k6 : Int32 → Int32 → Int32 → SlC → Option (Int32)) (v1 : Int32) (v3 : Int32) (t0 : Int32) (x : SlC) : Option (Int32) :=
  k6 (if v1 < t0 then t0 else v1) t0 (v3 + 1) x
def f_X2_longestGap_6 : Nat → Int32 → Int32 → Int32 → SlC → Option (Int32)
  | 0, _, _, _, _ => none
  | fu + 1, v1, v2, v3, x =>
    if x.1 ≤ v3 then
      some v1
    else
      Option.bind (f_X2_ownerOf v3 x) fun z1 =>
      if z1 = (-1) then
        f_X2_longestGap_30 (f_X2_longestGap_6 fu) v1 v3 (v2 + 1) x
      else
        f_X2_longestGap_30 (f_X2_longestGap_6 fu) v1 v3 0 x
def f_X2_longestGap (x : SlC) : Option (Int32) :=
  f_X2_longestGap_6 FU 0 0 0 x
def f_X2_beginOfLongestGap_35 (k9 : Int32 → Int32 → Int32 → Int32 → SlC → Option (Int32)) (v1 : Int32) (v2 : Int32) (v4 : Int32) (t0 : Int32) (x : SlC) : Option (Int32) :=
  if t0 ≤ v1 then
    k9 v1 v2 t0 (v4 + 1) x
  else
    k9 t0 ((v4 - t0) + 1) t0 (v4 + 1) x
def f_X2_beginOfLongestGap_9 : Nat → Int32 → Int32 → Int32 → Int32 → SlC → Option (Int32)
  | 0, _, _, _, _, _ => none
  | fu + 1, v1, v2, v3, v4, x =>
    if x.1 ≤ v4 then
      some v2
    else
      Option.bind (f_X2_ownerOf v4 x) fun z1 =>
      if z1 = (-1) then
        f_X2_beginOfLongestGap_35 (f_X2_beginOfLongestGap_9 fu) v1 v2 v4 (v3 + 1) x
      else
        f_X2_beginOfLongestGap_35 (f_X2_beginOfLongestGap_9 fu) v1 v2 v4 0 x
def f_X2_beginOfLongestGap (x : SlC) : Option (Int32) :=
  f_X2_beginOfLongestGap_9 FU 0 (-1) 0 0 x
