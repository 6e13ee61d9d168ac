def f_X1_copyFrom (x : RwC) (o : RwC) : Option (RwC) :=
  gcp 0 0 68 68 68 <|
  gcp 0 0 4 4 4 <|
  some (o.1, (va_cpy o.2.1 x.2.1 (0 : Int32).toNatClampNeg (0 : Int32).toNatClampNeg (68 : Int32).toNatClampNeg), (va_cpy o.2.2 x.2.2 (0 : Int32).toNatClampNeg (0 : Int32).toNatClampNeg (4 : Int32).toNatClampNeg))
def f_X1_size (x : RwC) : Option (Int32) :=
  some x.1
def f_X1_isEntry (p0 : Int32) (x : RwC) : Option (Int32) :=
  if p0 < 0 then
    some 0
  else
    if x.1 ≤ p0 then
      some 0
    else
      if 68 ≤ p0 then
        some 0
      else
        some 1
def f_X1_thingIn (p0 : Int32) (x : RwC) : Option (Int32) :=
  Option.bind (f_X1_isEntry p0 x) fun z1 =>
  if z1 = 0 then
    some (-1)
  else
    gi p0 68 <|
    some (x.2.1 p0.toNatClampNeg)
def f_X1_thingsFrom_8 : Nat → Int32 → Int32 → RwC → Option (Int32)
  | 0, _, _, _ => none
  | fu + 1, v2, v3, x =>
    if x.1 ≤ v3 then
      some v2
    else
      Option.bind (f_X1_thingIn v3 x) fun z1 =>
      if z1 = (-1) then
        f_X1_thingsFrom_8 fu v2 (v3 + 1) x
      else
        f_X1_thingsFrom_8 fu (v2 + 1) (v3 + 1) x
def f_X1_thingsFrom (p0 : Int32) (x : RwC) : Option (Int32) :=
  f_X1_thingsFrom_8 FU 0 (if p0 < 0 then 0 else p0) x
def f_X1_things (x : RwC) : Option (Int32) :=
  Option.bind (f_X1_thingsFrom 0 x) fun z1 =>
  some z1
def f_X1_tombstones (x : RwC) : Option (Int32) :=
  Option.bind (f_X1_things x) fun z1 =>
  some (x.1 - z1)
def f_X1_thingAtPlace_4 : Nat → Int32 → Int32 → Int32 → RwC → Option (Int32)
  | 0, _, _, _, _ => none
  | fu + 1, v1, v2, v3, x =>
    if x.1 ≤ v3 then
      some (-1)
    else
      Option.bind (f_X1_thingIn v3 x) fun z1 =>
      if z1 = (-1) then
        f_X1_thingAtPlace_4 fu v1 v2 (v3 + 1) x
      else
        if v2 = v1 then
          some z1
        else
          f_X1_thingAtPlace_4 fu v1 (v2 + 1) (v3 + 1) x
def f_X1_thingAtPlace (p0 : Int32) (x : RwC) : Option (Int32) :=
  f_X1_thingAtPlace_4 FU p0 0 0 x
def f_X1_placeOf_4 : Nat → Int32 → Int32 → Int32 → RwC → Option (Int32)
  | 0, _, _, _, _ => none
  | fu + 1, v1, v2, v3, x =>
    if x.1 ≤ v3 then
      some v2
    else
      Option.bind (f_X1_thingIn v3 x) fun z1 =>
      if z1 = v1 then
        some v2
      else
        Option.bind (f_X1_thingIn v3 x) fun z2 =>
        if z2 = (-1) then
          f_X1_placeOf_4 fu v1 v2 (v3 + 1) x
        else
          f_X1_placeOf_4 fu v1 (v2 + 1) (v3 + 1) x
def f_X1_placeOf (p0 : Int32) (x : RwC) : Option (Int32) :=
  f_X1_placeOf_4 FU p0 0 0 x
def f_X1_indexOf_2 : Nat → Int32 → Int32 → RwC → Option (Int32)
  | 0, _, _, _ => none
  | fu + 1, v1, v2, x =>
    if x.1 ≤ v2 then
      some x.1
    else
      Option.bind (f_X1_thingIn v2 x) fun z1 =>
      if z1 = v1 then
        some v2
      else
        f_X1_indexOf_2 fu v1 (v2 + 1) x
def f_X1_indexOf (p0 : Int32) (x : RwC) : Option (Int32) :=
  f_X1_indexOf_2 FU p0 0 x
def f_X1_list_4 : Nat → Int32 → Int32 → RwC → Fn → Option (Int32 × Fn)
  | 0, _, _, _, _ => none
  | fu + 1, v2, v3, x, o =>
    if x.1 ≤ v3 then
      some (v2, o)
    else
      Option.bind (f_X1_thingIn v3 x) fun z1 =>
      if z1 = (-1) then
        f_X1_list_4 fu v2 (v3 + 1) x o
      else
        if 64 ≤ v2 then
          f_X1_list_4 fu v2 (v3 + 1) x o
        else
          gi v2 64 <|
          f_X1_list_4 fu (v2 + 1) (v3 + 1) x (upd o v2.toNatClampNeg z1)
def f_X1_list (x : RwC) (o : Fn) : Option (Int32 × Fn) :=
  f_X1_list_4 FU 0 0 x o
def f_X1_insert_62 : Nat → Int32 → Int32 → RwC → Option (RwC)
  | 0, _, _, _ => none
  | fu + 1, v1, v3, x =>
    if 4 ≤ v3 then
      some x
    else
      gi v3 4 <|
      if (x.2.2 v3.toNatClampNeg) < v1 then
        f_X1_insert_62 fu v1 (v3 + 1) x
      else
        gi v3 4 <|
        gi v3 4 <|
        f_X1_insert_62 fu v1 (v3 + 1) (x.1, x.2.1, (upd x.2.2 v3.toNatClampNeg ((x.2.2 v3.toNatClampNeg) + 1)))
def f_X1_insert (p0 : Int32) (p1 : Int32) (x : RwC) : Option (RwC) :=
  if p0 < 0 then
    some x
  else
    if x.1 < p0 then
      some x
    else
      if x.1 < 68 then
        gcp p0 (p0 + 1) (x.1 - p0) 68 68 <|
        gi p0 68 <|
        f_X1_insert_62 FU p0 0 (x.1 + 1, (upd (va_cpy x.2.1 x.2.1 p0.toNatClampNeg (p0 + 1).toNatClampNeg (x.1 - p0).toNatClampNeg) p0.toNatClampNeg p1), x.2.2)
      else
        some x
def f_X1_walkersOn_4 : Nat → Int32 → Int32 → Int32 → RwC → Option (Int32)
  | 0, _, _, _, _ => none
  | fu + 1, v1, v2, v3, x =>
    if 4 ≤ v3 then
      some v2
    else
      gi v3 4 <|
      if (x.2.2 v3.toNatClampNeg) = v1 then
        f_X1_walkersOn_4 fu v1 (v2 + 1) (v3 + 1) x
      else
        f_X1_walkersOn_4 fu v1 v2 (v3 + 1) x
def f_X1_walkersOn (p0 : Int32) (x : RwC) : Option (Int32) :=
  f_X1_walkersOn_4 FU p0 0 0 x
def f_X1_sweep_62 : Nat → Int32 → Int32 → RwC → Option (RwC)
  | 0, _, _, _ => none
  | fu + 1, v1, v2, x =>
    if 4 ≤ v2 then
      some x
    else
      gi v2 4 <|
      if (x.2.2 v2.toNatClampNeg) ≤ v1 then
        f_X1_sweep_62 fu v1 (v2 + 1) x
      else
        gi v2 4 <|
        gi v2 4 <|
        f_X1_sweep_62 fu v1 (v2 + 1) (x.1, x.2.1, (upd x.2.2 v2.toNatClampNeg ((x.2.2 v2.toNatClampNeg) - 1)))
def f_X1_sweep (p0 : Int32) (x : RwC) : Option (RwC) :=
  Option.bind (f_X1_isEntry p0 x) fun z1 =>
  if z1 = 0 then
    some x
  else
    gi p0 68 <|
    if (x.2.1 p0.toNatClampNeg) = (-1) then
      Option.bind (f_X1_walkersOn p0 x) fun z2 =>
      if z2 ≤ 0 then
        gcp (p0 + 1) p0 ((x.1 - p0) - 1) 68 68 <|
        f_X1_sweep_62 FU p0 0 (x.1 - 1, (va_cpy x.2.1 x.2.1 (p0 + 1).toNatClampNeg p0.toNatClampNeg ((x.1 - p0) - 1).toNatClampNeg), x.2.2)
      else
        some x
    else
      some x
def f_X1_bury (p0 : Int32) (x : RwC) : Option (RwC) :=
  Option.bind (f_X1_indexOf p0 x) fun z1 =>
  Option.bind (f_X1_isEntry z1 x) fun z2 =>
  if z2 = 0 then
    some x
  else
    gi z1 68 <|
    Option.bind (f_X1_sweep z1 (x.1, (upd x.2.1 z1.toNatClampNeg (-1)), x.2.2)) fun z3 =>
    some z3
def f_X1_rename (p0 : Int32) (p1 : Int32) (x : RwC) : Option (RwC) :=
  Option.bind (f_X1_indexOf p0 x) fun z1 =>
  Option.bind (f_X1_isEntry z1 x) fun z2 =>
  if z2 = 0 then
    some x
  else
    gi z1 68 <|
    some (x.1, (upd x.2.1 z1.toNatClampNeg p1), x.2.2)
def f_X1_indexUnder (p0 : Int32) (x : RwC) : Option (Int32) :=
  Option.bind (f_X5_isWalker p0) fun z1 =>
  if z1 = 0 then
    some (-1)
  else
    gi p0 4 <|
    some (x.2.2 p0.toNatClampNeg)
def f_X1_standOf (p0 : Int32) (x : RwC) : Option (Int32) :=
  Option.bind (f_X1_indexUnder p0 x) fun z1 =>
  if z1 = (-2) then
    some 3
  else
    if z1 = (-1) then
      some 0
    else
      Option.bind (f_X1_thingIn z1 x) fun z2 =>
      if z2 = (-1) then
        some 2
      else
        some 1
def f_X1_thingUnder (p0 : Int32) (x : RwC) : Option (Int32) :=
  Option.bind (f_X1_indexUnder p0 x) fun z1 =>
  Option.bind (f_X1_thingIn z1 x) fun z2 =>
  some z2
def f_X1_thingsBehind (p0 : Int32) (x : RwC) : Option (Int32) :=
  Option.bind (f_X1_indexUnder p0 x) fun z1 =>
  if z1 = (-2) then
    some 0
  else
    Option.bind (f_X1_thingsFrom (z1 + 1) x) fun z2 =>
    some z2
def f_X1_send (p0 : Int32) (p1 : Int32) (x : RwC) : Option (RwC) :=
  Option.bind (f_X5_isWalker p0) fun z1 =>
  if z1 = 0 then
    some x
  else
    gi p0 4 <|
    gi p0 4 <|
    Option.bind (f_X1_sweep (x.2.2 p0.toNatClampNeg) (x.1, x.2.1, (upd x.2.2 p0.toNatClampNeg p1))) fun z2 =>
    some z2
def f_X1_sendAhead (p0 : Int32) (x : RwC) : Option (RwC) :=
  Option.bind (f_X1_send p0 (-1) x) fun z1 =>
  some z1
def f_X1_nextThing_2 : Nat → Int32 → RwC → Option (Int32)
  | 0, _, _ => none
  | fu + 1, v2, x =>
    if x.1 ≤ v2 then
      some (-2)
    else
      Option.bind (f_X1_thingIn v2 x) fun z1 =>
      if z1 = (-1) then
        f_X1_nextThing_2 fu (v2 + 1) x
      else
        some v2
def f_X1_nextThing (p0 : Int32) (x : RwC) : Option (Int32) :=
  f_X1_nextThing_2 FU p0 x
def f_X1_sendOn (p0 : Int32) (x : RwC) : Option (RwC) :=
  Option.bind (f_X1_indexUnder p0 x) fun z1 =>
  if z1 = (-2) then
    some x
  else
    Option.bind (f_X1_nextThing (z1 + 1) x) fun z2 =>
    Option.bind (f_X1_send p0 z2 x) fun z3 =>
    some z3
