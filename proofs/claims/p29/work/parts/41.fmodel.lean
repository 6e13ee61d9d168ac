def f_X6_thrown (x : MdC) : Option (Int32) :=
  some x.1
def f_X6_in (p0 : Int32) (p1 : Int32) (p2 : Int32) : Option (Int32) :=
  if p0 < p1 then
    some 0
  else
    if p2 < p0 then
      some 0
    else
      some 1
def f_X6_refuses (p0 : Int32) (x : MdC) : Option (Int32 × MdC) :=
  if p0 ≤ 0 then
    some (0, (p0, x.2))
  else
    some (1, (p0, x.2))
def f_X6_lays_3 (l0 l1 : Nat) : Nat → Int32 → Int32 → Int32 → Fn → Fn → Option (Fn)
  | 0, _, _, _, _, _ => none
  | fu + 1, v1, v3, v4, x, o =>
    if 414 ≤ v4 then
      some o
    else
      gi (v1 + v4) l0 <|
      gi (v3 + v4) l1 <|
      f_X6_lays_3 l0 l1 fu v1 v3 (v4 + 1) x (upd o (v3 + v4).toNatClampNeg (x (v1 + v4).toNatClampNeg))
def f_X6_lays (l0 l1 : Nat) (p1 : Int32) (p3 : Int32) (x : Fn) (o : Fn) : Option (Fn) :=
  f_X6_lays_3 l0 l1 FU p1 p3 0 x o
def f_X6_saves_50 (x : MdC) : Option (MdC) :=
  Option.bind (f_X6_lays 414 2484 0 (414 * x.2.2.2.2.1) x.2.1 x.2.2.2.1) fun z1 =>
  some (x.1, x.2.1, x.2.2.1, z1, x.2.2.2.2.1 + 1, x.2.2.2.2.2)
def f_X6_saves_11 : Nat → Int32 → MdC → Option (MdC)
  | 0, _, _ => none
  | fu + 1, v1, x =>
    if 2070 ≤ v1 then
      f_X6_saves_50 (x.1, x.2.1, x.2.2.1, x.2.2.2.1, x.2.2.2.2.1 - 1, x.2.2.2.2.2)
    else
      gi (v1 + 414) 2484 <|
      gi v1 2484 <|
      f_X6_saves_11 fu (v1 + 1) (x.1, x.2.1, x.2.2.1, (upd x.2.2.2.1 v1.toNatClampNeg (x.2.2.2.1 (v1 + 414).toNatClampNeg)), x.2.2.2.2)
def f_X6_saves (x : MdC) : Option (MdC) :=
  if x.2.2.2.2.1 = 6 then
    f_X6_saves_11 FU 0 x
  else
    f_X6_saves_50 x
def f_X6_of (p1 : Int32) (p2 : Int32) (x : Fn) : Option (Int32) :=
  gi ((70 + (5 * p1)) + p2) 414 <|
  some (x ((70 + (5 * p1)) + p2).toNatClampNeg)
def f_X6_isThing (p1 : Int32) (x : Fn) : Option (Int32) :=
  Option.bind (f_X6_of p1 0 x) fun z1 =>
  if z1 = (-1) then
    some 0
  else
    some 1
def f_X6_things_25 (k4 : Int32 → Int32 → Fn → Option (Int32)) (v2 : Int32) (t0 : Int32) (t1 : Int32) (x : Fn) : Option (Int32) :=
  k4 (t0 + t1) (v2 + 1) x
def f_X6_things_4 : Nat → Int32 → Int32 → Fn → Option (Int32)
  | 0, _, _, _ => none
  | fu + 1, v1, v2, x =>
    gi 1 414 <|
    if (x (1 : Int32).toNatClampNeg) ≤ v2 then
      some v1
    else
      Option.bind (f_X6_isThing v2 x) fun z1 =>
      if z1 = 0 then
        f_X6_things_25 (f_X6_things_4 fu) v2 v1 0 x
      else
        f_X6_things_25 (f_X6_things_4 fu) v2 v1 1 x
def f_X6_things (x : Fn) : Option (Int32) :=
  f_X6_things_4 FU 0 0 x
def f_X6_entryOf_2 : Nat → Int32 → Int32 → Fn → Option (Int32)
  | 0, _, _, _ => none
  | fu + 1, v1, v2, x =>
    gi 1 414 <|
    if (x (1 : Int32).toNatClampNeg) ≤ v2 then
      some (-1)
    else
      Option.bind (f_X6_isThing v2 x) fun z1 =>
      if z1 = 0 then
        f_X6_entryOf_2 fu v1 (v2 + 1) x
      else
        Option.bind (f_X6_of v2 0 x) fun z2 =>
        Option.bind (f_X6_of v2 0 x) fun z3 =>
        Option.bind (f_X6_of v2 1 x) fun z4 =>
        Option.bind (f_X6_in v1 z2 ((z3 + z4) - 1)) fun z5 =>
        if z5 = 0 then
          f_X6_entryOf_2 fu v1 (v2 + 1) x
        else
          some v2
def f_X6_entryOf (p1 : Int32) (x : Fn) : Option (Int32) :=
  f_X6_entryOf_2 FU p1 0 x
def f_X6_handleOf (p1 : Int32) (x : Fn) : Option (Int32) :=
  Option.bind (f_X6_of p1 0 x) fun z1 =>
  Option.bind (f_X6_of p1 0 x) fun z2 =>
  gi (6 + z2) 414 <|
  some ((1000 * z1) + (x (6 + z2).toNatClampNeg))
def f_X6_freeFrom_2 : Nat → Int32 → Int32 → Int32 → Fn → Option (Int32)
  | 0, _, _, _, _ => none
  | fu + 1, v1, v2, v3, x =>
    if v2 ≤ (v1 + v3) then
      some v3
    else
      Option.bind (f_X6_entryOf (v1 + v3) x) fun z1 =>
      if z1 = (-1) then
        f_X6_freeFrom_2 fu v1 v2 (v3 + 1) x
      else
        some v3
def f_X6_freeFrom (p1 : Int32) (p2 : Int32) (x : Fn) : Option (Int32) :=
  f_X6_freeFrom_2 FU p1 p2 0 x
def f_X6_roomIn_2 : Nat → Int32 → Int32 → Int32 → Fn → Option (Int32)
  | 0, _, _, _, _ => none
  | fu + 1, v1, v2, v3, x =>
    if v2 < (v3 + v1) then
      some (-1)
    else
      Option.bind (f_X6_freeFrom v3 v2 x) fun z1 =>
      if z1 < v1 then
        f_X6_roomIn_2 fu v1 v2 (v3 + 1) x
      else
        some v3
def f_X6_roomIn (p1 : Int32) (p2 : Int32) (x : Fn) : Option (Int32) :=
  f_X6_roomIn_2 FU p1 p2 0 x
def f_X6_cellsFor_27 (v1 : Int32) (v2 : Int32) (x : Fn) : Option (Int32) :=
  Option.bind (f_X6_roomIn v1 v2 x) fun z2 =>
  if z2 = (-1) then
    some (-1)
  else
    some v2
def f_X6_cellsFor_4 : Nat → Int32 → Int32 → Fn → Option (Int32)
  | 0, _, _, _ => none
  | fu + 1, v1, v2, x =>
    if 64 ≤ v2 then
      f_X6_cellsFor_27 v1 v2 x
    else
      Option.bind (f_X6_roomIn v1 v2 x) fun z1 =>
      if z1 = (-1) then
        f_X6_cellsFor_4 fu v1 (v2 * 2) x
      else
        f_X6_cellsFor_27 v1 v2 x
def f_X6_cellsFor (p1 : Int32) (x : Fn) : Option (Int32) :=
  gi 0 414 <|
  f_X6_cellsFor_4 FU p1 (x (0 : Int32).toNatClampNeg) x
def f_X6_leaves (p1 : Int32) (x : Fn) : Option (Fn) :=
  gi (6 + p1) 414 <|
  gi (6 + p1) 414 <|
  some (upd x (6 + p1).toNatClampNeg (((x (6 + p1).toNatClampNeg) + 1) - ((x (6 + p1).toNatClampNeg) + 1) / 1000 * 1000))
def f_X6_comes_175 (k130 : Int32 → Int32 → Int32 → Fn → Option (Int32 × Fn)) (v1 : Int32) (v6 : Int32) (v8 : Int32) (t1 : Int32) (t2 : Int32) (t3 : Int32) (x : Fn) : Option (Int32 × Fn) :=
  gi t1 414 <|
  k130 v1 v6 (v8 + 1) (upd x t1.toNatClampNeg (t2 + t3))
def f_X6_comes_174 (k130 : Int32 → Int32 → Int32 → Fn → Option (Int32 × Fn)) (v1 : Int32) (v6 : Int32) (v8 : Int32) (t1 : Int32) (t2 : Int32) (x : Fn) : Option (Int32 × Fn) :=
  f_X6_comes_175 k130 v1 v6 v8 t1 t2 0 x
def f_X6_comes_130 : Nat → Int32 → Int32 → Int32 → Fn → Option (Int32 × Fn)
  | 0, _, _, _, _ => none
  | fu + 1, v1, v6, v8, x =>
    if 4 ≤ v8 then
      some (v6, x)
    else
      gi (410 + v8) 414 <|
      gi (410 + v8) 414 <|
      if (x (410 + v8).toNatClampNeg) < v1 then
        f_X6_comes_174 (f_X6_comes_130 fu) v1 v6 v8 (410 + v8) (x (410 + v8).toNatClampNeg) x
      else
        gi (410 + v8) 414 <|
        if (x (410 + v8).toNatClampNeg) = 99 then
          f_X6_comes_174 (f_X6_comes_130 fu) v1 v6 v8 (410 + v8) (x (410 + v8).toNatClampNeg) x
        else
          f_X6_comes_175 (f_X6_comes_130 fu) v1 v6 v8 (410 + v8) (x (410 + v8).toNatClampNeg) 1 x
def f_X6_comes_38 : Nat → Int32 → Int32 → Int32 → Int32 → Int32 → Int32 → Fn → Option (Int32 × Fn)
  | 0, _, _, _, _, _, _, _ => none
  | fu + 1, v1, v2, v3, v4, v6, v7, x =>
    if v7 < (5 * v1) then
      gi ((70 + (5 * v1)) + 0) 414 <|
      gi ((70 + (5 * v1)) + 1) 414 <|
      gi ((70 + (5 * v1)) + 2) 414 <|
      gi ((70 + (5 * v1)) + 3) 414 <|
      gi ((70 + (5 * v1)) + 4) 414 <|
      gi 1 414 <|
      gi 1 414 <|
      gi 3 414 <|
      gi 3 414 <|
      f_X6_comes_130 FU v1 v6 0 (upd (upd (upd (upd (upd (upd (upd x ((70 + (5 * v1)) + 0).toNatClampNeg v6) ((70 + (5 * v1)) + 1).toNatClampNeg v3) ((70 + (5 * v1)) + 2).toNatClampNeg v2) ((70 + (5 * v1)) + 3).toNatClampNeg v4) ((70 + (5 * v1)) + 4).toNatClampNeg 0) (1 : Int32).toNatClampNeg (((upd (upd (upd (upd (upd x ((70 + (5 * v1)) + 0).toNatClampNeg v6) ((70 + (5 * v1)) + 1).toNatClampNeg v3) ((70 + (5 * v1)) + 2).toNatClampNeg v2) ((70 + (5 * v1)) + 3).toNatClampNeg v4) ((70 + (5 * v1)) + 4).toNatClampNeg 0) (1 : Int32).toNatClampNeg) + 1)) (3 : Int32).toNatClampNeg (((upd (upd (upd (upd (upd (upd x ((70 + (5 * v1)) + 0).toNatClampNeg v6) ((70 + (5 * v1)) + 1).toNatClampNeg v3) ((70 + (5 * v1)) + 2).toNatClampNeg v2) ((70 + (5 * v1)) + 3).toNatClampNeg v4) ((70 + (5 * v1)) + 4).toNatClampNeg 0) (1 : Int32).toNatClampNeg (((upd (upd (upd (upd (upd x ((70 + (5 * v1)) + 0).toNatClampNeg v6) ((70 + (5 * v1)) + 1).toNatClampNeg v3) ((70 + (5 * v1)) + 2).toNatClampNeg v2) ((70 + (5 * v1)) + 3).toNatClampNeg v4) ((70 + (5 * v1)) + 4).toNatClampNeg 0) (1 : Int32).toNatClampNeg) + 1)) (3 : Int32).toNatClampNeg) + 1))
    else
      gi (70 + v7) 414 <|
      gi ((70 + v7) + 5) 414 <|
      f_X6_comes_38 fu v1 v2 v3 v4 v6 (v7 + (-1)) (upd x ((70 + v7) + 5).toNatClampNeg (x (70 + v7).toNatClampNeg))
def f_X6_comes (p1 : Int32) (p2 : Int32) (p3 : Int32) (p4 : Int32) (x : Fn) : Option (Int32 × Fn) :=
  Option.bind (f_X6_cellsFor p3 x) fun z1 =>
  if z1 = (-1) then
    some ((-1), x)
  else
    Option.bind (f_X6_roomIn p3 z1 x) fun z2 =>
    gi 0 414 <|
    gi 1 414 <|
    f_X6_comes_38 FU p1 p2 p3 p4 z2 ((5 * ((upd x (0 : Int32).toNatClampNeg z1) (1 : Int32).toNatClampNeg)) - 1) (upd x (0 : Int32).toNatClampNeg z1)
def f_X6_standing_26 (k4 : Int32 → Int32 → Int32 → Fn → Option (Int32)) (v1 : Int32) (v3 : Int32) (t0 : Int32) (t1 : Int32) (x : Fn) : Option (Int32) :=
  k4 v1 (t0 + t1) (v3 + 1) x
def f_X6_standing_4 : Nat → Int32 → Int32 → Int32 → Fn → Option (Int32)
  | 0, _, _, _, _ => none
  | fu + 1, v1, v2, v3, x =>
    if 4 ≤ v3 then
      some v2
    else
      gi (410 + v3) 414 <|
      if (x (410 + v3).toNatClampNeg) = v1 then
        f_X6_standing_26 (f_X6_standing_4 fu) v1 v3 v2 1 x
      else
        f_X6_standing_26 (f_X6_standing_4 fu) v1 v3 v2 0 x
def f_X6_standing (p1 : Int32) (x : Fn) : Option (Int32) :=
  f_X6_standing_4 FU p1 0 0 x
def f_X6_drops_109 (k68 : Int32 → Int32 → Fn → Option (Fn)) (v1 : Int32) (v2 : Int32) (t1 : Int32) (t2 : Int32) (t3 : Int32) (x : Fn) : Option (Fn) :=
  gi t1 414 <|
  k68 v1 (v2 + 1) (upd x t1.toNatClampNeg (t2 - t3))
def f_X6_drops_108 (k68 : Int32 → Int32 → Fn → Option (Fn)) (v1 : Int32) (v2 : Int32) (t1 : Int32) (t2 : Int32) (x : Fn) : Option (Fn) :=
  f_X6_drops_109 k68 v1 v2 t1 t2 0 x
def f_X6_drops_68 : Nat → Int32 → Int32 → Fn → Option (Fn)
  | 0, _, _, _ => none
  | fu + 1, v1, v2, x =>
    if 4 ≤ v2 then
      some x
    else
      gi (410 + v2) 414 <|
      gi (410 + v2) 414 <|
      if (x (410 + v2).toNatClampNeg) ≤ v1 then
        f_X6_drops_108 (f_X6_drops_68 fu) v1 v2 (410 + v2) (x (410 + v2).toNatClampNeg) x
      else
        gi (410 + v2) 414 <|
        if (x (410 + v2).toNatClampNeg) = 99 then
          f_X6_drops_108 (f_X6_drops_68 fu) v1 v2 (410 + v2) (x (410 + v2).toNatClampNeg) x
        else
          f_X6_drops_109 (f_X6_drops_68 fu) v1 v2 (410 + v2) (x (410 + v2).toNatClampNeg) 1 x
def f_X6_drops_42 : Nat → Int32 → Int32 → Fn → Option (Fn)
  | 0, _, _, _ => none
  | fu + 1, v1, v2, x =>
    if 5 ≤ v2 then
      f_X6_drops_68 FU v1 0 x
    else
      gi 1 414 <|
      gi ((70 + (5 * (x (1 : Int32).toNatClampNeg))) + v2) 414 <|
      f_X6_drops_42 fu v1 (v2 + 1) (upd x ((70 + (5 * (x (1 : Int32).toNatClampNeg))) + v2).toNatClampNeg 0)
def f_X6_drops_11 : Nat → Int32 → Int32 → Fn → Option (Fn)
  | 0, _, _, _ => none
  | fu + 1, v1, v2, x =>
    gi 1 414 <|
    if (5 * (x (1 : Int32).toNatClampNeg)) ≤ v2 then
      f_X6_drops_42 FU v1 0 x
    else
      gi ((70 + v2) + 5) 414 <|
      gi (70 + v2) 414 <|
      f_X6_drops_11 fu v1 (v2 + 1) (upd x (70 + v2).toNatClampNeg (x ((70 + v2) + 5).toNatClampNeg))
def f_X6_drops (p1 : Int32) (x : Fn) : Option (Fn) :=
  gi 1 414 <|
  gi 1 414 <|
  f_X6_drops_11 FU p1 (5 * p1) (upd x (1 : Int32).toNatClampNeg ((x (1 : Int32).toNatClampNeg) - 1))
def f_X6_removes_57 (k34 : Int32 → Int32 → Fn → Option (Int32 × Fn)) (v1 : Int32) (v2 : Int32) (t1 : Int32) (t2 : Int32) (x : Fn) : Option (Int32 × Fn) :=
  gi t1 414 <|
  k34 v1 (v2 + 1) (upd x t1.toNatClampNeg t2)
def f_X6_removes_34 : Nat → Int32 → Int32 → Fn → Option (Int32 × Fn)
  | 0, _, _, _ => none
  | fu + 1, v1, v2, x =>
    if 5 ≤ v2 then
      some (1, x)
    else
      if v2 = 0 then
        f_X6_removes_57 (f_X6_removes_34 fu) v1 v2 ((70 + (5 * v1)) + v2) (-1) x
      else
        f_X6_removes_57 (f_X6_removes_34 fu) v1 v2 ((70 + (5 * v1)) + v2) 0 x
def f_X6_removes (p1 : Int32) (x : Fn) : Option (Int32 × Fn) :=
  Option.bind (f_X6_of p1 0 x) fun z1 =>
  Option.bind (f_X6_leaves z1 x) fun z2 =>
  gi 4 414 <|
  gi 4 414 <|
  Option.bind (f_X6_standing p1 (upd z2 (4 : Int32).toNatClampNeg ((z2 (4 : Int32).toNatClampNeg) + 1))) fun z3 =>
  if z3 = 0 then
    Option.bind (f_X6_drops p1 (upd z2 (4 : Int32).toNatClampNeg ((z2 (4 : Int32).toNatClampNeg) + 1))) fun z4 =>
    some (0, z4)
  else
    f_X6_removes_34 FU p1 0 (upd z2 (4 : Int32).toNatClampNeg ((z2 (4 : Int32).toNatClampNeg) + 1))
def f_X6_walks (p1 : Int32) (p2 : Int32) (x : Fn) : Option (Fn) :=
  gi (410 + p1) 414 <|
  gi (410 + p1) 414 <|
  gi 1 414 <|
  Option.bind (f_X6_in (x (410 + p1).toNatClampNeg) 0 (((upd x (410 + p1).toNatClampNeg p2) (1 : Int32).toNatClampNeg) - 1)) fun z1 =>
  if z1 = 0 then
    some (upd x (410 + p1).toNatClampNeg p2)
  else
    Option.bind (f_X6_isThing (x (410 + p1).toNatClampNeg) (upd x (410 + p1).toNatClampNeg p2)) fun z2 =>
    if z2 = 0 then
      Option.bind (f_X6_standing (x (410 + p1).toNatClampNeg) (upd x (410 + p1).toNatClampNeg p2)) fun z3 =>
      if z3 = 0 then
        Option.bind (f_X6_drops (x (410 + p1).toNatClampNeg) (upd x (410 + p1).toNatClampNeg p2)) fun z4 =>
        some z4
      else
        some (upd x (410 + p1).toNatClampNeg p2)
    else
      some (upd x (410 + p1).toNatClampNeg p2)
def f_X6_nextThing_37 (v2 : Int32) (x : Fn) : Option (Int32) :=
  gi 1 414 <|
  if (x (1 : Int32).toNatClampNeg) ≤ v2 then
    some 99
  else
    some v2
def f_X6_nextThing_16 : Nat → Int32 → Fn → Option (Int32)
  | 0, _, _ => none
  | fu + 1, v2, x =>
    gi 1 414 <|
    if (x (1 : Int32).toNatClampNeg) ≤ v2 then
      f_X6_nextThing_37 v2 x
    else
      Option.bind (f_X6_isThing v2 x) fun z1 =>
      if z1 = 0 then
        f_X6_nextThing_16 fu (v2 + 1) x
      else
        f_X6_nextThing_37 v2 x
def f_X6_nextThing_15 (t0 : Int32) (x : Fn) : Option (Int32) :=
  f_X6_nextThing_16 FU t0 x
def f_X6_nextThing (p1 : Int32) (x : Fn) : Option (Int32) :=
  if p1 = 99 then
    gi 1 414 <|
    f_X6_nextThing_15 (x (1 : Int32).toNatClampNeg) x
  else
    f_X6_nextThing_15 (p1 + 1) x
def f_X6_whyNot_60 (x : Fn) : Option (Int32) :=
  some 3
def f_X6_whyNot (p1 : Int32) (x : Fn) : Option (Int32) :=
  if p1 < 0 then
    some 1
  else
    gi 0 414 <|
    if (p1 / 1000) < (x (0 : Int32).toNatClampNeg) then
      gi (6 + (p1 / 1000)) 414 <|
      if (x (6 + (p1 / 1000)).toNatClampNeg) = (p1 - p1 / 1000 * 1000) then
        Option.bind (f_X6_entryOf (p1 / 1000) x) fun z1 =>
        if z1 = (-1) then
          f_X6_whyNot_60 x
        else
          Option.bind (f_X6_of z1 0 x) fun z2 =>
          if z2 = (p1 / 1000) then
            some 0
          else
            f_X6_whyNot_60 x
      else
        some 2
    else
      some 1
def f_X6_isNew (p0 : Int32) (p1 : Int32) (p2 : Int32) : Option (Int32) :=
  Option.bind (f_X6_in p0 0 999) fun z1 =>
  if z1 = 0 then
    some 0
  else
    Option.bind (f_X6_in p1 1 4) fun z2 =>
    if z2 = 0 then
      some 0
    else
      Option.bind (f_X6_in p2 0 2) fun z3 =>
      if z3 = 0 then
        some 0
      else
        some 1
def f_X6_put_31 (v1 : Int32) (v2 : Int32) (v3 : Int32) (t1 : Int32) (x : MdC) : Option (Int32 × MdC) :=
  Option.bind (f_X6_refuses t1 x) fun z3 =>
  if z3.1 = 0 then
    Option.bind (f_X6_saves z3.2) fun z4 =>
    gi 1 414 <|
    Option.bind (f_X6_comes (z4.2.1 (1 : Int32).toNatClampNeg) v1 v2 v3 z4.2.1) fun z5 =>
    gi (6 + z5.1) 414 <|
    some ((1000 * z5.1) + (z5.2 (6 + z5.1).toNatClampNeg), (z4.1, z5.2, z4.2.2))
  else
    some (0, z3.2)
def f_X6_put (p0 : Int32) (p1 : Int32) (p2 : Int32) (x : MdC) : Option (Int32 × MdC) :=
  Option.bind (f_X6_isNew p0 p1 p2) fun z1 =>
  if z1 = 0 then
    f_X6_put_31 p0 p1 p2 1 x
  else
    Option.bind (f_X6_cellsFor p1 x.2.1) fun z2 =>
    if z2 = (-1) then
      f_X6_put_31 p0 p1 p2 2 x
    else
      f_X6_put_31 p0 p1 p2 0 x
def f_X6_putBehind_47 (v1 : Int32) (v2 : Int32) (v3 : Int32) (v4 : Int32) (t1 : Int32) (x : MdC) : Option (Int32 × MdC) :=
  Option.bind (f_X6_refuses t1 x) fun z4 =>
  if z4.1 = 0 then
    Option.bind (f_X6_saves z4.2) fun z5 =>
    Option.bind (f_X6_entryOf (v1 / 1000) z5.2.1) fun z6 =>
    Option.bind (f_X6_comes (z6 + 1) v2 v3 v4 z5.2.1) fun z7 =>
    gi (6 + z7.1) 414 <|
    some ((1000 * z7.1) + (z7.2 (6 + z7.1).toNatClampNeg), (z5.1, z7.2, z5.2.2))
  else
    some (0, z4.2)
def f_X6_putBehind (p0 : Int32) (p1 : Int32) (p2 : Int32) (p3 : Int32) (x : MdC) : Option (Int32 × MdC) :=
  Option.bind (f_X6_whyNot p0 x.2.1) fun z1 =>
  if z1 = 0 then
    Option.bind (f_X6_isNew p1 p2 p3) fun z2 =>
    if z2 = 0 then
      f_X6_putBehind_47 p0 p1 p2 p3 2 x
    else
      Option.bind (f_X6_cellsFor p2 x.2.1) fun z3 =>
      if z3 = (-1) then
        f_X6_putBehind_47 p0 p1 p2 p3 3 x
      else
        f_X6_putBehind_47 p0 p1 p2 p3 0 x
  else
    f_X6_putBehind_47 p0 p1 p2 p3 1 x
def f_X6_remove_17 (v1 : Int32) (t1 : Int32) (x : MdC) : Option (Int32 × MdC) :=
  Option.bind (f_X6_refuses t1 x) fun z2 =>
  if z2.1 = 0 then
    Option.bind (f_X6_saves z2.2) fun z3 =>
    Option.bind (f_X6_entryOf (v1 / 1000) z3.2.1) fun z4 =>
    Option.bind (f_X6_of z4 2 z3.2.1) fun z5 =>
    Option.bind (f_X6_removes z4 z3.2.1) fun z6 =>
    if z6.1 = 0 then
      some (z5, (z3.1, z6.2, z3.2.2))
    else
      some (z5, (z3.1, z6.2, z3.2.2))
  else
    some (0, z2.2)
def f_X6_remove (p0 : Int32) (x : MdC) : Option (Int32 × MdC) :=
  Option.bind (f_X6_whyNot p0 x.2.1) fun z1 =>
  if z1 = 0 then
    f_X6_remove_17 p0 0 x
  else
    f_X6_remove_17 p0 1 x
def f_X6_change_32 (v1 : Int32) (v2 : Int32) (t1 : Int32) (x : MdC) : Option (Int32 × MdC) :=
  Option.bind (f_X6_refuses t1 x) fun z3 =>
  if z3.1 = 0 then
    Option.bind (f_X6_saves z3.2) fun z4 =>
    Option.bind (f_X6_entryOf (v1 / 1000) z4.2.1) fun z5 =>
    gi ((70 + (5 * z5)) + 2) 414 <|
    gi ((70 + (5 * z5)) + 2) 414 <|
    some (z4.2.1 ((70 + (5 * z5)) + 2).toNatClampNeg, (z4.1, (upd z4.2.1 ((70 + (5 * z5)) + 2).toNatClampNeg v2), z4.2.2))
  else
    some (0, z3.2)
def f_X6_change (p0 : Int32) (p1 : Int32) (x : MdC) : Option (Int32 × MdC) :=
  Option.bind (f_X6_whyNot p0 x.2.1) fun z1 =>
  if z1 = 0 then
    Option.bind (f_X6_in p1 0 999) fun z2 =>
    if z2 = 0 then
      f_X6_change_32 p0 p1 2 x
    else
      f_X6_change_32 p0 p1 0 x
  else
    f_X6_change_32 p0 p1 1 x
def f_X6_isWalker (p0 : Int32) : Option (Int32) :=
  Option.bind (f_X6_in p0 0 3) fun z1 =>
  gz z1 <|
  some z1
def f_X6_stands (p1 : Int32) (x : Fn) : Option (Int32) :=
  gi (410 + p1) 414 <|
  if 0 ≤ (x (410 + p1).toNatClampNeg) then
    if (x (410 + p1).toNatClampNeg) = 99 then
      some 3
    else
      Option.bind (f_X6_isThing (x (410 + p1).toNatClampNeg) x) fun z1 =>
      if z1 = 0 then
        some 2
      else
        some 1
  else
    some 0
def f_X6_restart_13 (v1 : Int32) (t1 : Int32) (x : MdC) : Option (Int32 × MdC) :=
  Option.bind (f_X6_refuses t1 x) fun z2 =>
  if z2.1 = 0 then
    Option.bind (f_X6_saves z2.2) fun z3 =>
    Option.bind (f_X6_stands v1 z3.2.1) fun z4 =>
    Option.bind (f_X6_walks v1 (-1) z3.2.1) fun z5 =>
    some (z4, (z3.1, z5, z3.2.2))
  else
    some (0, z2.2)
def f_X6_restart (p0 : Int32) (x : MdC) : Option (Int32 × MdC) :=
  Option.bind (f_X6_isWalker p0) fun z1 =>
  if z1 = 0 then
    f_X6_restart_13 p0 1 x
  else
    f_X6_restart_13 p0 0 x
def f_X6_underHandle (p0 : Int32) (x : MdC) : Option (Int32) :=
  Option.bind (f_X6_stands p0 x.2.1) fun z1 =>
  if z1 = 1 then
    gi (410 + p0) 414 <|
    Option.bind (f_X6_handleOf (x.2.1 (410 + p0).toNatClampNeg) x.2.1) fun z2 =>
    some z2
  else
    some (-1)
def f_X6_goOn_13 (v1 : Int32) (t1 : Int32) (x : MdC) : Option (Int32 × MdC) :=
  Option.bind (f_X6_refuses t1 x) fun z2 =>
  if z2.1 = 0 then
    Option.bind (f_X6_saves z2.2) fun z3 =>
    gi (410 + v1) 414 <|
    Option.bind (f_X6_nextThing (z3.2.1 (410 + v1).toNatClampNeg) z3.2.1) fun z4 =>
    Option.bind (f_X6_walks v1 z4 z3.2.1) fun z5 =>
    Option.bind (f_X6_underHandle v1 (z3.1, z5, z3.2.2)) fun z6 =>
    some (z6, (z3.1, z5, z3.2.2))
  else
    some (0, z2.2)
def f_X6_goOn (p0 : Int32) (x : MdC) : Option (Int32 × MdC) :=
  Option.bind (f_X6_isWalker p0) fun z1 =>
  if z1 = 0 then
    f_X6_goOn_13 p0 1 x
  else
    f_X6_goOn_13 p0 0 x
def f_X6_take_29 (v1 : Int32) (t1 : Int32) (x : MdC) : Option (Int32 × MdC) :=
  Option.bind (f_X6_refuses t1 x) fun z3 =>
  if z3.1 = 0 then
    Option.bind (f_X6_saves z3.2) fun z4 =>
    gi (410 + v1) 414 <|
    Option.bind (f_X6_of (z4.2.1 (410 + v1).toNatClampNeg) 2 z4.2.1) fun z5 =>
    Option.bind (f_X6_removes (z4.2.1 (410 + v1).toNatClampNeg) z4.2.1) fun z6 =>
    if z6.1 = 0 then
      some (z5, (z4.1, z6.2, z4.2.2))
    else
      some (z5, (z4.1, z6.2, z4.2.2))
  else
    some (0, z3.2)
def f_X6_take (p0 : Int32) (x : MdC) : Option (Int32 × MdC) :=
  Option.bind (f_X6_isWalker p0) fun z1 =>
  if z1 = 0 then
    f_X6_take_29 p0 1 x
  else
    Option.bind (f_X6_stands p0 x.2.1) fun z2 =>
    if z2 = 1 then
      f_X6_take_29 p0 0 x
    else
      f_X6_take_29 p0 2 x
def f_X6_firesOne_74 (v1 : Int32) (t0 : Int32) (x : Fn) : Option (Int32 × Fn) :=
  if (-1) ≤ t0 then
    some (v1 + 1, x)
  else
    some (v1, x)
def f_X6_firesOne (p1 : Int32) (x : Fn) : Option (Int32 × Fn) :=
  gi ((70 + (5 * p1)) + 4) 414 <|
  gi ((70 + (5 * p1)) + 4) 414 <|
  Option.bind (f_X6_of p1 3 (upd x ((70 + (5 * p1)) + 4).toNatClampNeg ((x ((70 + (5 * p1)) + 4).toNatClampNeg) + 1))) fun z1 =>
  if z1 = 1 then
    Option.bind (f_X6_removes p1 (upd x ((70 + (5 * p1)) + 4).toNatClampNeg ((x ((70 + (5 * p1)) + 4).toNatClampNeg) + 1))) fun z6 =>
    if z6.1 = 0 then
      some (p1, z6.2)
    else
      some (p1 + 1, z6.2)
  else
    Option.bind (f_X6_of p1 3 (upd x ((70 + (5 * p1)) + 4).toNatClampNeg ((x ((70 + (5 * p1)) + 4).toNatClampNeg) + 1))) fun z2 =>
    if z2 = 2 then
      gi 1 414 <|
      Option.bind (f_X6_of p1 2 (upd x ((70 + (5 * p1)) + 4).toNatClampNeg ((x ((70 + (5 * p1)) + 4).toNatClampNeg) + 1))) fun z3 =>
      Option.bind (f_X6_of p1 1 (upd x ((70 + (5 * p1)) + 4).toNatClampNeg ((x ((70 + (5 * p1)) + 4).toNatClampNeg) + 1))) fun z4 =>
      Option.bind (f_X6_comes ((upd x ((70 + (5 * p1)) + 4).toNatClampNeg ((x ((70 + (5 * p1)) + 4).toNatClampNeg) + 1)) (1 : Int32).toNatClampNeg) z3 z4 0 (upd x ((70 + (5 * p1)) + 4).toNatClampNeg ((x ((70 + (5 * p1)) + 4).toNatClampNeg) + 1))) fun z5 =>
      f_X6_firesOne_74 p1 z5.1 z5.2
    else
      f_X6_firesOne_74 p1 0 (upd x ((70 + (5 * p1)) + 4).toNatClampNeg ((x ((70 + (5 * p1)) + 4).toNatClampNeg) + 1))
def f_X6_fires_9 : Nat → Int32 → Int32 → Int32 → Fn → Option (Int32 × Fn)
  | 0, _, _, _, _ => none
  | fu + 1, v1, v2, v3, x =>
    if v1 ≤ 0 then
      gi 2 414 <|
      gi 2 414 <|
      some (v2, (upd x (2 : Int32).toNatClampNeg ((x (2 : Int32).toNatClampNeg) + 1)))
    else
      Option.bind (f_X6_isThing v3 x) fun z2 =>
      if z2 = 0 then
        f_X6_fires_9 fu v1 v2 (v3 + 1) x
      else
        Option.bind (f_X6_of v3 2 x) fun z3 =>
        Option.bind (f_X6_firesOne v3 x) fun z4 =>
        f_X6_fires_9 fu (v1 + (-1)) (v2 + z3) z4.1 z4.2
def f_X6_fires (x : Fn) : Option (Int32 × Fn) :=
  Option.bind (f_X6_things x) fun z1 =>
  f_X6_fires_9 FU z1 0 0 x
def f_X6_fire (x : MdC) : Option (Int32 × MdC) :=
  Option.bind (f_X6_saves (0, x.2)) fun z1 =>
  Option.bind (f_X6_fires z1.2.1) fun z2 =>
  some (z2.1, (z1.1, z2.2, z1.2.2))
def f_X6_lowestFrom_66 (k4 : Int32 → Int32 → Int32 → Fn → Option (Int32)) (v1 : Int32) (v3 : Int32) (t0 : Int32) (x : Fn) : Option (Int32) :=
  k4 v1 t0 (v3 + 1) x
def f_X6_lowestFrom_61 (k4 : Int32 → Int32 → Int32 → Fn → Option (Int32)) (v1 : Int32) (v3 : Int32) (x : Fn) : Option (Int32) :=
  f_X6_lowestFrom_66 k4 v1 v3 v3 x
def f_X6_lowestFrom_65 (k4 : Int32 → Int32 → Int32 → Fn → Option (Int32)) (v1 : Int32) (v2 : Int32) (v3 : Int32) (x : Fn) : Option (Int32) :=
  f_X6_lowestFrom_66 k4 v1 v3 v2 x
def f_X6_lowestFrom_34 (k4 : Int32 → Int32 → Int32 → Fn → Option (Int32)) (v1 : Int32) (v2 : Int32) (v3 : Int32) (t0 : Int32) (x : Fn) : Option (Int32) :=
  if t0 = 0 then
    f_X6_lowestFrom_65 k4 v1 v2 v3 x
  else
    if v2 = (-1) then
      f_X6_lowestFrom_61 k4 v1 v3 x
    else
      Option.bind (f_X6_of v3 0 x) fun z3 =>
      Option.bind (f_X6_of v2 0 x) fun z4 =>
      if z4 ≤ z3 then
        f_X6_lowestFrom_65 k4 v1 v2 v3 x
      else
        f_X6_lowestFrom_61 k4 v1 v3 x
def f_X6_lowestFrom_33 (k4 : Int32 → Int32 → Int32 → Fn → Option (Int32)) (v1 : Int32) (v2 : Int32) (v3 : Int32) (x : Fn) : Option (Int32) :=
  f_X6_lowestFrom_34 k4 v1 v2 v3 0 x
def f_X6_lowestFrom_4 : Nat → Int32 → Int32 → Int32 → Fn → Option (Int32)
  | 0, _, _, _, _ => none
  | fu + 1, v1, v2, v3, x =>
    gi 1 414 <|
    if (x (1 : Int32).toNatClampNeg) ≤ v3 then
      some v2
    else
      Option.bind (f_X6_isThing v3 x) fun z1 =>
      if z1 = 0 then
        f_X6_lowestFrom_33 (f_X6_lowestFrom_4 fu) v1 v2 v3 x
      else
        Option.bind (f_X6_of v3 0 x) fun z2 =>
        if z2 < v1 then
          f_X6_lowestFrom_33 (f_X6_lowestFrom_4 fu) v1 v2 v3 x
        else
          f_X6_lowestFrom_34 (f_X6_lowestFrom_4 fu) v1 v2 v3 1 x
def f_X6_lowestFrom (p1 : Int32) (x : Fn) : Option (Int32) :=
  f_X6_lowestFrom_4 FU p1 (-1) 0 x
def f_X6_together_70 (k22 : Int32 → Int32 → Int32 → MdC → Option (Int32 × MdC)) (v1 : Int32) (v2 : Int32) (v3 : Int32) (x : MdC) : Option (Int32 × MdC) :=
  Option.bind (f_X6_of v3 1 x.2.1) fun z5 =>
  Option.bind (f_X6_lowestFrom (v2 + z5) x.2.1) fun z6 =>
  k22 v1 (v2 + z5) z6 x
def f_X6_together_22 : Nat → Int32 → Int32 → Int32 → MdC → Option (Int32 × MdC)
  | 0, _, _, _, _ => none
  | fu + 1, v1, v2, v3, x =>
    if v3 = (-1) then
      gi 5 414 <|
      gi 5 414 <|
      some (v1, (x.1, (upd x.2.1 (5 : Int32).toNatClampNeg ((x.2.1 (5 : Int32).toNatClampNeg) + v1)), x.2.2))
    else
      Option.bind (f_X6_of v3 0 x.2.1) fun z3 =>
      if z3 = v2 then
        f_X6_together_70 (f_X6_together_22 fu) v1 v2 v3 x
      else
        Option.bind (f_X6_leaves z3 x.2.1) fun z4 =>
        gi ((70 + (5 * v3)) + 0) 414 <|
        f_X6_together_70 (f_X6_together_22 fu) (v1 + 1) v2 v3 (x.1, (upd z4 ((70 + (5 * v3)) + 0).toNatClampNeg v2), x.2.2)
def f_X6_together (x : MdC) : Option (Int32 × MdC) :=
  Option.bind (f_X6_saves (0, x.2)) fun z1 =>
  Option.bind (f_X6_lowestFrom 0 z1.2.1) fun z2 =>
  f_X6_together_22 FU 0 0 z2 z1
def f_X6_append_30 (v1 : Int32) (t1 : Int32) (x : MdC) : Option (Int32 × MdC) :=
  Option.bind (f_X6_refuses t1 x) fun z2 =>
  if z2.1 = 0 then
    gi z2.2.2.2.2.2.2.2.1 60 <|
    some (z2.2.2.2.2.2.2.2.1 + 1, (z2.2.1, z2.2.2.1, z2.2.2.2.1, z2.2.2.2.2.1, z2.2.2.2.2.2.1, (upd z2.2.2.2.2.2.2.1 z2.2.2.2.2.2.2.2.1.toNatClampNeg v1), z2.2.2.2.2.2.2.2.1 + 1, z2.2.2.2.2.2.2.2.2))
  else
    some (0, z2.2)
def f_X6_append (p0 : Int32) (x : MdC) : Option (Int32 × MdC) :=
  Option.bind (f_X6_in p0 33 126) fun z1 =>
  if z1 = 0 then
    f_X6_append_30 p0 1 x
  else
    if x.2.2.2.2.2.2.1 = 60 then
      f_X6_append_30 p0 2 x
    else
      f_X6_append_30 p0 0 x
def f_X6_clearBuffer (x : MdC) : Option (Int32 × MdC) :=
  some (x.2.2.2.2.2.2.1, (0, x.2.1, x.2.2.1, x.2.2.2.1, x.2.2.2.2.1, x.2.2.2.2.2.1, 0, x.2.2.2.2.2.2.2))
def f_X6_sees (p0 : Int32) (p1 : Int32) (x : MdC) : Option (Int32) :=
  if x.2.2.2.2.2.2.1 ≤ x.2.2.2.2.2.2.2.1 then
    some 0
  else
    gi x.2.2.2.2.2.2.2.1 60 <|
    Option.bind (f_X6_in (x.2.2.2.2.2.1 x.2.2.2.2.2.2.2.1.toNatClampNeg) p0 p1) fun z1 =>
    if z1 = 0 then
      some 0
    else
      some 1
def f_X6_takes_21 (v2 : Int32) (t1 : Int32) (t2 : Int32) (x : MdC) : Option (Int32 × MdC) :=
  gz v2 <|
  some (v2, (x.1, x.2.1, x.2.2.1, x.2.2.2.1, x.2.2.2.2.1, x.2.2.2.2.2.1, x.2.2.2.2.2.2.1, t1 + t2, x.2.2.2.2.2.2.2.2))
def f_X6_takes (p0 : Int32) (x : MdC) : Option (Int32 × MdC) :=
  Option.bind (f_X6_sees p0 p0 x) fun z1 =>
  if z1 = 0 then
    f_X6_takes_21 z1 x.2.2.2.2.2.2.2.1 0 x
  else
    f_X6_takes_21 z1 x.2.2.2.2.2.2.2.1 1 x
def f_X6_isNumber_123 (v1 : Int32) (v4 : Int32) (x : MdC) : Option (Int32 × MdC) :=
  gi ((3 * x.2.2.2.2.2.2.2.2.2.1) + v1) 63 <|
  some (1, (x.1, x.2.1, x.2.2.1, x.2.2.2.1, x.2.2.2.2.1, x.2.2.2.2.2.1, x.2.2.2.2.2.2.1, x.2.2.2.2.2.2.2.1, (upd x.2.2.2.2.2.2.2.2.1 ((3 * x.2.2.2.2.2.2.2.2.2.1) + v1).toNatClampNeg v4), x.2.2.2.2.2.2.2.2.2))
def f_X6_isNumber_52 : Nat → Int32 → Int32 → Int32 → MdC → Option (Int32 × MdC)
  | 0, _, _, _, _ => none
  | fu + 1, v1, v3, v4, x =>
    if v4 ≤ 0 then
      f_X6_isNumber_123 v1 v4 x
    else
      Option.bind (f_X6_sees 48 57 x) fun z2 =>
      if z2 = 0 then
        f_X6_isNumber_123 v1 v4 x
      else
        gi x.2.2.2.2.2.2.2.1 60 <|
        if v3 < (((10 * v4) + (x.2.2.2.2.2.1 x.2.2.2.2.2.2.2.1.toNatClampNeg)) - 48) then
          f_X6_isNumber_123 v1 v4 x
        else
          gi x.2.2.2.2.2.2.2.1 60 <|
          f_X6_isNumber_52 fu v1 v3 (((10 * v4) + (x.2.2.2.2.2.1 x.2.2.2.2.2.2.2.1.toNatClampNeg)) - 48) (x.1, x.2.1, x.2.2.1, x.2.2.2.1, x.2.2.2.2.1, x.2.2.2.2.2.1, x.2.2.2.2.2.2.1, x.2.2.2.2.2.2.2.1 + 1, x.2.2.2.2.2.2.2.2)
def f_X6_isNumber_19 (v1 : Int32) (v3 : Int32) (t1 : Int32) (t2 : Int32) (t3 : Int32) (x : MdC) : Option (Int32 × MdC) :=
  Option.bind (f_X6_sees t1 (t2 + t3) x) fun z1 =>
  if z1 = 0 then
    some (0, x)
  else
    gi x.2.2.2.2.2.2.2.1 60 <|
    f_X6_isNumber_52 FU v1 v3 ((x.2.2.2.2.2.1 x.2.2.2.2.2.2.2.1.toNatClampNeg) - 48) (x.1, x.2.1, x.2.2.1, x.2.2.2.1, x.2.2.2.2.1, x.2.2.2.2.2.1, x.2.2.2.2.2.2.1, x.2.2.2.2.2.2.2.1 + 1, x.2.2.2.2.2.2.2.2)
def f_X6_isNumber (p0 : Int32) (p1 : Int32) (p2 : Int32) (x : MdC) : Option (Int32 × MdC) :=
  if 9 ≤ p2 then
    f_X6_isNumber_19 p0 p2 (48 + p1) 48 9 x
  else
    f_X6_isNumber_19 p0 p2 (48 + p1) 48 p2 x
def f_X6_isThingTold_72 (t1 : Int32) (t2 : Int32) (x : MdC) : Option (Int32 × MdC) :=
  gi t1 63 <|
  some (1, (x.1, x.2.1, x.2.2.1, x.2.2.2.1, x.2.2.2.2.1, x.2.2.2.2.2.1, x.2.2.2.2.2.2.1, x.2.2.2.2.2.2.2.1, (upd x.2.2.2.2.2.2.2.2.1 t1.toNatClampNeg t2), x.2.2.2.2.2.2.2.2.2))
def f_X6_isThingTold (x : MdC) : Option (Int32 × MdC) :=
  Option.bind (f_X6_isNumber 0 0 999 x) fun z1 =>
  if z1.1 = 0 then
    some (0, z1.2)
  else
    Option.bind (f_X6_takes 42 z1.2) fun z2 =>
    if z2.1 = 0 then
      some (0, z2.2)
    else
      Option.bind (f_X6_isNumber 1 1 4 z2.2) fun z3 =>
      if z3.1 = 0 then
        some (0, z3.2)
      else
        Option.bind (f_X6_takes 33 z3.2) fun z4 =>
        if z4.1 = 0 then
          Option.bind (f_X6_takes 43 z4.2) fun z5 =>
          if z5.1 = 0 then
            f_X6_isThingTold_72 ((3 * z3.2.2.2.2.2.2.2.2.2.2.1) + 2) 0 z5.2
          else
            f_X6_isThingTold_72 ((3 * z3.2.2.2.2.2.2.2.2.2.2.1) + 2) 2 z5.2
        else
          f_X6_isThingTold_72 ((3 * z3.2.2.2.2.2.2.2.2.2.2.1) + 2) 1 z4.2
def f_X6_isText_12 : Nat → Int32 → MdC → Option (Int32 × MdC)
  | 0, _, _ => none
  | fu + 1, v1, x =>
    if v1 = 0 then
      if x.2.2.2.2.2.2.2.1 = x.2.2.2.2.2.2.1 then
        some (1, x)
      else
        some (0, x)
    else
      Option.bind (f_X6_isThingTold x) fun z1 =>
      if z1.1 = 0 then
        some (0, z1.2)
      else
        Option.bind (f_X6_takes 44 (z1.2.1, z1.2.2.1, z1.2.2.2.1, z1.2.2.2.2.1, z1.2.2.2.2.2.1, z1.2.2.2.2.2.2.1, z1.2.2.2.2.2.2.2.1, z1.2.2.2.2.2.2.2.2.1, z1.2.2.2.2.2.2.2.2.2.1, z1.2.2.2.2.2.2.2.2.2.2.1 + 1, z1.2.2.2.2.2.2.2.2.2.2.2)) fun z2 =>
        f_X6_isText_12 fu z2.1 z2.2
def f_X6_isText (x : MdC) : Option (Int32 × MdC) :=
  f_X6_isText_12 FU 1 (x.1, x.2.1, x.2.2.1, x.2.2.2.1, x.2.2.2.2.1, x.2.2.2.2.2.1, x.2.2.2.2.2.2.1, 0, x.2.2.2.2.2.2.2.2.1, 0, x.2.2.2.2.2.2.2.2.2.2)
def f_X6_firstError (x : MdC) : Option (Int32 × MdC) :=
  Option.bind (f_X6_isText (0, x.2)) fun z1 =>
  if z1.1 = 0 then
    some (z1.2.2.2.2.2.2.2.2.1, z1.2)
  else
    some (z1.2.2.2.2.2.2.2.1, z1.2)
def f_X6_putAll_88 (k29 : Int32 → Int32 → MdC → Option (Int32 × MdC)) (v2 : Int32) (t0 : Int32) (t1 : Int32) (x : MdC) : Option (Int32 × MdC) :=
  k29 (t0 + t1) (v2 + 1) x
def f_X6_putAll_29 : Nat → Int32 → Int32 → MdC → Option (Int32 × MdC)
  | 0, _, _, _ => none
  | fu + 1, v1, v2, x =>
    if x.2.2.2.2.2.2.2.2.2.1 ≤ v2 then
      some (v1, (x.1, x.2.1, x.2.2.1, x.2.2.2.1, x.2.2.2.2.1, x.2.2.2.2.2.1, 0, x.2.2.2.2.2.2.2))
    else
      gi 1 414 <|
      gi (3 * v2) 63 <|
      gi ((3 * v2) + 1) 63 <|
      gi ((3 * v2) + 2) 63 <|
      Option.bind (f_X6_comes (x.2.1 (1 : Int32).toNatClampNeg) (x.2.2.2.2.2.2.2.2.1 (3 * v2).toNatClampNeg) (x.2.2.2.2.2.2.2.2.1 ((3 * v2) + 1).toNatClampNeg) (x.2.2.2.2.2.2.2.2.1 ((3 * v2) + 2).toNatClampNeg) x.2.1) fun z4 =>
      if z4.1 = (-1) then
        f_X6_putAll_88 (f_X6_putAll_29 fu) v2 v1 0 (x.1, z4.2, x.2.2)
      else
        f_X6_putAll_88 (f_X6_putAll_29 fu) v2 v1 1 (x.1, z4.2, x.2.2)
def f_X6_putAll_13 (t1 : Int32) (x : MdC) : Option (Int32 × MdC) :=
  Option.bind (f_X6_refuses t1 x) fun z2 =>
  if z2.1 = 0 then
    Option.bind (f_X6_saves z2.2) fun z3 =>
    f_X6_putAll_29 FU 0 0 z3
  else
    some (0, z2.2)
def f_X6_putAll (x : MdC) : Option (Int32 × MdC) :=
  Option.bind (f_X6_isText x) fun z1 =>
  if z1.1 = 0 then
    f_X6_putAll_13 1 z1.2
  else
    f_X6_putAll_13 0 z1.2
def f_X6_undo_13 (t1 : Int32) (x : MdC) : Option (Int32 × MdC) :=
  Option.bind (f_X6_refuses t1 x) fun z1 =>
  if z1.1 = 0 then
    Option.bind (f_X6_lays 2484 414 (414 * (z1.2.2.2.2.2.1 - 1)) 0 z1.2.2.2.2.1 z1.2.2.1) fun z2 =>
    some (z1.2.2.2.2.2.1 - 1, (z1.2.1, z2, z1.2.2.2.1, z1.2.2.2.2.1, z1.2.2.2.2.2.1 - 1, z1.2.2.2.2.2.2))
  else
    some (0, z1.2)
def f_X6_undo (x : MdC) : Option (Int32 × MdC) :=
  if x.2.2.2.2.1 = 0 then
    f_X6_undo_13 1 x
  else
    f_X6_undo_13 0 x
def f_X6_refusal (p0 : Int32) (x : MdC) : Option (Int32 × MdC) :=
  Option.bind (f_X6_whyNot p0 x.2.1) fun z1 =>
  some (z1, (0, x.2))
def f_X6_placeOf_26 (k4 : Int32 → Int32 → Int32 → MdC → Option (Int32)) (v1 : Int32) (v3 : Int32) (t0 : Int32) (t1 : Int32) (x : MdC) : Option (Int32) :=
  k4 v1 (t0 + t1) (v3 + 1) x
def f_X6_placeOf_4 : Nat → Int32 → Int32 → Int32 → MdC → Option (Int32)
  | 0, _, _, _, _ => none
  | fu + 1, v1, v2, v3, x =>
    if v1 ≤ v3 then
      some v2
    else
      Option.bind (f_X6_isThing v3 x.2.1) fun z1 =>
      if z1 = 0 then
        f_X6_placeOf_26 (f_X6_placeOf_4 fu) v1 v3 v2 0 x
      else
        f_X6_placeOf_26 (f_X6_placeOf_4 fu) v1 v3 v2 1 x
def f_X6_placeOf (p0 : Int32) (x : MdC) : Option (Int32) :=
  f_X6_placeOf_4 FU p0 0 0 x
def f_X6_ofThing (p0 : Int32) (p1 : Int32) (x : MdC) : Option (Int32) :=
  if p1 = 0 then
    Option.bind (f_X6_of p0 2 x.2.1) fun z1 =>
    some z1
  else
    if p1 = 1 then
      Option.bind (f_X6_of p0 1 x.2.1) fun z2 =>
      some z2
    else
      if p1 = 2 then
        Option.bind (f_X6_of p0 3 x.2.1) fun z3 =>
        some z3
      else
        if p1 = 3 then
          Option.bind (f_X6_of p0 4 x.2.1) fun z4 =>
          some z4
        else
          if p1 = 4 then
            Option.bind (f_X6_placeOf p0 x) fun z5 =>
            some z5
          else
            Option.bind (f_X6_standing p0 x.2.1) fun z6 =>
            some z6
def f_X6_thing_30 (v1 : Int32) (v2 : Int32) (t1 : Int32) (x : MdC) : Option (Int32 × MdC) :=
  Option.bind (f_X6_refuses t1 x) fun z3 =>
  if z3.1 = 0 then
    Option.bind (f_X6_entryOf (v1 / 1000) z3.2.2.1) fun z4 =>
    Option.bind (f_X6_ofThing z4 v2 z3.2) fun z5 =>
    some (z5, z3.2)
  else
    some (0, z3.2)
def f_X6_thing (p0 : Int32) (p1 : Int32) (x : MdC) : Option (Int32 × MdC) :=
  Option.bind (f_X6_whyNot p0 x.2.1) fun z1 =>
  if z1 = 0 then
    Option.bind (f_X6_in p1 0 5) fun z2 =>
    if z2 = 0 then
      f_X6_thing_30 p0 p1 2 x
    else
      f_X6_thing_30 p0 p1 0 x
  else
    f_X6_thing_30 p0 p1 1 x
def f_X6_at_20 : Nat → Int32 → Int32 → MdC → Option (Int32 × MdC)
  | 0, _, _, _ => none
  | fu + 1, v1, v2, x =>
    gi 1 414 <|
    if (x.2.1 (1 : Int32).toNatClampNeg) ≤ v2 then
      some ((-1), x)
    else
      Option.bind (f_X6_isThing v2 x.2.1) fun z2 =>
      if z2 = 0 then
        f_X6_at_20 fu v1 (v2 + 1) x
      else
        Option.bind (f_X6_placeOf v2 x) fun z3 =>
        if z3 = v1 then
          Option.bind (f_X6_handleOf v2 x.2.1) fun z4 =>
          some (z4, x)
        else
          f_X6_at_20 fu v1 (v2 + 1) x
def f_X6_at_10 (v1 : Int32) (t1 : Int32) (x : MdC) : Option (Int32 × MdC) :=
  Option.bind (f_X6_refuses t1 x) fun z1 =>
  if z1.1 = 0 then
    f_X6_at_20 FU v1 0 z1.2
  else
    some (0, z1.2)
def f_X6_at (p0 : Int32) (x : MdC) : Option (Int32 × MdC) :=
  if 0 ≤ p0 then
    f_X6_at_10 p0 0 x
  else
    f_X6_at_10 p0 1 x
def f_X6_ofCell (p0 : Int32) (x : MdC) : Option (Int32) :=
  Option.bind (f_X6_entryOf p0 x.2.1) fun z1 =>
  if z1 = (-1) then
    some (-1)
  else
    Option.bind (f_X6_handleOf z1 x.2.1) fun z2 =>
    some z2
def f_X6_cell_35 (v1 : Int32) (v2 : Int32) (t1 : Int32) (x : MdC) : Option (Int32 × MdC) :=
  Option.bind (f_X6_refuses t1 x) fun z3 =>
  if z3.1 = 0 then
    if v2 = 0 then
      gi (6 + v1) 414 <|
      some (z3.2.2.1 (6 + v1).toNatClampNeg, z3.2)
    else
      Option.bind (f_X6_ofCell v1 z3.2) fun z4 =>
      some (z4, z3.2)
  else
    some (0, z3.2)
def f_X6_cell (p0 : Int32) (p1 : Int32) (x : MdC) : Option (Int32 × MdC) :=
  gi 0 414 <|
  Option.bind (f_X6_in p0 0 ((x.2.1 (0 : Int32).toNatClampNeg) - 1)) fun z1 =>
  if z1 = 0 then
    f_X6_cell_35 p0 p1 1 x
  else
    Option.bind (f_X6_in p1 0 1) fun z2 =>
    if z2 = 0 then
      f_X6_cell_35 p0 p1 2 x
    else
      f_X6_cell_35 p0 p1 0 x
def f_X6_behind_40 (t0 : Int32) (t2 : Int32) (x : MdC) : Option (Int32) :=
  Option.bind (f_X6_placeOf t2 x) fun z2 =>
  some (t0 - z2)
def f_X6_behind (p0 : Int32) (x : MdC) : Option (Int32) :=
  gi (410 + p0) 414 <|
  if (x.2.1 (410 + p0).toNatClampNeg) = 99 then
    some 0
  else
    Option.bind (f_X6_things x.2.1) fun z1 =>
    if 0 ≤ (x.2.1 (410 + p0).toNatClampNeg) then
      f_X6_behind_40 z1 ((x.2.1 (410 + p0).toNatClampNeg) + 1) x
    else
      f_X6_behind_40 z1 0 x
def f_X6_ofWalker (p0 : Int32) (p1 : Int32) (x : MdC) : Option (Int32) :=
  if p1 = 0 then
    Option.bind (f_X6_stands p0 x.2.1) fun z3 =>
    some z3
  else
    if p1 = 1 then
      Option.bind (f_X6_underHandle p0 x) fun z2 =>
      some z2
    else
      Option.bind (f_X6_behind p0 x) fun z1 =>
      some z1
def f_X6_walker_26 (v1 : Int32) (v2 : Int32) (t1 : Int32) (x : MdC) : Option (Int32 × MdC) :=
  Option.bind (f_X6_refuses t1 x) fun z3 =>
  if z3.1 = 0 then
    Option.bind (f_X6_ofWalker v1 v2 z3.2) fun z4 =>
    some (z4, z3.2)
  else
    some (0, z3.2)
def f_X6_walker (p0 : Int32) (p1 : Int32) (x : MdC) : Option (Int32 × MdC) :=
  Option.bind (f_X6_isWalker p0) fun z1 =>
  if z1 = 0 then
    f_X6_walker_26 p0 p1 1 x
  else
    Option.bind (f_X6_in p1 0 2) fun z2 =>
    if z2 = 0 then
      f_X6_walker_26 p0 p1 2 x
    else
      f_X6_walker_26 p0 p1 0 x
def f_X6_used_4 : Nat → Int32 → Int32 → MdC → Option (Int32)
  | 0, _, _, _ => none
  | fu + 1, v1, v2, x =>
    gi 1 414 <|
    if (x.2.1 (1 : Int32).toNatClampNeg) ≤ v2 then
      some v1
    else
      Option.bind (f_X6_of v2 1 x.2.1) fun z1 =>
      f_X6_used_4 fu (v1 + z1) (v2 + 1) x
def f_X6_used (x : MdC) : Option (Int32) :=
  f_X6_used_4 FU 0 0 x
def f_X6_values_4 : Nat → Int32 → Int32 → MdC → Option (Int32)
  | 0, _, _, _ => none
  | fu + 1, v1, v2, x =>
    gi 1 414 <|
    if (x.2.1 (1 : Int32).toNatClampNeg) ≤ v2 then
      some v1
    else
      Option.bind (f_X6_of v2 2 x.2.1) fun z1 =>
      f_X6_values_4 fu (v1 + z1) (v2 + 1) x
def f_X6_values (x : MdC) : Option (Int32) :=
  f_X6_values_4 FU 0 0 x
def f_X6_counted_99 (v1 : Int32) (x : MdC) : Option (Int32) :=
  gi ((2 + v1) - 5) 414 <|
  some (x.2.1 ((2 + v1) - 5).toNatClampNeg)
def f_X6_counted (p0 : Int32) (x : MdC) : Option (Int32) :=
  if p0 = 0 then
    Option.bind (f_X6_things x.2.1) fun z1 =>
    some z1
  else
    if p0 = 1 then
      gi 1 414 <|
      Option.bind (f_X6_things x.2.1) fun z2 =>
      some ((x.2.1 (1 : Int32).toNatClampNeg) - z2)
    else
      if p0 = 2 then
        gi 0 414 <|
        some (x.2.1 (0 : Int32).toNatClampNeg)
      else
        if p0 = 3 then
          gi 0 414 <|
          Option.bind (f_X6_used x) fun z3 =>
          some ((x.2.1 (0 : Int32).toNatClampNeg) - z3)
        else
          if p0 = 4 then
            Option.bind (f_X6_values x) fun z4 =>
            some z4
          else
            if p0 = 5 then
              f_X6_counted_99 p0 x
            else
              if p0 = 6 then
                f_X6_counted_99 p0 x
              else
                if p0 = 7 then
                  f_X6_counted_99 p0 x
                else
                  if p0 = 8 then
                    f_X6_counted_99 p0 x
                  else
                    some x.2.2.2.2.1
def f_X6_count_16 (v1 : Int32) (t1 : Int32) (x : MdC) : Option (Int32 × MdC) :=
  Option.bind (f_X6_refuses t1 x) fun z2 =>
  if z2.1 = 0 then
    Option.bind (f_X6_counted v1 z2.2) fun z3 =>
    some (z3, z2.2)
  else
    some (0, z2.2)
def f_X6_count (p0 : Int32) (x : MdC) : Option (Int32 × MdC) :=
  Option.bind (f_X6_in p0 0 9) fun z1 =>
  if z1 = 0 then
    f_X6_count_16 p0 1 x
  else
    f_X6_count_16 p0 0 x
def f_X6_beginsAt (p0 : Int32) (x : MdC) : Option (Int32) :=
  Option.bind (f_X6_cellsFor p0 x.2.1) fun z1 =>
  if z1 = (-1) then
    some (-1)
  else
    Option.bind (f_X6_roomIn p0 z1 x.2.1) fun z2 =>
    some z2
def f_X6_begins_15 (v1 : Int32) (t1 : Int32) (x : MdC) : Option (Int32 × MdC) :=
  Option.bind (f_X6_refuses t1 x) fun z2 =>
  if z2.1 = 0 then
    Option.bind (f_X6_beginsAt v1 z2.2) fun z3 =>
    some (z3, z2.2)
  else
    some (0, z2.2)
def f_X6_begins (p0 : Int32) (x : MdC) : Option (Int32 × MdC) :=
  Option.bind (f_X6_in p0 1 4) fun z1 =>
  if z1 = 0 then
    f_X6_begins_15 p0 1 x
  else
    f_X6_begins_15 p0 0 x
def f_X6_longest_60 (k7 : Int32 → Int32 → Int32 → Int32 → MdC → Option (Int32)) (v1 : Int32) (v2 : Int32) (v4 : Int32) (t0 : Int32) (x : MdC) : Option (Int32) :=
  k7 v1 v2 t0 (v4 + 1) x
def f_X6_longest_47 (k7 : Int32 → Int32 → Int32 → Int32 → MdC → Option (Int32)) (v1 : Int32) (v3 : Int32) (v4 : Int32) (v5 : Int32) (t0 : Int32) (x : MdC) : Option (Int32) :=
  if v5 ≤ v3 then
    f_X6_longest_60 k7 v1 t0 v4 v3 x
  else
    f_X6_longest_60 k7 v1 t0 v4 v5 x
def f_X6_longest_7 : Nat → Int32 → Int32 → Int32 → Int32 → MdC → Option (Int32)
  | 0, _, _, _, _, _ => none
  | fu + 1, v1, v2, v3, v4, x =>
    gi 0 414 <|
    if (x.2.1 (0 : Int32).toNatClampNeg) ≤ v4 then
      if v1 = 0 then
        some v3
      else
        some v2
    else
      gi 0 414 <|
      Option.bind (f_X6_freeFrom v4 (x.2.1 (0 : Int32).toNatClampNeg) x.2.1) fun z1 =>
      if z1 ≤ v3 then
        f_X6_longest_47 (f_X6_longest_7 fu) v1 v3 v4 z1 v2 x
      else
        f_X6_longest_47 (f_X6_longest_7 fu) v1 v3 v4 z1 v4 x
def f_X6_longest (p0 : Int32) (x : MdC) : Option (Int32) :=
  f_X6_longest_7 FU p0 (-1) 0 0 x
def f_X6_gap_15 (v1 : Int32) (t1 : Int32) (x : MdC) : Option (Int32 × MdC) :=
  Option.bind (f_X6_refuses t1 x) fun z2 =>
  if z2.1 = 0 then
    Option.bind (f_X6_longest v1 z2.2) fun z3 =>
    some (z3, z2.2)
  else
    some (0, z2.2)
def f_X6_gap (p0 : Int32) (x : MdC) : Option (Int32 × MdC) :=
  Option.bind (f_X6_in p0 0 1) fun z1 =>
  if z1 = 0 then
    f_X6_gap_15 p0 1 x
  else
    f_X6_gap_15 p0 0 x
def f_X6_fired_18 : Nat → Int32 → Int32 → Int32 → Int32 → MdC → Option (Int32 × MdC)
  | 0, _, _, _, _, _ => none
  | fu + 1, v1, v2, v3, v4, x =>
    if v1 ≤ v4 then
      if v2 = 0 then
        some (v3, x)
      else
        if v2 = 1 then
          Option.bind (f_X6_things x.2.2.1) fun z2 =>
          some (z2, x)
        else
          gi 0 414 <|
          some (x.2.2.1 (0 : Int32).toNatClampNeg, x)
    else
      Option.bind (f_X6_fires x.2.2.1) fun z3 =>
      f_X6_fired_18 fu v1 v2 (v3 + z3.1) (v4 + 1) (x.1, x.2.1, z3.2, x.2.2.2)
def f_X6_fired (p0 : Int32) (p1 : Int32) (x : MdC) : Option (Int32 × MdC) :=
  Option.bind (f_X6_lays 414 414 0 0 x.2.1 x.2.2.1) fun z1 =>
  f_X6_fired_18 FU p0 p1 0 0 (x.1, x.2.1, z1, x.2.2.2)
def f_X6_ifFired_25 (v1 : Int32) (v2 : Int32) (t1 : Int32) (x : MdC) : Option (Int32 × MdC) :=
  Option.bind (f_X6_refuses t1 x) fun z3 =>
  if z3.1 = 0 then
    Option.bind (f_X6_fired v1 v2 z3.2) fun z4 =>
    some (z4.1, z4.2)
  else
    some (0, z3.2)
def f_X6_ifFired_24 (v1 : Int32) (v2 : Int32) (x : MdC) : Option (Int32 × MdC) :=
  f_X6_ifFired_25 v1 v2 1 x
def f_X6_ifFired (p0 : Int32) (p1 : Int32) (x : MdC) : Option (Int32 × MdC) :=
  Option.bind (f_X6_in p0 1 9) fun z1 =>
  if z1 = 0 then
    f_X6_ifFired_24 p0 p1 x
  else
    Option.bind (f_X6_in p1 0 2) fun z2 =>
    if z2 = 0 then
      f_X6_ifFired_24 p0 p1 x
    else
      f_X6_ifFired_25 p0 p1 0 x
def f_X6_roomFor_23 : Nat → Int32 → Int32 → Int32 → MdC → Option (Int32)
  | 0, _, _, _, _ => none
  | fu + 1, v1, v3, v4, x =>
    gi 0 414 <|
    if (x.2.1 (0 : Int32).toNatClampNeg) ≤ v4 then
      some v3
    else
      gi 0 414 <|
      Option.bind (f_X6_freeFrom v4 (x.2.1 (0 : Int32).toNatClampNeg) x.2.1) fun z2 =>
      gd v1 <|
      f_X6_roomFor_23 fu v1 (v3 + (z2 / v1)) (v4 + (z2 + 1)) x
def f_X6_roomFor (p0 : Int32) (p1 : Int32) (x : MdC) : Option (Int32) :=
  if p1 = 0 then
    f_X6_roomFor_23 FU p0 0 0 x
  else
    gi 0 414 <|
    Option.bind (f_X6_used x) fun z1 =>
    gd p0 <|
    some (((x.2.1 (0 : Int32).toNatClampNeg) - z1) / p0)
def f_X6_room_15 (v1 : Int32) (v2 : Int32) (t1 : Int32) (x : MdC) : Option (Int32 × MdC) :=
  Option.bind (f_X6_refuses t1 x) fun z2 =>
  if z2.1 = 0 then
    Option.bind (f_X6_roomFor v1 v2 z2.2) fun z3 =>
    some (z3, z2.2)
  else
    some (0, z2.2)
def f_X6_room (p0 : Int32) (p1 : Int32) (x : MdC) : Option (Int32 × MdC) :=
  Option.bind (f_X6_in p0 1 4) fun z1 =>
  if z1 = 0 then
    f_X6_room_15 p0 p1 1 x
  else
    f_X6_room_15 p0 p1 0 x
def f_X6_full (x : MdC) : Option (UInt64) :=
  Option.bind (f_X6_used x) fun z1 =>
  gi 0 414 <|
  gf (FP.ddiv (FP.i2d z1) (FP.i2d (x.2.1 (0 : Int32).toNatClampNeg))) <|
  some (FP.ddiv (FP.i2d z1) (FP.i2d (x.2.1 (0 : Int32).toNatClampNeg)))
def f_X6_fullness (x : MdC) : Option (UInt64 × MdC) :=
  Option.bind (f_X6_full (0, x.2)) fun z1 =>
  some (z1, (0, x.2))
def f_X6_mixes (p0 : Int64) (x : MdC) : Option (MdC) :=
  some (x.1, x.2.1, x.2.2.1, x.2.2.2.1, x.2.2.2.2.1, x.2.2.2.2.2.1, x.2.2.2.2.2.2.1, x.2.2.2.2.2.2.2.1, x.2.2.2.2.2.2.2.2.1, x.2.2.2.2.2.2.2.2.2.1, (31 * x.2.2.2.2.2.2.2.2.2.2) + p0)
def f_X6_mixesRow_38 (k2 : Int32 → MdC → Option (MdC)) : Nat → Int32 → Int32 → MdC → Option (MdC)
  | 0, _, _, _ => none
  | fu + 1, v1, v2, x =>
    if 6 ≤ v2 then
      k2 (v1 + 1) x
    else
      Option.bind (f_X6_ofThing v1 v2 x) fun z4 =>
      Option.bind (f_X6_mixes z4.toInt64 x) fun z5 =>
      f_X6_mixesRow_38 k2 fu v1 (v2 + 1) z5
def f_X6_mixesRow_111 : Nat → Int32 → MdC → Option (MdC)
  | 0, _, _ => none
  | fu + 1, v1, x =>
    if 12 ≤ v1 then
      some x
    else
      Option.bind (f_X6_ofWalker (v1 / 3) (v1 - v1 / 3 * 3) x) fun z9 =>
      Option.bind (f_X6_mixes z9.toInt64 x) fun z10 =>
      f_X6_mixesRow_111 fu (v1 + 1) z10
def f_X6_mixesRow_69 : Nat → Int32 → MdC → Option (MdC)
  | 0, _, _ => none
  | fu + 1, v1, x =>
    gi 0 414 <|
    if (x.2.1 (0 : Int32).toNatClampNeg) ≤ v1 then
      f_X6_mixesRow_111 FU 0 x
    else
      gi (6 + v1) 414 <|
      Option.bind (f_X6_mixes ((x.2.1 (6 + v1).toNatClampNeg).toInt64) x) fun z6 =>
      Option.bind (f_X6_ofCell v1 z6) fun z7 =>
      Option.bind (f_X6_mixes z7.toInt64 z6) fun z8 =>
      f_X6_mixesRow_69 fu (v1 + 1) z8
def f_X6_mixesRow_2 : Nat → Int32 → MdC → Option (MdC)
  | 0, _, _ => none
  | fu + 1, v1, x =>
    gi 1 414 <|
    if (x.2.1 (1 : Int32).toNatClampNeg) ≤ v1 then
      f_X6_mixesRow_69 FU 0 x
    else
      Option.bind (f_X6_isThing v1 x.2.1) fun z1 =>
      if z1 = 0 then
        f_X6_mixesRow_2 fu (v1 + 1) x
      else
        Option.bind (f_X6_handleOf v1 x.2.1) fun z2 =>
        Option.bind (f_X6_mixes z2.toInt64 x) fun z3 =>
        f_X6_mixesRow_38 (f_X6_mixesRow_2 fu) FU v1 0 z3
def f_X6_mixesRow (x : MdC) : Option (MdC) :=
  f_X6_mixesRow_2 FU 0 x
def f_Jxe99ae_isNaN_b9ae7 (p0 : UInt64) : Option (Int32) :=
  if (Op.cmpValue (FP.dcmp p0 p0) .l) = 0 then
    some 0
  else
    some 1
def f_Jxe99ae_doubleToLongBits_ccdee (p0 : UInt64) : Option (Int64) :=
  Option.bind (f_Jxe99ae_isNaN_b9ae7 p0) fun z1 =>
  if z1 = 0 then
    some p0.toInt64
  else
    some 9221120237041090560
def f_X6_digest_164 : Nat → Int32 → MdC → Option (Int64 × MdC)
  | 0, _, _ => none
  | fu + 1, v1, x =>
    if x.2.2.2.2.2.2.1 ≤ v1 then
      some (x.2.2.2.2.2.2.2.2.2.2, x)
    else
      gi v1 60 <|
      Option.bind (f_X6_mixes ((x.2.2.2.2.2.1 v1.toNatClampNeg).toInt64) x) fun z20 =>
      f_X6_digest_164 fu (v1 + 1) z20
def f_X6_digest_109 : Nat → Int32 → MdC → Option (Int64 × MdC)
  | 0, _, _ => none
  | fu + 1, v1, x =>
    if 5 ≤ v1 then
      Option.bind (f_X6_full x) fun z12 =>
      Option.bind (f_Jxe99ae_doubleToLongBits_ccdee z12) fun z13 =>
      Option.bind (f_X6_mixes z13 x) fun z14 =>
      Option.bind (f_X6_mixes z14.2.2.2.2.2.2.1.toInt64 z14) fun z15 =>
      f_X6_digest_164 FU 0 z15
    else
      Option.bind (f_X6_roomFor v1 0 x) fun z16 =>
      Option.bind (f_X6_mixes z16.toInt64 x) fun z17 =>
      Option.bind (f_X6_roomFor v1 1 z17) fun z18 =>
      Option.bind (f_X6_mixes z18.toInt64 z17) fun z19 =>
      f_X6_digest_109 fu (v1 + 1) z19
def f_X6_digest_85 : Nat → Int32 → MdC → Option (Int64 × MdC)
  | 0, _, _ => none
  | fu + 1, v1, x =>
    if 3 ≤ v1 then
      f_X6_digest_109 FU 1 x
    else
      Option.bind (f_X6_fired 2 v1 x) fun z10 =>
      Option.bind (f_X6_mixes z10.1.toInt64 z10.2) fun z11 =>
      f_X6_digest_85 fu (v1 + 1) z11
def f_X6_digest_42 : Nat → Int32 → MdC → Option (Int64 × MdC)
  | 0, _, _ => none
  | fu + 1, v1, x =>
    if 5 ≤ v1 then
      Option.bind (f_X6_longest 0 x) fun z4 =>
      Option.bind (f_X6_mixes z4.toInt64 x) fun z5 =>
      Option.bind (f_X6_longest 1 z5) fun z6 =>
      Option.bind (f_X6_mixes z6.toInt64 z5) fun z7 =>
      f_X6_digest_85 FU 0 z7
    else
      Option.bind (f_X6_beginsAt v1 x) fun z8 =>
      Option.bind (f_X6_mixes z8.toInt64 x) fun z9 =>
      f_X6_digest_42 fu (v1 + 1) z9
def f_X6_digest_14 : Nat → Int32 → MdC → Option (Int64 × MdC)
  | 0, _, _ => none
  | fu + 1, v1, x =>
    if 10 ≤ v1 then
      Option.bind (f_X6_mixesRow x) fun z1 =>
      f_X6_digest_42 FU 1 z1
    else
      Option.bind (f_X6_counted v1 x) fun z2 =>
      Option.bind (f_X6_mixes z2.toInt64 x) fun z3 =>
      f_X6_digest_14 fu (v1 + 1) z3
def f_X6_digest (x : MdC) : Option (Int64 × MdC) :=
  f_X6_digest_14 FU 0 (0, x.2.1, x.2.2.1, x.2.2.2.1, x.2.2.2.2.1, x.2.2.2.2.2.1, x.2.2.2.2.2.2.1, x.2.2.2.2.2.2.2.1, x.2.2.2.2.2.2.2.2.1, x.2.2.2.2.2.2.2.2.2.1, 3251)
