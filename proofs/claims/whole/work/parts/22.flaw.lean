def f_L_cell (p1 : Int32) (p2 : Int32) (x : ClC) (o : FnL) : Option (Int32 × FnL) :=
  ct (f_X5_cell p1 p2 x) (fun z1 =>
    gi 0 1 <|
    some (0, (vp_updL o (0 : Int32).toNatClampNeg z1.toInt64)))
  (fun ex =>
    if ex = 3 then
      some (1, o)
    else
      if ex = 1 then
        some (2, o)
      else
        none)
def f_L_put (p1 : Int32) (p2 : Int32) (p3 : Int32) (x : ClC) (o : FnL) : Option (Int32 × ClC × FnL) :=
  ct (f_X5_put p1 p2 p3 x) (fun z1 =>
    gi 0 1 <|
    some (0, z1.2, (vp_updL o (0 : Int32).toNatClampNeg z1.1.toInt64)))
  (fun ex =>
    if ex = 1 then
      some (1, x, o)
    else
      if ex = 2 then
        some (2, x, o)
      else
        none)
def f_L_putBehind (p1 : Int32) (p2 : Int32) (p3 : Int32) (p4 : Int32) (x : ClC) (o : FnL) : Option (Int32 × ClC × FnL) :=
  ct (f_X5_putBehind p1 p2 p3 p4 x) (fun z1 =>
    gi 0 1 <|
    some (0, z1.2, (vp_updL o (0 : Int32).toNatClampNeg z1.1.toInt64)))
  (fun ex =>
    if ex = 3 then
      some (1, x, o)
    else
      if ex = 1 then
        some (2, x, o)
      else
        if ex = 2 then
          some (3, x, o)
        else
          none)
def f_L_remove (p1 : Int32) (x : ClC) (o : FnL) : Option (Int32 × ClC × FnL) :=
  ct (f_X5_remove p1 x) (fun z1 =>
    gi 0 1 <|
    some (0, z1.2, (vp_updL o (0 : Int32).toNatClampNeg z1.1.toInt64)))
  (fun ex =>
    if ex = 3 then
      some (1, x, o)
    else
      none)
def f_L_change (p1 : Int32) (p2 : Int32) (x : ClC) (o : FnL) : Option (Int32 × ClC × FnL) :=
  ct (f_X5_change p1 p2 x) (fun z1 =>
    gi 0 1 <|
    some (0, z1.2, (vp_updL o (0 : Int32).toNatClampNeg z1.1.toInt64)))
  (fun ex =>
    if ex = 3 then
      some (1, x, o)
    else
      if ex = 1 then
        some (2, x, o)
      else
        none)
def f_L_restart (p1 : Int32) (x : ClC) (o : FnL) : Option (Int32 × ClC × FnL) :=
  ct (f_X5_restart p1 x) (fun z1 =>
    gi 0 1 <|
    some (0, z1.2, (vp_updL o (0 : Int32).toNatClampNeg z1.1.toInt64)))
  (fun ex =>
    if ex = 3 then
      some (1, x, o)
    else
      none)
def f_L_goOn (p1 : Int32) (x : ClC) (o : FnL) : Option (Int32 × ClC × FnL) :=
  ct (f_X5_goOn p1 x) (fun z1 =>
    gi 0 1 <|
    some (0, z1.2, (vp_updL o (0 : Int32).toNatClampNeg z1.1.toInt64)))
  (fun ex =>
    if ex = 3 then
      some (1, x, o)
    else
      none)
def f_L_take (p1 : Int32) (x : ClC) (o : FnL) : Option (Int32 × ClC × FnL) :=
  ct (f_X5_take p1 x) (fun z1 =>
    gi 0 1 <|
    some (0, z1.2, (vp_updL o (0 : Int32).toNatClampNeg z1.1.toInt64)))
  (fun ex =>
    if ex = 3 then
      some (1, x, o)
    else
      if ex = 2 then
        some (2, x, o)
      else
        none)
def f_L_append (p1 : Int32) (x : ClC) (o : FnL) : Option (Int32 × ClC × FnL) :=
  ct (f_X5_append p1 x) (fun z1 =>
    gi 0 1 <|
    some (0, z1.2, (vp_updL o (0 : Int32).toNatClampNeg z1.1.toInt64)))
  (fun ex =>
    if ex = 1 then
      some (1, x, o)
    else
      if ex = 2 then
        some (2, x, o)
      else
        none)
def f_L_putAll (x : ClC) (o : FnL) : Option (Int32 × ClC × FnL) :=
  ct (f_X5_putAll x) (fun z1 =>
    gi 0 1 <|
    some (0, z1.2, (vp_updL o (0 : Int32).toNatClampNeg z1.1.toInt64)))
  (fun ex =>
    if ex = 1 then
      some (1, x, o)
    else
      none)
def f_L_undo (x : ClC) (o : FnL) : Option (Int32 × ClC × FnL) :=
  ct (f_X5_undo x) (fun z1 =>
    gi 0 1 <|
    some (0, z1.2, (vp_updL o (0 : Int32).toNatClampNeg z1.1.toInt64)))
  (fun ex =>
    if ex = 2 then
      some (1, x, o)
    else
      none)
def f_L_thing (p1 : Int32) (p2 : Int32) (x : ClC) (o : FnL) : Option (Int32 × FnL) :=
  ct (f_X5_thing p1 p2 x) (fun z1 =>
    gi 0 1 <|
    some (0, (vp_updL o (0 : Int32).toNatClampNeg z1.toInt64)))
  (fun ex =>
    if ex = 3 then
      some (1, o)
    else
      if ex = 1 then
        some (2, o)
      else
        none)
def f_L_at (p1 : Int32) (x : ClC) (o : FnL) : Option (Int32 × FnL) :=
  ct (f_X5_at p1 x) (fun z1 =>
    gi 0 1 <|
    some (0, (vp_updL o (0 : Int32).toNatClampNeg z1.toInt64)))
  (fun ex =>
    if ex = 1 then
      some (1, o)
    else
      none)
def f_L_walker (p1 : Int32) (p2 : Int32) (x : ClC) (o : FnL) : Option (Int32 × FnL) :=
  ct (f_X5_walker p1 p2 x) (fun z1 =>
    gi 0 1 <|
    some (0, (vp_updL o (0 : Int32).toNatClampNeg z1.toInt64)))
  (fun ex =>
    if ex = 3 then
      some (1, o)
    else
      if ex = 1 then
        some (2, o)
      else
        none)
def f_L_count (p1 : Int32) (x : ClC) (o : FnL) : Option (Int32 × FnL) :=
  ct (f_X5_count p1 x) (fun z1 =>
    gi 0 1 <|
    some (0, (vp_updL o (0 : Int32).toNatClampNeg z1.toInt64)))
  (fun ex =>
    if ex = 1 then
      some (1, o)
    else
      none)
def f_L_begins (p1 : Int32) (x : ClC) (o : FnL) : Option (Int32 × FnL) :=
  ct (f_X5_begins p1 x) (fun z1 =>
    gi 0 1 <|
    some (0, (vp_updL o (0 : Int32).toNatClampNeg z1.toInt64)))
  (fun ex =>
    if ex = 1 then
      some (1, o)
    else
      none)
def f_L_gap (p1 : Int32) (x : ClC) (o : FnL) : Option (Int32 × FnL) :=
  ct (f_X5_gap p1 x) (fun z1 =>
    gi 0 1 <|
    some (0, (vp_updL o (0 : Int32).toNatClampNeg z1.toInt64)))
  (fun ex =>
    if ex = 1 then
      some (1, o)
    else
      none)
def f_L_ifFired (p1 : Int32) (p2 : Int32) (x : ClC) (o : FnL) : Option (Int32 × ClC × FnL) :=
  ct (f_X5_ifFired p1 p2 x) (fun z1 =>
    gi 0 1 <|
    some (0, z1.2, (vp_updL o (0 : Int32).toNatClampNeg z1.1.toInt64)))
  (fun ex =>
    if ex = 1 then
      some (1, x, o)
    else
      none)
def f_L_room (p1 : Int32) (p2 : Int32) (x : ClC) (o : FnL) : Option (Int32 × FnL) :=
  ct (f_X5_room p1 p2 x) (fun z1 =>
    gi 0 1 <|
    some (0, (vp_updL o (0 : Int32).toNatClampNeg z1.toInt64)))
  (fun ex =>
    if ex = 1 then
      some (1, o)
    else
      none)
