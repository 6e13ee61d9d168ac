def f_X5_put (p0 : Int32) (p1 : Int32) (p2 : Int32) (x : ClC) : Option (Nat ⊕ (Int32 × ClC)) :=
  Option.bind (f_X5_isThing p0 p1 p2) fun z1 =>
  if z1 = 0 then
    some (.inl 1)
  else
    Option.bind (f_X2_lowestFor p1 x.1.1) fun z2 =>
    if z2 = (-1) then
      some (.inl 2)
    else
      Option.bind (f_X0_save x.2.2.1 x.1) fun z3 =>
      Option.bind (f_X1_size x.1.2.1) fun z5 =>
      Option.bind (f_X3_addAt z5 p0 p1 p2 x.1) fun z6 =>
      Option.bind (f_X2_handleOf z6.1 z6.2.1) fun z7 =>
      some (.inr (z7, (z6.2, x.2.1, z3, x.2.2.2)))
def f_X5_putBehind (p0 : Int32) (p1 : Int32) (p2 : Int32) (p3 : Int32) (x : ClC) : Option (Nat ⊕ (Int32 × ClC)) :=
  Option.bind (f_X2_whyRefused p0 x.1.1) fun z1 =>
  if z1 = 0 then
    Option.bind (f_X5_isThing p1 p2 p3) fun z2 =>
    if z2 = 0 then
      some (.inl 1)
    else
      Option.bind (f_X2_lowestFor p2 x.1.1) fun z3 =>
      if z3 = (-1) then
        some (.inl 2)
      else
        Option.bind (f_X0_save x.2.2.1 x.1) fun z4 =>
        Option.bind (f_X1_indexOf (p0 / 1000) x.1.2.1) fun z6 =>
        Option.bind (f_X3_addAt (z6 + 1) p1 p2 p3 x.1) fun z7 =>
        Option.bind (f_X2_handleOf z7.1 z7.2.1) fun z8 =>
        some (.inr (z8, (z7.2, x.2.1, z4, x.2.2.2)))
  else
    some (.inl 3)
def f_X5_remove (p0 : Int32) (x : ClC) : Option (Nat ⊕ (Int32 × ClC)) :=
  Option.bind (f_X2_whyRefused p0 x.1.1) fun z1 =>
  if z1 = 0 then
    Option.bind (f_X2_valueAt (p0 / 1000) x.1.1) fun z2 =>
    Option.bind (f_X0_save x.2.2.1 x.1) fun z3 =>
    Option.bind (f_X3_drop (p0 / 1000) x.1) fun z5 =>
    some (.inr (z2, (z5, x.2.1, z3, x.2.2.2)))
  else
    some (.inl 3)
def f_X5_change (p0 : Int32) (p1 : Int32) (x : ClC) : Option (Nat ⊕ (Int32 × ClC)) :=
  Option.bind (f_X2_whyRefused p0 x.1.1) fun z1 =>
  if z1 = 0 then
    Option.bind (f_X5_isValue p1) fun z2 =>
    if z2 = 0 then
      some (.inl 1)
    else
      Option.bind (f_X2_valueAt (p0 / 1000) x.1.1) fun z3 =>
      Option.bind (f_X0_save x.2.2.1 x.1) fun z4 =>
      Option.bind (f_X2_setValue (p0 / 1000) p1 x.1.1) fun z6 =>
      some (.inr (z3, ((z6, x.1.2), x.2.1, z4, x.2.2.2)))
  else
    some (.inl 3)
def f_X5_restart (p0 : Int32) (x : ClC) : Option (Nat ⊕ (Int32 × ClC)) :=
  Option.bind (f_X5_isWalker p0) fun z1 =>
  if z1 = 0 then
    some (.inl 3)
  else
    Option.bind (f_X1_standOf p0 x.1.2.1) fun z2 =>
    Option.bind (f_X0_save x.2.2.1 x.1) fun z3 =>
    Option.bind (f_X1_sendAhead p0 x.1.2.1) fun z5 =>
    some (.inr (z2, ((x.1.1, z5, x.1.2.2), x.2.1, z3, x.2.2.2)))
def f_X5_goOn (p0 : Int32) (x : ClC) : Option (Nat ⊕ (Int32 × ClC)) :=
  Option.bind (f_X5_isWalker p0) fun z1 =>
  if z1 = 0 then
    some (.inl 3)
  else
    Option.bind (f_X0_save x.2.2.1 x.1) fun z2 =>
    Option.bind (f_X1_sendOn p0 x.1.2.1) fun z4 =>
    Option.bind (f_X1_thingUnder p0 z4) fun z5 =>
    Option.bind (f_X2_handleOf z5 x.1.1) fun z6 =>
    some (.inr (z6, ((x.1.1, z4, x.1.2.2), x.2.1, z2, x.2.2.2)))
def f_X5_take (p0 : Int32) (x : ClC) : Option (Nat ⊕ (Int32 × ClC)) :=
  Option.bind (f_X5_isWalker p0) fun z1 =>
  if z1 = 0 then
    some (.inl 3)
  else
    Option.bind (f_X1_thingUnder p0 x.1.2.1) fun z2 =>
    if z2 = (-1) then
      some (.inl 2)
    else
      Option.bind (f_X2_valueAt z2 x.1.1) fun z3 =>
      Option.bind (f_X0_save x.2.2.1 x.1) fun z4 =>
      Option.bind (f_X3_drop z2 x.1) fun z6 =>
      some (.inr (z3, (z6, x.2.1, z4, x.2.2.2)))
def f_X5_fire (x : ClC) : Option (Int32 × ClC) :=
  Option.bind (f_X0_save x.2.2.1 x.1) fun z1 =>
  Option.bind (f_X3_fireThings x.1) fun z3 =>
  some (z3.1, (z3.2, x.2.1, z1, x.2.2.2))
def f_X5_together (x : ClC) : Option (Int32 × ClC) :=
  Option.bind (f_X0_save x.2.2.1 x.1) fun z1 =>
  Option.bind (f_X3_moveThings x.1) fun z3 =>
  some (z3.1, (z3.2, x.2.1, z1, x.2.2.2))
def f_X5_append (p0 : Int32) (x : ClC) : Option (Nat ⊕ (Int32 × ClC)) :=
  if p0 < 33 then
    some (.inl 1)
  else
    if p0 ≤ 126 then
      Option.bind (f_X4_isFull x.2.2.2) fun z1 =>
      if z1 = 0 then
        Option.bind (f_X4_add p0 x.2.2.2) fun z2 =>
        Option.bind (f_X4_size z2) fun z3 =>
        some (.inr (z3, (x.1, x.2.1, x.2.2.1, z2)))
      else
        some (.inl 2)
    else
      some (.inl 1)
def f_X5_clearBuffer (x : ClC) : Option (Int32 × ClC) :=
  Option.bind (f_X4_size x.2.2.2) fun z1 =>
  Option.bind (f_X4_empty x.2.2.2) fun z2 =>
  some (z1, (x.1, x.2.1, x.2.2.1, z2))
def f_X5_firstError (x : ClC) : Option (Int32) :=
  Option.bind (f_X4_firstWrong x.2.2.2) fun z1 =>
  some z1
def f_X5_putParts_126 (k15 : Int32 → Int32 → Int32 → Int32 → ClC → Option (Int32 × ClC)) (v1 : Int32) (v2 : Int32) (v4 : Int32) (v6 : Int32) (x : ClC) : Option (Int32 × ClC) :=
  k15 v1 v2 (v6 + 1) (v4 + 1) x
def f_X5_putParts_15 : Nat → Int32 → Int32 → Int32 → Int32 → ClC → Option (Int32 × ClC)
  | 0, _, _, _, _, _ => none
  | fu + 1, v1, v2, v3, v4, x =>
    if 60 ≤ v4 then
      some (v1, x)
    else
      if v2 ≤ v3 then
        some (v1, x)
      else
        Option.bind (f_X4_indexOf 42 v3 x.2.2.2) fun z2 =>
        Option.bind (f_X4_indexOf 44 v3 x.2.2.2) fun z3 =>
        Option.bind (f_X4_numberIn v3 z2 x.2.2.2) fun z4 =>
        Option.bind (f_X4_numberIn (z2 + 1) (z2 + 2) x.2.2.2) fun z5 =>
        Option.bind (f_X4_codeAt (z3 - 1) x.2.2.2) fun z6 =>
        Option.bind (f_X5_kindOfSign z6) fun z7 =>
        Option.bind (f_X1_size x.1.2.1) fun z8 =>
        Option.bind (f_X3_addAt z8 z4 z5 z7 x.1) fun z9 =>
        if z9.1 = (-1) then
          f_X5_putParts_126 (f_X5_putParts_15 fu) v1 v2 v4 z3 (z9.2, x.2)
        else
          f_X5_putParts_126 (f_X5_putParts_15 fu) (v1 + 1) v2 v4 z3 (z9.2, x.2)
def f_X5_putParts (x : ClC) : Option (Int32 × ClC) :=
  Option.bind (f_X4_size x.2.2.2) fun z1 =>
  f_X5_putParts_15 FU 0 z1 0 0 x
def f_X5_putAll (x : ClC) : Option (Nat ⊕ (Int32 × ClC)) :=
  Option.bind (f_X4_isComplete x.2.2.2) fun z1 =>
  if z1 = 0 then
    some (.inl 1)
  else
    Option.bind (f_X0_save x.2.2.1 x.1) fun z2 =>
    Option.bind (f_X5_putParts (x.1, x.2.1, z2, x.2.2.2)) fun z4 =>
    Option.bind (f_X4_empty z4.2.2.2.2) fun z6 =>
    some (.inr (z4.1, (z4.2.1, z4.2.2.1, z4.2.2.2.1, z6)))
def f_X5_undo (x : ClC) : Option (Nat ⊕ (Int32 × ClC)) :=
  Option.bind (f_X0_size x.2.2.1) fun z1 =>
  if z1 = 0 then
    some (.inl 2)
  else
    Option.bind (f_X0_bringBack x.2.2.1 x.1) fun z2 =>
    Option.bind (f_X0_size z2.1) fun z4 =>
    some (.inr (z4, (z2.2, x.2.1, z2.1, x.2.2.2)))
def f_X5_refusal (p0 : Int32) (x : ClC) : Option (Int32) :=
  Option.bind (f_X2_whyRefused p0 x.1.1) fun z1 =>
  some z1
def f_X5_thing (p0 : Int32) (p1 : Int32) (x : ClC) : Option (Nat ⊕ Int32) :=
  Option.bind (f_X2_whyRefused p0 x.1.1) fun z1 =>
  if z1 = 0 then
    if p1 = 0 then
      Option.bind (f_X2_valueAt (p0 / 1000) x.1.1) fun z2 =>
      some (.inr z2)
    else
      if p1 = 1 then
        Option.bind (f_X2_sizeAt (p0 / 1000) x.1.1) fun z3 =>
        some (.inr z3)
      else
        if p1 = 2 then
          Option.bind (f_X2_kindAt (p0 / 1000) x.1.1) fun z4 =>
          some (.inr z4)
        else
          if p1 = 3 then
            Option.bind (f_X2_timesFired (p0 / 1000) x.1.1) fun z5 =>
            some (.inr z5)
          else
            if p1 = 4 then
              Option.bind (f_X1_placeOf (p0 / 1000) x.1.2.1) fun z6 =>
              some (.inr z6)
            else
              if p1 = 5 then
                Option.bind (f_X1_indexOf (p0 / 1000) x.1.2.1) fun z7 =>
                Option.bind (f_X1_walkersOn z7 x.1.2.1) fun z8 =>
                some (.inr z8)
              else
                some (.inl 1)
  else
    some (.inl 3)
def f_X5_at (p0 : Int32) (x : ClC) : Option (Nat ⊕ Int32) :=
  if 0 ≤ p0 then
    Option.bind (f_X1_thingAtPlace p0 x.1.2.1) fun z1 =>
    Option.bind (f_X2_handleOf z1 x.1.1) fun z2 =>
    some (.inr z2)
  else
    some (.inl 1)
def f_X5_cell (p0 : Int32) (p1 : Int32) (x : ClC) : Option (Nat ⊕ Int32) :=
  Option.bind (f_X2_isCell p0 x.1.1) fun z1 =>
  if z1 = 0 then
    some (.inl 3)
  else
    if p1 = 0 then
      Option.bind (f_X2_stampAt p0 x.1.1) fun z2 =>
      some (.inr z2)
    else
      if p1 = 1 then
        Option.bind (f_X2_ownerOf p0 x.1.1) fun z3 =>
        Option.bind (f_X2_handleOf z3 x.1.1) fun z4 =>
        some (.inr z4)
      else
        some (.inl 1)
def f_X5_walker (p0 : Int32) (p1 : Int32) (x : ClC) : Option (Nat ⊕ Int32) :=
  Option.bind (f_X5_isWalker p0) fun z1 =>
  if z1 = 0 then
    some (.inl 3)
  else
    if p1 = 0 then
      Option.bind (f_X1_standOf p0 x.1.2.1) fun z2 =>
      some (.inr z2)
    else
      if p1 = 1 then
        Option.bind (f_X1_thingUnder p0 x.1.2.1) fun z3 =>
        Option.bind (f_X2_handleOf z3 x.1.1) fun z4 =>
        some (.inr z4)
      else
        if p1 = 2 then
          Option.bind (f_X1_thingsBehind p0 x.1.2.1) fun z5 =>
          some (.inr z5)
        else
          some (.inl 1)
def f_X5_count (p0 : Int32) (x : ClC) : Option (Nat ⊕ Int32) :=
  if p0 = 0 then
    Option.bind (f_X1_things x.1.2.1) fun z1 =>
    some (.inr z1)
  else
    if p0 = 1 then
      Option.bind (f_X1_tombstones x.1.2.1) fun z2 =>
      some (.inr z2)
    else
      if p0 = 2 then
        Option.bind (f_X2_cellsNow x.1.1) fun z3 =>
        some (.inr z3)
      else
        if p0 = 3 then
          Option.bind (f_X2_freeCells x.1.1) fun z4 =>
          some (.inr z4)
        else
          if p0 = 4 then
            Option.bind (f_X2_sumOfValues x.1.1) fun z5 =>
            some (.inr z5)
          else
            if p0 = 5 then
              some (.inr x.1.2.2.2.1)
            else
              if p0 = 6 then
                some (.inr x.1.2.2.2.2.1)
              else
                if p0 = 7 then
                  some (.inr x.1.2.2.2.2.2.1)
                else
                  if p0 = 8 then
                    some (.inr x.1.2.2.2.2.2.2)
                  else
                    if p0 = 9 then
                      Option.bind (f_X0_size x.2.2.1) fun z6 =>
                      some (.inr z6)
                    else
                      some (.inl 1)
def f_X5_begins (p0 : Int32) (x : ClC) : Option (Nat ⊕ Int32) :=
  Option.bind (f_X5_isSize p0) fun z1 =>
  if z1 = 0 then
    some (.inl 1)
  else
    Option.bind (f_X2_lowestFor p0 x.1.1) fun z2 =>
    some (.inr z2)
def f_X5_gap (p0 : Int32) (x : ClC) : Option (Nat ⊕ Int32) :=
  if p0 = 0 then
    Option.bind (f_X2_longestGap x.1.1) fun z1 =>
    some (.inr z1)
  else
    if p0 = 1 then
      Option.bind (f_X2_beginOfLongestGap x.1.1) fun z2 =>
      some (.inr z2)
    else
      some (.inl 1)
def f_X5_tryEvents_15 : Nat → Int32 → Int32 → Int32 → ClC → Option (Int32 × ClC)
  | 0, _, _, _, _ => none
  | fu + 1, v1, v2, v3, x =>
    if v1 ≤ v3 then
      some (v2, x)
    else
      Option.bind (f_X3_fireThings x.2.1) fun z2 =>
      f_X5_tryEvents_15 fu v1 (v2 + z2.1) (v3 + 1) (x.1, z2.2, x.2.2)
def f_X5_tryEvents (p0 : Int32) (x : ClC) : Option (Int32 × ClC) :=
  Option.bind (f_X3_copyFrom x.2.1 x.1) fun z1 =>
  f_X5_tryEvents_15 FU p0 0 0 (x.1, z1, x.2.2)
def f_X5_ifFired (p0 : Int32) (p1 : Int32) (x : ClC) : Option (Nat ⊕ (Int32 × ClC)) :=
  if p0 < 1 then
    some (.inl 1)
  else
    if 9 < p0 then
      some (.inl 1)
    else
      if p1 < 0 then
        some (.inl 1)
      else
        if p1 ≤ 2 then
          Option.bind (f_X5_tryEvents p0 x) fun z1 =>
          if p1 = 0 then
            some (.inr (z1.1, z1.2))
          else
            if p1 = 1 then
              Option.bind (f_X1_things z1.2.2.1.2.1) fun z4 =>
              some (.inr (z4, z1.2))
            else
              Option.bind (f_X2_cellsNow z1.2.2.1.1) fun z3 =>
              some (.inr (z3, z1.2))
        else
          some (.inl 1)
def f_X5_room (p0 : Int32) (p1 : Int32) (x : ClC) : Option (Nat ⊕ Int32) :=
  Option.bind (f_X5_isSize p0) fun z1 =>
  if z1 = 0 then
    some (.inl 1)
  else
    if p1 = 0 then
      Option.bind (f_X2_roomFor p0 x.1.1) fun z2 =>
      some (.inr z2)
    else
      Option.bind (f_X2_freeCells x.1.1) fun z3 =>
      gd p0 <|
      some (.inr (z3 / p0))
def f_X5_fullness (x : ClC) : Option (UInt64) :=
  Option.bind (f_X2_cellsNow x.1.1) fun z1 =>
  if 0 < z1 then
    Option.bind (f_X2_freeCells x.1.1) fun z2 =>
    gf (FP.ddiv (FP.i2d (z1 - z2)) (FP.i2d z1)) <|
    some (FP.ddiv (FP.i2d (z1 - z2)) (FP.i2d z1))
  else
    some FP.dconst0
def f_X5_hashThings_45 (k17 : Int64 → Int32 → Int32 → ClC → Option (Int64)) : Nat → Int64 → Int32 → Int32 → Int32 → Int32 → ClC → Option (Int64)
  | 0, _, _, _, _, _, _ => none
  | fu + 1, v3, v5, v6, v7, v8, x =>
    if 5 < v8 then
      k17 v3 v5 (v6 + 1) x
    else
      rt (f_X5_thing v7 v8 x) <| fun z3 =>
      f_X5_hashThings_45 k17 fu ((31 * v3) + z3.toInt64) v5 v6 v7 (v8 + 1) x
def f_X5_hashThings_17 : Nat → Int64 → Int32 → Int32 → ClC → Option (Int64)
  | 0, _, _, _, _ => none
  | fu + 1, v3, v5, v6, x =>
    if v5 ≤ v6 then
      some v3
    else
      rt (f_X5_at v6 x) <| fun z2 =>
      f_X5_hashThings_45 (f_X5_hashThings_17 fu) FU ((31 * v3) + z2.toInt64) v5 v6 z2 0 x
def f_X5_hashThings (p0 : Int64) (x : ClC) : Option (Int64) :=
  Option.bind (f_X1_things x.1.2.1) fun z1 =>
  f_X5_hashThings_17 FU p0 z1 0 x
def f_X5_hashCellsAndWalkers_72 (k63 : Int64 → Int32 → ClC → Option (Int64)) : Nat → Int64 → Int32 → Int32 → ClC → Option (Int64)
  | 0, _, _, _, _ => none
  | fu + 1, v3, v6, v7, x =>
    if 2 < v7 then
      k63 v3 (v6 + 1) x
    else
      rt (f_X5_walker v6 v7 x) <| fun z4 =>
      f_X5_hashCellsAndWalkers_72 k63 fu ((31 * v3) + z4.toInt64) v6 (v7 + 1) x
def f_X5_hashCellsAndWalkers_63 : Nat → Int64 → Int32 → ClC → Option (Int64)
  | 0, _, _, _ => none
  | fu + 1, v3, v6, x =>
    if 4 ≤ v6 then
      some v3
    else
      f_X5_hashCellsAndWalkers_72 (f_X5_hashCellsAndWalkers_63 fu) FU v3 v6 0 x
def f_X5_hashCellsAndWalkers_17 : Nat → Int64 → Int32 → Int32 → ClC → Option (Int64)
  | 0, _, _, _, _ => none
  | fu + 1, v3, v5, v6, x =>
    if v5 ≤ v6 then
      f_X5_hashCellsAndWalkers_63 FU v3 0 x
    else
      rt (f_X5_cell v6 0 x) <| fun z2 =>
      rt (f_X5_cell v6 1 x) <| fun z3 =>
      f_X5_hashCellsAndWalkers_17 fu ((31 * ((31 * v3) + z2.toInt64)) + z3.toInt64) v5 (v6 + 1) x
def f_X5_hashCellsAndWalkers (p0 : Int64) (x : ClC) : Option (Int64) :=
  Option.bind (f_X2_cellsNow x.1.1) fun z1 =>
  f_X5_hashCellsAndWalkers_17 FU p0 z1 0 x
def f_X5_hashGaps_5 : Nat → Int64 → Int32 → ClC → Option (Int64)
  | 0, _, _, _ => none
  | fu + 1, v3, v5, x =>
    if 4 < v5 then
      rt (f_X5_gap 0 x) <| fun z1 =>
      rt (f_X5_gap 1 x) <| fun z2 =>
      some ((31 * ((31 * v3) + z1.toInt64)) + z2.toInt64)
    else
      rt (f_X5_begins v5 x) <| fun z3 =>
      f_X5_hashGaps_5 fu ((31 * v3) + z3.toInt64) (v5 + 1) x
def f_X5_hashGaps (p0 : Int64) (x : ClC) : Option (Int64) :=
  f_X5_hashGaps_5 FU p0 1 x
def f_X5_hashRoom_5 : Nat → Int64 → Int32 → ClC → Option (Int64)
  | 0, _, _, _ => none
  | fu + 1, v3, v5, x =>
    if 4 < v5 then
      Option.bind (f_X5_fullness x) fun z1 =>
      Option.bind (f_X5_bitsOfShare z1) fun z2 =>
      some ((31 * v3) + z2)
    else
      rt (f_X5_room v5 0 x) <| fun z3 =>
      rt (f_X5_room v5 1 x) <| fun z4 =>
      f_X5_hashRoom_5 fu ((31 * ((31 * v3) + z3.toInt64)) + z4.toInt64) (v5 + 1) x
def f_X5_hashRoom (p0 : Int64) (x : ClC) : Option (Int64) :=
  f_X5_hashRoom_5 FU p0 1 x
def f_X5_hashBuffer_21 : Nat → Int32 → Int64 → Int32 → ClC → Option (Int64)
  | 0, _, _, _, _ => none
  | fu + 1, v3, v4, v6, x =>
    if v3 ≤ v6 then
      some v4
    else
      Option.bind (f_X4_codeAt v6 x.2.2.2) fun z2 =>
      f_X5_hashBuffer_21 fu v3 ((31 * v4) + z2.toInt64) (v6 + 1) x
def f_X5_hashBuffer (p0 : Int64) (x : ClC) : Option (Int64) :=
  Option.bind (f_X4_size x.2.2.2) fun z1 =>
  f_X5_hashBuffer_21 FU z1 ((31 * p0) + z1.toInt64) 0 x
def f_X5_digest_6 : Nat → Int64 → Int32 → ClC → Option (Int64 × ClC)
  | 0, _, _, _ => none
  | fu + 1, v1, v3, x =>
    if 9 < v3 then
      Option.bind (f_X5_hashThings v1 x) fun z1 =>
      Option.bind (f_X5_hashCellsAndWalkers z1 x) fun z2 =>
      Option.bind (f_X5_hashGaps z2 x) fun z3 =>
      Option.bind (f_X5_tryEvents 2 x) fun z4 =>
      Option.bind (f_X1_things z4.2.2.1.2.1) fun z6 =>
      Option.bind (f_X2_cellsNow z4.2.2.1.1) fun z7 =>
      Option.bind (f_X5_hashRoom ((31 * ((31 * ((31 * z3) + z4.1.toInt64)) + z6.toInt64)) + z7.toInt64) z4.2) fun z8 =>
      Option.bind (f_X5_hashBuffer z8 z4.2) fun z9 =>
      some (z9, z4.2)
    else
      rt (f_X5_count v3 x) <| fun z10 =>
      f_X5_digest_6 fu ((31 * v1) + z10.toInt64) (v3 + 1) x
def f_X5_digest (x : ClC) : Option (Int64 × ClC) :=
  f_X5_digest_6 FU 3251 0 x
