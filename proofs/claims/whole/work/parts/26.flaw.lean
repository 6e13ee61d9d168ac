def f_L_law_156 (L : Nat) (xs : Fn) (k23 : Int32 → ClC → MdC → FnL → Option (Int32)) (v4 : Int32) (x : ClC) (o : MdC) (w : FnL) : Option (Int32) :=
  gi (v4 + 1) L <|
  gi (v4 + 2) L <|
  gi (v4 + 3) L <|
  Option.bind (f_L_put (xs (v4 + 1).toNatClampNeg) (xs (v4 + 2).toNatClampNeg) (xs (v4 + 3).toNatClampNeg) x w) fun z91 =>
  gi (v4 + 1) L <|
  gi (v4 + 2) L <|
  gi (v4 + 3) L <|
  Option.bind (f_X6_put (xs (v4 + 1).toNatClampNeg) (xs (v4 + 2).toNatClampNeg) (xs (v4 + 3).toNatClampNeg) o) fun z93 =>
  Option.bind (f_X6_thrown z93.2) fun z94 =>
  if z94 = z91.1 then
    if z91.1 = 0 then
      gi 0 1 <|
      if (lg_cmp (z91.2.2 (0 : Int32).toNatClampNeg) z93.1.toInt64) = 0 then
        k23 (v4 + 5) z91.2.1 z93.2 z91.2.2
      else
        some 0
    else
      k23 (v4 + 5) z91.2.1 z93.2 z91.2.2
  else
    some 0
def f_L_law_236 (L : Nat) (xs : Fn) (k23 : Int32 → ClC → MdC → FnL → Option (Int32)) (v4 : Int32) (x : ClC) (o : MdC) (w : FnL) : Option (Int32) :=
  gi (v4 + 1) L <|
  gi (v4 + 2) L <|
  gi (v4 + 3) L <|
  gi (v4 + 4) L <|
  Option.bind (f_L_putBehind (xs (v4 + 1).toNatClampNeg) (xs (v4 + 2).toNatClampNeg) (xs (v4 + 3).toNatClampNeg) (xs (v4 + 4).toNatClampNeg) x w) fun z87 =>
  gi (v4 + 1) L <|
  gi (v4 + 2) L <|
  gi (v4 + 3) L <|
  gi (v4 + 4) L <|
  Option.bind (f_X6_putBehind (xs (v4 + 1).toNatClampNeg) (xs (v4 + 2).toNatClampNeg) (xs (v4 + 3).toNatClampNeg) (xs (v4 + 4).toNatClampNeg) o) fun z89 =>
  Option.bind (f_X6_thrown z89.2) fun z90 =>
  if z90 = z87.1 then
    if z87.1 = 0 then
      gi 0 1 <|
      if (lg_cmp (z87.2.2 (0 : Int32).toNatClampNeg) z89.1.toInt64) = 0 then
        k23 (v4 + 5) z87.2.1 z89.2 z87.2.2
      else
        some 0
    else
      k23 (v4 + 5) z87.2.1 z89.2 z87.2.2
  else
    some 0
def f_L_law_328 (L : Nat) (xs : Fn) (k23 : Int32 → ClC → MdC → FnL → Option (Int32)) (v4 : Int32) (x : ClC) (o : MdC) (w : FnL) : Option (Int32) :=
  gi (v4 + 1) L <|
  Option.bind (f_L_remove (xs (v4 + 1).toNatClampNeg) x w) fun z83 =>
  gi (v4 + 1) L <|
  Option.bind (f_X6_remove (xs (v4 + 1).toNatClampNeg) o) fun z85 =>
  Option.bind (f_X6_thrown z85.2) fun z86 =>
  if z86 = z83.1 then
    if z83.1 = 0 then
      gi 0 1 <|
      if (lg_cmp (z83.2.2 (0 : Int32).toNatClampNeg) z85.1.toInt64) = 0 then
        k23 (v4 + 5) z83.2.1 z85.2 z83.2.2
      else
        some 0
    else
      k23 (v4 + 5) z83.2.1 z85.2 z83.2.2
  else
    some 0
def f_L_law_384 (L : Nat) (xs : Fn) (k23 : Int32 → ClC → MdC → FnL → Option (Int32)) (v4 : Int32) (x : ClC) (o : MdC) (w : FnL) : Option (Int32) :=
  gi (v4 + 1) L <|
  gi (v4 + 2) L <|
  Option.bind (f_L_change (xs (v4 + 1).toNatClampNeg) (xs (v4 + 2).toNatClampNeg) x w) fun z79 =>
  gi (v4 + 1) L <|
  gi (v4 + 2) L <|
  Option.bind (f_X6_change (xs (v4 + 1).toNatClampNeg) (xs (v4 + 2).toNatClampNeg) o) fun z81 =>
  Option.bind (f_X6_thrown z81.2) fun z82 =>
  if z82 = z79.1 then
    if z79.1 = 0 then
      gi 0 1 <|
      if (lg_cmp (z79.2.2 (0 : Int32).toNatClampNeg) z81.1.toInt64) = 0 then
        k23 (v4 + 5) z79.2.1 z81.2 z79.2.2
      else
        some 0
    else
      k23 (v4 + 5) z79.2.1 z81.2 z79.2.2
  else
    some 0
def f_L_law_452 (L : Nat) (xs : Fn) (k23 : Int32 → ClC → MdC → FnL → Option (Int32)) (v4 : Int32) (x : ClC) (o : MdC) (w : FnL) : Option (Int32) :=
  gi (v4 + 1) L <|
  Option.bind (f_L_restart (xs (v4 + 1).toNatClampNeg) x w) fun z75 =>
  gi (v4 + 1) L <|
  Option.bind (f_X6_restart (xs (v4 + 1).toNatClampNeg) o) fun z77 =>
  Option.bind (f_X6_thrown z77.2) fun z78 =>
  if z78 = z75.1 then
    if z75.1 = 0 then
      gi 0 1 <|
      if (lg_cmp (z75.2.2 (0 : Int32).toNatClampNeg) z77.1.toInt64) = 0 then
        k23 (v4 + 5) z75.2.1 z77.2 z75.2.2
      else
        some 0
    else
      k23 (v4 + 5) z75.2.1 z77.2 z75.2.2
  else
    some 0
def f_L_law_508 (L : Nat) (xs : Fn) (k23 : Int32 → ClC → MdC → FnL → Option (Int32)) (v4 : Int32) (x : ClC) (o : MdC) (w : FnL) : Option (Int32) :=
  gi (v4 + 1) L <|
  Option.bind (f_L_goOn (xs (v4 + 1).toNatClampNeg) x w) fun z71 =>
  gi (v4 + 1) L <|
  Option.bind (f_X6_goOn (xs (v4 + 1).toNatClampNeg) o) fun z73 =>
  Option.bind (f_X6_thrown z73.2) fun z74 =>
  if z74 = z71.1 then
    if z71.1 = 0 then
      gi 0 1 <|
      if (lg_cmp (z71.2.2 (0 : Int32).toNatClampNeg) z73.1.toInt64) = 0 then
        k23 (v4 + 5) z71.2.1 z73.2 z71.2.2
      else
        some 0
    else
      k23 (v4 + 5) z71.2.1 z73.2 z71.2.2
  else
    some 0
def f_L_law_564 (L : Nat) (xs : Fn) (k23 : Int32 → ClC → MdC → FnL → Option (Int32)) (v4 : Int32) (x : ClC) (o : MdC) (w : FnL) : Option (Int32) :=
  gi (v4 + 1) L <|
  Option.bind (f_L_take (xs (v4 + 1).toNatClampNeg) x w) fun z67 =>
  gi (v4 + 1) L <|
  Option.bind (f_X6_take (xs (v4 + 1).toNatClampNeg) o) fun z69 =>
  Option.bind (f_X6_thrown z69.2) fun z70 =>
  if z70 = z67.1 then
    if z67.1 = 0 then
      gi 0 1 <|
      if (lg_cmp (z67.2.2 (0 : Int32).toNatClampNeg) z69.1.toInt64) = 0 then
        k23 (v4 + 5) z67.2.1 z69.2 z67.2.2
      else
        some 0
    else
      k23 (v4 + 5) z67.2.1 z69.2 z67.2.2
  else
    some 0
def f_L_law_620 (L : Nat) (xs : Fn) (k23 : Int32 → ClC → MdC → FnL → Option (Int32)) (v4 : Int32) (x : ClC) (o : MdC) (w : FnL) : Option (Int32) :=
  Option.bind (f_X5_fire x) fun z64 =>
  Option.bind (f_X6_fire o) fun z66 =>
  if z64.1 = z66.1 then
    k23 (v4 + 5) z64.2 z66.2 w
  else
    some 0
def f_L_law_633 (L : Nat) (xs : Fn) (k23 : Int32 → ClC → MdC → FnL → Option (Int32)) (v4 : Int32) (x : ClC) (o : MdC) (w : FnL) : Option (Int32) :=
  Option.bind (f_X5_together x) fun z61 =>
  Option.bind (f_X6_together o) fun z63 =>
  if z61.1 = z63.1 then
    k23 (v4 + 5) z61.2 z63.2 w
  else
    some 0
def f_L_law_646 (L : Nat) (xs : Fn) (k23 : Int32 → ClC → MdC → FnL → Option (Int32)) (v4 : Int32) (x : ClC) (o : MdC) (w : FnL) : Option (Int32) :=
  gi (v4 + 1) L <|
  Option.bind (f_L_append (xs (v4 + 1).toNatClampNeg) x w) fun z57 =>
  gi (v4 + 1) L <|
  Option.bind (f_X6_append (xs (v4 + 1).toNatClampNeg) o) fun z59 =>
  Option.bind (f_X6_thrown z59.2) fun z60 =>
  if z60 = z57.1 then
    if z57.1 = 0 then
      gi 0 1 <|
      if (lg_cmp (z57.2.2 (0 : Int32).toNatClampNeg) z59.1.toInt64) = 0 then
        k23 (v4 + 5) z57.2.1 z59.2 z57.2.2
      else
        some 0
    else
      k23 (v4 + 5) z57.2.1 z59.2 z57.2.2
  else
    some 0
def f_L_law_702 (L : Nat) (xs : Fn) (k23 : Int32 → ClC → MdC → FnL → Option (Int32)) (v4 : Int32) (x : ClC) (o : MdC) (w : FnL) : Option (Int32) :=
  Option.bind (f_X5_clearBuffer x) fun z54 =>
  Option.bind (f_X6_clearBuffer o) fun z56 =>
  if z54.1 = z56.1 then
    k23 (v4 + 5) z54.2 z56.2 w
  else
    some 0
def f_L_law_715 (L : Nat) (xs : Fn) (k23 : Int32 → ClC → MdC → FnL → Option (Int32)) (v4 : Int32) (x : ClC) (o : MdC) (w : FnL) : Option (Int32) :=
  Option.bind (f_X5_firstError x) fun z52 =>
  Option.bind (f_X6_firstError o) fun z53 =>
  if z52 = z53.1 then
    k23 (v4 + 5) x z53.2 w
  else
    some 0
def f_L_law_728 (L : Nat) (xs : Fn) (k23 : Int32 → ClC → MdC → FnL → Option (Int32)) (v4 : Int32) (x : ClC) (o : MdC) (w : FnL) : Option (Int32) :=
  Option.bind (f_L_putAll x w) fun z48 =>
  Option.bind (f_X6_putAll o) fun z50 =>
  Option.bind (f_X6_thrown z50.2) fun z51 =>
  if z51 = z48.1 then
    if z48.1 = 0 then
      gi 0 1 <|
      if (lg_cmp (z48.2.2 (0 : Int32).toNatClampNeg) z50.1.toInt64) = 0 then
        k23 (v4 + 5) z48.2.1 z50.2 z48.2.2
      else
        some 0
    else
      k23 (v4 + 5) z48.2.1 z50.2 z48.2.2
  else
    some 0
def f_L_law_772 (L : Nat) (xs : Fn) (k23 : Int32 → ClC → MdC → FnL → Option (Int32)) (v4 : Int32) (x : ClC) (o : MdC) (w : FnL) : Option (Int32) :=
  Option.bind (f_L_undo x w) fun z44 =>
  Option.bind (f_X6_undo o) fun z46 =>
  Option.bind (f_X6_thrown z46.2) fun z47 =>
  if z47 = z44.1 then
    if z44.1 = 0 then
      gi 0 1 <|
      if (lg_cmp (z44.2.2 (0 : Int32).toNatClampNeg) z46.1.toInt64) = 0 then
        k23 (v4 + 5) z44.2.1 z46.2 z44.2.2
      else
        some 0
    else
      k23 (v4 + 5) z44.2.1 z46.2 z44.2.2
  else
    some 0
def f_L_law_816 (L : Nat) (xs : Fn) (k23 : Int32 → ClC → MdC → FnL → Option (Int32)) (v4 : Int32) (x : ClC) (o : MdC) (w : FnL) : Option (Int32) :=
  gi (v4 + 1) L <|
  Option.bind (f_X5_refusal (xs (v4 + 1).toNatClampNeg) x) fun z42 =>
  gi (v4 + 1) L <|
  Option.bind (f_X6_refusal (xs (v4 + 1).toNatClampNeg) o) fun z43 =>
  if z42 = z43.1 then
    k23 (v4 + 5) x z43.2 w
  else
    some 0
def f_L_law_841 (L : Nat) (xs : Fn) (k23 : Int32 → ClC → MdC → FnL → Option (Int32)) (v4 : Int32) (x : ClC) (o : MdC) (w : FnL) : Option (Int32) :=
  gi (v4 + 1) L <|
  gi (v4 + 2) L <|
  Option.bind (f_L_thing (xs (v4 + 1).toNatClampNeg) (xs (v4 + 2).toNatClampNeg) x w) fun z38 =>
  gi (v4 + 1) L <|
  gi (v4 + 2) L <|
  Option.bind (f_X6_thing (xs (v4 + 1).toNatClampNeg) (xs (v4 + 2).toNatClampNeg) o) fun z40 =>
  Option.bind (f_X6_thrown z40.2) fun z41 =>
  if z41 = z38.1 then
    if z38.1 = 0 then
      gi 0 1 <|
      if (lg_cmp (z38.2 (0 : Int32).toNatClampNeg) z40.1.toInt64) = 0 then
        k23 (v4 + 5) x z40.2 z38.2
      else
        some 0
    else
      k23 (v4 + 5) x z40.2 z38.2
  else
    some 0
def f_L_law_909 (L : Nat) (xs : Fn) (k23 : Int32 → ClC → MdC → FnL → Option (Int32)) (v4 : Int32) (x : ClC) (o : MdC) (w : FnL) : Option (Int32) :=
  gi (v4 + 1) L <|
  Option.bind (f_L_at (xs (v4 + 1).toNatClampNeg) x w) fun z34 =>
  gi (v4 + 1) L <|
  Option.bind (f_X6_at (xs (v4 + 1).toNatClampNeg) o) fun z36 =>
  Option.bind (f_X6_thrown z36.2) fun z37 =>
  if z37 = z34.1 then
    if z34.1 = 0 then
      gi 0 1 <|
      if (lg_cmp (z34.2 (0 : Int32).toNatClampNeg) z36.1.toInt64) = 0 then
        k23 (v4 + 5) x z36.2 z34.2
      else
        some 0
    else
      k23 (v4 + 5) x z36.2 z34.2
  else
    some 0
def f_L_law_965 (L : Nat) (xs : Fn) (k23 : Int32 → ClC → MdC → FnL → Option (Int32)) (v4 : Int32) (x : ClC) (o : MdC) (w : FnL) : Option (Int32) :=
  gi (v4 + 1) L <|
  gi (v4 + 2) L <|
  Option.bind (f_L_cell (xs (v4 + 1).toNatClampNeg) (xs (v4 + 2).toNatClampNeg) x w) fun z30 =>
  gi (v4 + 1) L <|
  gi (v4 + 2) L <|
  Option.bind (f_X6_cell (xs (v4 + 1).toNatClampNeg) (xs (v4 + 2).toNatClampNeg) o) fun z32 =>
  Option.bind (f_X6_thrown z32.2) fun z33 =>
  if z33 = z30.1 then
    if z30.1 = 0 then
      gi 0 1 <|
      if (lg_cmp (z30.2 (0 : Int32).toNatClampNeg) z32.1.toInt64) = 0 then
        k23 (v4 + 5) x z32.2 z30.2
      else
        some 0
    else
      k23 (v4 + 5) x z32.2 z30.2
  else
    some 0
def f_L_law_1033 (L : Nat) (xs : Fn) (k23 : Int32 → ClC → MdC → FnL → Option (Int32)) (v4 : Int32) (x : ClC) (o : MdC) (w : FnL) : Option (Int32) :=
  gi (v4 + 1) L <|
  gi (v4 + 2) L <|
  Option.bind (f_L_walker (xs (v4 + 1).toNatClampNeg) (xs (v4 + 2).toNatClampNeg) x w) fun z26 =>
  gi (v4 + 1) L <|
  gi (v4 + 2) L <|
  Option.bind (f_X6_walker (xs (v4 + 1).toNatClampNeg) (xs (v4 + 2).toNatClampNeg) o) fun z28 =>
  Option.bind (f_X6_thrown z28.2) fun z29 =>
  if z29 = z26.1 then
    if z26.1 = 0 then
      gi 0 1 <|
      if (lg_cmp (z26.2 (0 : Int32).toNatClampNeg) z28.1.toInt64) = 0 then
        k23 (v4 + 5) x z28.2 z26.2
      else
        some 0
    else
      k23 (v4 + 5) x z28.2 z26.2
  else
    some 0
def f_L_law_1101 (L : Nat) (xs : Fn) (k23 : Int32 → ClC → MdC → FnL → Option (Int32)) (v4 : Int32) (x : ClC) (o : MdC) (w : FnL) : Option (Int32) :=
  gi (v4 + 1) L <|
  Option.bind (f_L_count (xs (v4 + 1).toNatClampNeg) x w) fun z22 =>
  gi (v4 + 1) L <|
  Option.bind (f_X6_count (xs (v4 + 1).toNatClampNeg) o) fun z24 =>
  Option.bind (f_X6_thrown z24.2) fun z25 =>
  if z25 = z22.1 then
    if z22.1 = 0 then
      gi 0 1 <|
      if (lg_cmp (z22.2 (0 : Int32).toNatClampNeg) z24.1.toInt64) = 0 then
        k23 (v4 + 5) x z24.2 z22.2
      else
        some 0
    else
      k23 (v4 + 5) x z24.2 z22.2
  else
    some 0
def f_L_law_1157 (L : Nat) (xs : Fn) (k23 : Int32 → ClC → MdC → FnL → Option (Int32)) (v4 : Int32) (x : ClC) (o : MdC) (w : FnL) : Option (Int32) :=
  gi (v4 + 1) L <|
  Option.bind (f_L_begins (xs (v4 + 1).toNatClampNeg) x w) fun z18 =>
  gi (v4 + 1) L <|
  Option.bind (f_X6_begins (xs (v4 + 1).toNatClampNeg) o) fun z20 =>
  Option.bind (f_X6_thrown z20.2) fun z21 =>
  if z21 = z18.1 then
    if z18.1 = 0 then
      gi 0 1 <|
      if (lg_cmp (z18.2 (0 : Int32).toNatClampNeg) z20.1.toInt64) = 0 then
        k23 (v4 + 5) x z20.2 z18.2
      else
        some 0
    else
      k23 (v4 + 5) x z20.2 z18.2
  else
    some 0
def f_L_law_1213 (L : Nat) (xs : Fn) (k23 : Int32 → ClC → MdC → FnL → Option (Int32)) (v4 : Int32) (x : ClC) (o : MdC) (w : FnL) : Option (Int32) :=
  gi (v4 + 1) L <|
  Option.bind (f_L_gap (xs (v4 + 1).toNatClampNeg) x w) fun z14 =>
  gi (v4 + 1) L <|
  Option.bind (f_X6_gap (xs (v4 + 1).toNatClampNeg) o) fun z16 =>
  Option.bind (f_X6_thrown z16.2) fun z17 =>
  if z17 = z14.1 then
    if z14.1 = 0 then
      gi 0 1 <|
      if (lg_cmp (z14.2 (0 : Int32).toNatClampNeg) z16.1.toInt64) = 0 then
        k23 (v4 + 5) x z16.2 z14.2
      else
        some 0
    else
      k23 (v4 + 5) x z16.2 z14.2
  else
    some 0
def f_L_law_1269 (L : Nat) (xs : Fn) (k23 : Int32 → ClC → MdC → FnL → Option (Int32)) (v4 : Int32) (x : ClC) (o : MdC) (w : FnL) : Option (Int32) :=
  gi (v4 + 1) L <|
  gi (v4 + 2) L <|
  Option.bind (f_L_ifFired (xs (v4 + 1).toNatClampNeg) (xs (v4 + 2).toNatClampNeg) x w) fun z10 =>
  gi (v4 + 1) L <|
  gi (v4 + 2) L <|
  Option.bind (f_X6_ifFired (xs (v4 + 1).toNatClampNeg) (xs (v4 + 2).toNatClampNeg) o) fun z12 =>
  Option.bind (f_X6_thrown z12.2) fun z13 =>
  if z13 = z10.1 then
    if z10.1 = 0 then
      gi 0 1 <|
      if (lg_cmp (z10.2.2 (0 : Int32).toNatClampNeg) z12.1.toInt64) = 0 then
        k23 (v4 + 5) z10.2.1 z12.2 z10.2.2
      else
        some 0
    else
      k23 (v4 + 5) z10.2.1 z12.2 z10.2.2
  else
    some 0
def f_L_law_1385 (L : Nat) (xs : Fn) (k23 : Int32 → ClC → MdC → FnL → Option (Int32)) (v4 : Int32) (v5 : Int32) (t1 : Int32) (t2 : Int32) (x : ClC) (o : MdC) (w : FnL) : Option (Int32) :=
  Option.bind (f_X6_room t1 t2 o) fun z8 =>
  Option.bind (f_X6_thrown z8.2) fun z9 =>
  if z9 = v5 then
    if v5 = 0 then
      gi 0 1 <|
      if (lg_cmp (w (0 : Int32).toNatClampNeg) z8.1.toInt64) = 0 then
        k23 (v4 + 5) x z8.2 w
      else
        some 0
    else
      k23 (v4 + 5) x z8.2 w
  else
    some 0
def f_L_law_1358 (L : Nat) (xs : Fn) (k23 : Int32 → ClC → MdC → FnL → Option (Int32)) (v4 : Int32) (t1 : Int32) (t2 : Int32) (x : ClC) (o : MdC) (w : FnL) : Option (Int32) :=
  Option.bind (f_L_room t1 t2 x w) fun z6 =>
  gi (v4 + 1) L <|
  gi (v4 + 2) L <|
  if (xs (v4 + 2).toNatClampNeg) = 0 then
    f_L_law_1385 L xs k23 v4 z6.1 (xs (v4 + 1).toNatClampNeg) 0 x o z6.2
  else
    f_L_law_1385 L xs k23 v4 z6.1 (xs (v4 + 1).toNatClampNeg) 1 x o z6.2
def f_L_law_1337 (L : Nat) (xs : Fn) (k23 : Int32 → ClC → MdC → FnL → Option (Int32)) (v4 : Int32) (x : ClC) (o : MdC) (w : FnL) : Option (Int32) :=
  gi (v4 + 1) L <|
  gi (v4 + 2) L <|
  if (xs (v4 + 2).toNatClampNeg) = 0 then
    f_L_law_1358 L xs k23 v4 (xs (v4 + 1).toNatClampNeg) 0 x o w
  else
    f_L_law_1358 L xs k23 v4 (xs (v4 + 1).toNatClampNeg) 1 x o w
def f_L_law_1421 (L : Nat) (xs : Fn) (k23 : Int32 → ClC → MdC → FnL → Option (Int32)) (v4 : Int32) (x : ClC) (o : MdC) (w : FnL) : Option (Int32) :=
  Option.bind (f_X5_fullness x) fun z4 =>
  Option.bind (f_X6_fullness o) fun z5 =>
  if (Op.cmpValue (FP.dcmp z4 z5.1) .l) = 0 then
    k23 (v4 + 5) x z5.2 w
  else
    if (Op.cmpValue (FP.dcmp z4 z4) .l) = 0 then
      some 0
    else
      if (Op.cmpValue (FP.dcmp z5.1 z5.1) .l) = 0 then
        some 0
      else
        k23 (v4 + 5) x z5.2 w
def f_L_law_1462 (L : Nat) (xs : Fn) (k23 : Int32 → ClC → MdC → FnL → Option (Int32)) (v4 : Int32) (x : ClC) (o : MdC) (w : FnL) : Option (Int32) :=
  Option.bind (f_X5_digest x) fun z1 =>
  Option.bind (f_X6_digest o) fun z3 =>
  if (lg_cmp z1.1 z3.1) = 0 then
    k23 (v4 + 5) z1.2 z3.2 w
  else
    some 0
def f_L_law_23 (L : Nat) (xs : Fn) : Nat → Int32 → ClC → MdC → FnL → Option (Int32)
  | 0, _, _, _, _ => none
  | fu + 1, v4, x, o, w =>
    if ((Int32.ofNat L) - 5) < v4 then
      some 1
    else
      gi v4 L <|
      if ((xs v4.toNatClampNeg) &&& 31) = 0 then
        f_L_law_156 L xs (f_L_law_23 L xs fu) v4 x o w
      else
        if ((xs v4.toNatClampNeg) &&& 31) = 1 then
          f_L_law_236 L xs (f_L_law_23 L xs fu) v4 x o w
        else
          if ((xs v4.toNatClampNeg) &&& 31) = 2 then
            f_L_law_328 L xs (f_L_law_23 L xs fu) v4 x o w
          else
            if ((xs v4.toNatClampNeg) &&& 31) = 3 then
              f_L_law_384 L xs (f_L_law_23 L xs fu) v4 x o w
            else
              if ((xs v4.toNatClampNeg) &&& 31) = 4 then
                f_L_law_452 L xs (f_L_law_23 L xs fu) v4 x o w
              else
                if ((xs v4.toNatClampNeg) &&& 31) = 5 then
                  f_L_law_508 L xs (f_L_law_23 L xs fu) v4 x o w
                else
                  if ((xs v4.toNatClampNeg) &&& 31) = 6 then
                    f_L_law_564 L xs (f_L_law_23 L xs fu) v4 x o w
                  else
                    if ((xs v4.toNatClampNeg) &&& 31) = 7 then
                      f_L_law_620 L xs (f_L_law_23 L xs fu) v4 x o w
                    else
                      if ((xs v4.toNatClampNeg) &&& 31) = 8 then
                        f_L_law_633 L xs (f_L_law_23 L xs fu) v4 x o w
                      else
                        if ((xs v4.toNatClampNeg) &&& 31) = 9 then
                          f_L_law_646 L xs (f_L_law_23 L xs fu) v4 x o w
                        else
                          if ((xs v4.toNatClampNeg) &&& 31) = 10 then
                            f_L_law_702 L xs (f_L_law_23 L xs fu) v4 x o w
                          else
                            if ((xs v4.toNatClampNeg) &&& 31) = 11 then
                              f_L_law_715 L xs (f_L_law_23 L xs fu) v4 x o w
                            else
                              if ((xs v4.toNatClampNeg) &&& 31) = 12 then
                                f_L_law_728 L xs (f_L_law_23 L xs fu) v4 x o w
                              else
                                if ((xs v4.toNatClampNeg) &&& 31) = 13 then
                                  f_L_law_772 L xs (f_L_law_23 L xs fu) v4 x o w
                                else
                                  if ((xs v4.toNatClampNeg) &&& 31) = 14 then
                                    f_L_law_816 L xs (f_L_law_23 L xs fu) v4 x o w
                                  else
                                    if ((xs v4.toNatClampNeg) &&& 31) = 15 then
                                      f_L_law_841 L xs (f_L_law_23 L xs fu) v4 x o w
                                    else
                                      if ((xs v4.toNatClampNeg) &&& 31) = 16 then
                                        f_L_law_909 L xs (f_L_law_23 L xs fu) v4 x o w
                                      else
                                        if ((xs v4.toNatClampNeg) &&& 31) = 17 then
                                          f_L_law_965 L xs (f_L_law_23 L xs fu) v4 x o w
                                        else
                                          if ((xs v4.toNatClampNeg) &&& 31) = 18 then
                                            f_L_law_1033 L xs (f_L_law_23 L xs fu) v4 x o w
                                          else
                                            if ((xs v4.toNatClampNeg) &&& 31) = 19 then
                                              f_L_law_1101 L xs (f_L_law_23 L xs fu) v4 x o w
                                            else
                                              if ((xs v4.toNatClampNeg) &&& 31) = 20 then
                                                f_L_law_1157 L xs (f_L_law_23 L xs fu) v4 x o w
                                              else
                                                if ((xs v4.toNatClampNeg) &&& 31) = 21 then
                                                  f_L_law_1213 L xs (f_L_law_23 L xs fu) v4 x o w
                                                else
                                                  if ((xs v4.toNatClampNeg) &&& 31) = 22 then
                                                    f_L_law_1269 L xs (f_L_law_23 L xs fu) v4 x o w
                                                  else
                                                    if ((xs v4.toNatClampNeg) &&& 31) = 23 then
                                                      f_L_law_1337 L xs (f_L_law_23 L xs fu) v4 x o w
                                                    else
                                                      if ((xs v4.toNatClampNeg) &&& 31) = 24 then
                                                        f_L_law_1421 L xs (f_L_law_23 L xs fu) v4 x o w
                                                      else
                                                        if ((xs v4.toNatClampNeg) &&& 31) = 25 then
                                                          f_L_law_1462 L xs (f_L_law_23 L xs fu) v4 x o w
                                                        else
                                                          f_L_law_23 L xs fu (v4 + 5) x o w
def f_law (L : Nat) (xs : Fn) : Option Int32 :=
  Option.bind f_X5_init fun z1 =>
  Option.bind f_X6_init fun z2 =>
  f_L_law_23 L xs 600 0 z1 z2 (fun _ => 0)
