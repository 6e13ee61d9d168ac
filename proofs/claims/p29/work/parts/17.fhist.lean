/-- the world of a History: its array holds the states, whose addresses the rows ad name -/
abbrev wHi (I O : ClassId) (hh ha : Nat) (ad : Nat → Nat → Nat) (x : HiC) : va_W := (hh, .inr (0, [.ref ha, .int x.2])) :: (ha, .inl (O, 6, .inr (.inr (.inr (.inr (fun i => some (ad i 0))))))) :: (wSt I (ad 0) (x.1 0) ++ (wSt I (ad 1) (x.1 1) ++ (wSt I (ad 2) (x.1 2) ++ (wSt I (ad 3) (x.1 3) ++ (wSt I (ad 4) (x.1 4) ++ wSt I (ad 5) (x.1 5))))))
abbrev wCl (I : ClassId) (h0 : Nat) (n t : Nat → Nat) (b0 b1 hh : Nat) (x : ClC) : va_W := (h0, .inr (5, [.ref (n 0), .ref (t 0), .ref hh, .ref b0])) :: (wSt I n x.1 ++ (wSt I t x.2.1 ++ wTx I b0 b1 x.2.2.2))
def f_X0_size (x : HiC) : Option Int32 := some x.2
def f_X0_dropOldest (x : HiC) : Option HiC := some (fun i => if i < 5 then x.1 (i + 1) else x.1 0, 5)
def f_X0_save_13 (x : HiC) (o : StC) : Option HiC :=
  if x.2 < 0 then
    some x
  else
    if x.2 < 6 then
      gi x.2 6 <|
      Option.bind (f_X3_copyFrom (x.1 x.2.toNatClampNeg) o) fun z1 =>
      some (fun i => if i = x.2.toNatClampNeg then z1 else x.1 i, x.2 + 1)
    else
      some x
def f_X0_save (x : HiC) (o : StC) : Option HiC :=
  if x.2 < 6 then
    f_X0_save_13 x o
  else
    Option.bind (f_X0_dropOldest x) fun z1 =>
    f_X0_save_13 z1 o
def f_X0_bringBack (x : HiC) (o : StC) : Option (HiC × StC) :=
  if x.2 < 1 then
    some (x, o)
  else
    if x.2 ≤ 6 then
      gi (x.2 - 1) 6 <|
      Option.bind (f_X3_copyFrom o (x.1 (x.2 - 1).toNatClampNeg)) fun z1 =>
      some ((x.1, x.2 - 1), z1)
    else
      some (x, o)
theorem vp_in6 {i : Int32} (h : vp_in i 6) : i = 0 ∨ i = 1 ∨ i = 2 ∨ i = 3 ∨ i = 4 ∨ i = 5 := by
  obtain ⟨j, hj, rfl⟩ := vp_in_of h (by decide)
  rcases (show j = 0 ∨ j = 1 ∨ j = 2 ∨ j = 3 ∨ j = 4 ∨ j = 5 by omega) with rfl | rfl | rfl | rfl | rfl | rfl <;> decide
/-- the addresses once the oldest is moved to the end -/
def adN (ad : Nat → Nat → Nat) : Nat → Nat → Nat := fun i => if i < 5 then ad (i + 1) else if i = 5 then ad 0 else ad i
