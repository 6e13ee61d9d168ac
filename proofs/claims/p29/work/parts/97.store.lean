/-! The law's store: a finite matter, its thousand rounds apart. -/
def s_L_410 (g : Option Int32) (x : ClC) : Option (Int32) :=
  Option.bind (f_X5_fullness x) fun z46 =>
  if (Op.cmpValue (FP.dcmp z46 FP.dconst1) .l) = 0 then
    rt (f_X5_room 1 1 x) <| fun z47 =>
    if z47 = 0 then
      Option.bind (f_L_refused x) fun z48 =>
      if z48.1 = 0 then
        some 0
      else
        Option.bind (f_X5_fire z48.2) fun z50 =>
        if z50.1 = 9911 then
          rt (f_X5_count 0 z50.2) <| fun z52 =>
          if z52 = 16 then
            rt (f_X5_thing 12000 3 z50.2) <| fun z53 =>
            if z53 = 2 then
              g
            else
              some 0
          else
            some 0
        else
          some 0
    else
      some 0
  else
    some 0
def s_L_319 (g : Option Int32) (x : ClC) : Option (Int32) :=
  Option.bind (f_L_call 0 1 3 0 x) fun z32 =>
  if z32.1 = (-13) then
    Option.bind (f_L_call 0 1 5 0 z32.2) fun z34 =>
    if z34.1 = (-12) then
      Option.bind (f_L_call 1 0 3 0 z34.2) fun z36 =>
      if z36.1 = (-13) then
        rt (f_X5_ifFired 1 1 z36.2) <| fun z38 =>
        if z38.1 = 16 then
          rt (f_X5_put 1 1 1 z38.2) <| fun z40 =>
          if z40.1 = 62000 then
            rt (f_X5_put 1 1 1 z40.2) <| fun z42 =>
            if z42.1 = 63000 then
              rt (f_X5_gap 0 z42.2) <| fun z44 =>
              if z44 = 0 then
                rt (f_X5_gap 1 z42.2) <| fun z45 =>
                if z45 = (-1) then
                  s_L_410 g z42.2
                else
                  some 0
              else
                some 0
            else
              some 0
          else
            some 0
        else
          some 0
      else
        some 0
    else
      some 0
  else
    some 0
def s_L_208 (g : Option Int32) : Nat → Int32 → ClC → Option (Int32)
  | 0, _, _ => none
  | fu + 1, v1, x =>
    if 11 ≤ v1 then
      rt (f_X5_count 2 x) <| fun z25 =>
      if z25 = 64 then
        rt (f_X5_count 3 x) <| fun z26 =>
        if z26 = 2 then
          rt (f_X5_begins 4 x) <| fun z27 =>
          if z27 = (-1) then
            rt (f_X5_begins 3 x) <| fun z28 =>
            if z28 = (-1) then
              rt (f_X5_begins 2 x) <| fun z29 =>
              if z29 = 62 then
                s_L_319 g x
              else
                some 0
            else
              some 0
          else
            some 0
        else
          some 0
      else
        some 0
    else
      rt (f_X5_put 900 4 0 x) <| fun z30 =>
      if v1 = 0 then
        f_L_store_261 (s_L_208 g fu) v1 z30.1 15001 z30.2
      else
        if 3 ≤ v1 then
          f_L_store_261 (s_L_208 g fu) v1 z30.1 (30000 + (4000 * (v1 - 3))) z30.2
        else
          f_L_store_261 (s_L_208 g fu) v1 z30.1 (18000 + (4000 * v1)) z30.2
def s_L_182 (g : Option Int32) (x : ClC) : Option (Int32) :=
  rt (f_X5_thing 19000 1 x) <| fun z23 =>
  if z23 = 3 then
    rt (f_X5_count 3 x) <| fun z24 =>
    if z24 = 14 then
      s_L_208 g FU 0 x
    else
      some 0
  else
    some 0
def s_L_104 (g : Option Int32) (x : ClC) : Option (Int32) :=
  rt (f_X5_begins 1 x) <| fun z12 =>
  if z12 = 19 then
    rt (f_X5_goOn 1 x) <| fun z13 =>
    if z13.1 = 0 then
      rt (f_X5_ifFired 9 2 z13.2) <| fun z15 =>
      if z15.1 = 64 then
        Option.bind (f_X5_fire z15.2) fun z17 =>
        if z17.1 = 10 then
          Option.bind (f_X5_refusal 15000 z17.2) fun z19 =>
          if z19 = 2 then
            rt (f_X5_at 4 z17.2) <| fun z20 =>
            if z20 = 19000 then
              rt (f_X5_count 0 z17.2) <| fun z21 =>
              if z21 = 5 then
                rt (f_X5_count 1 z17.2) <| fun z22 =>
                if z22 = 0 then
                  s_L_182 g z17.2
                else
                  some 0
              else
                some 0
            else
              some 0
          else
            some 0
        else
          some 0
      else
        some 0
    else
      some 0
  else
    some 0
def s_L_10 (g : Option Int32) : Nat → Int32 → ClC → Option (Int32)
  | 0, _, _ => none
  | fu + 1, v1, x =>
    if 3 ≤ v1 then
      rt (f_X5_put 3 3 2 x) <| fun z2 =>
      if z2.1 = 12000 then
        rt (f_X5_begins 1 z2.2) <| fun z4 =>
        if z4 = 15 then
          rt (f_X5_begins 4 z2.2) <| fun z5 =>
          if z5 = 15 then
            rt (f_X5_count 2 z2.2) <| fun z6 =>
            if z6 = 16 then
              rt (f_X5_put 4 4 1 z2.2) <| fun z7 =>
              if z7.1 = 15000 then
                rt (f_X5_count 2 z7.2) <| fun z9 =>
                if z9 = 32 then
                  s_L_104 g z7.2
                else
                  some 0
              else
                some 0
            else
              some 0
          else
            some 0
        else
          some 0
      else
        some 0
    else
      rt (f_X5_put v1 4 0 x) <| fun z10 =>
      if z10.1 = (4000 * v1) then
        s_L_10 g fu (v1 + 1) z10.2
      else
        some 0
def s_L_store (g : Option Int32) : Option (Int32) :=
  Option.bind f_X5_init fun z1 =>
  s_L_10 g FU 0 z1
abbrev sG : Option Int32 := Option.bind f_X5_init fun z => f_L_store_481 FU 0 z
theorem sg_410 : f_L_store_410 = s_L_410 sG := rfl
theorem sg_319 : f_L_store_319 = s_L_319 sG := by
  funext x
  unfold f_L_store_319 s_L_319
  rw [sg_410]
theorem sg_208 : ∀ fu, f_L_store_208 fu = s_L_208 sG fu := by
  intro fu
  induction fu with
  | zero => funext v x; rfl
  | succ fu ih =>
    funext v x
    rw [f_L_store_208.eq_2, s_L_208.eq_2, ih, sg_319]
theorem sg_182 : f_L_store_182 = s_L_182 sG := by
  funext x
  unfold f_L_store_182 s_L_182
  rw [sg_208]
theorem sg_104 : f_L_store_104 = s_L_104 sG := by
  funext x
  unfold f_L_store_104 s_L_104
  rw [sg_182]
theorem sg_10 : ∀ fu, f_L_store_10 fu = s_L_10 sG fu := by
  intro fu
  induction fu with
  | zero => funext v x; rfl
  | succ fu ih =>
    funext v x
    rw [f_L_store_10.eq_2, s_L_10.eq_2, ih, sg_104]
theorem sg_store : f_L_store = s_L_store sG := by
  unfold f_L_store s_L_store
  rw [sg_10]
theorem s_store_true : s_L_store (some 1) = some 1 := by decide +kernel
theorem store_true : f_L_store = some 1 := by
  rw [sg_store, show sG = some 1 from rounds_true]
  exact s_store_true
