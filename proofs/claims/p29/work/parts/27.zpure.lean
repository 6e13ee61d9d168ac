def f_L_part (p0 : Int32) (p1 : Int32) : Option (Int32) :=
  gd p1 <|
  some ((p0 &&& 2147483647) - (p0 &&& 2147483647) / p1 * p1)
def f_L_drawn (L : Nat) (xs : Fn) (p1 : Int32) : Option (Int32) :=
  if (Int32.ofNat L) = 0 then
    some ((7919 * p1) + 3)
  else
    gd (Int32.ofNat L) <|
    gi (p1 - p1 / (Int32.ofNat L) * (Int32.ofNat L)) L <|
    gd (Int32.ofNat L) <|
    some ((((xs (p1 - p1 / (Int32.ofNat L) * (Int32.ofNat L)).toNatClampNeg) >>> ((p1 - p1 / 7 * 7) &&& 31)) ^^^ ((p1 / (Int32.ofNat L)) * 31)) ^^^ (p1 * 2654435))
def f_L_call (p1 : Int32) (p2 : Int32) (p3 : Int32) (p4 : Int32) (x : ClC) : Option (Int32 × ClC) :=
  if p1 = 0 then
    ct (f_X5_put p2 p3 p4 x) (fun z30 =>
      some (z30.1, z30.2))
    (fun ex =>
      if ex = 3 then
        some ((-11), x)
      else
        if ex = 1 then
          some ((-12), x)
        else
          if ex = 2 then
            some ((-13), x)
          else
            none)
  else
    if p1 = 1 then
      ct (f_X5_putBehind p2 5 p3 p4 x) (fun z28 =>
        some (z28.1, z28.2))
      (fun ex =>
        if ex = 3 then
          some ((-11), x)
        else
          if ex = 1 then
            some ((-12), x)
          else
            if ex = 2 then
              some ((-13), x)
            else
              none)
    else
      if p1 = 2 then
        ct (f_X5_remove p2 x) (fun z26 =>
          some (z26.1, z26.2))
        (fun ex =>
          if ex = 3 then
            some ((-11), x)
          else
            if ex = 1 then
              some ((-12), x)
            else
              if ex = 2 then
                some ((-13), x)
              else
                none)
      else
        if p1 = 3 then
          ct (f_X5_change p2 p3 x) (fun z24 =>
            some (z24.1, z24.2))
          (fun ex =>
            if ex = 3 then
              some ((-11), x)
            else
              if ex = 1 then
                some ((-12), x)
              else
                if ex = 2 then
                  some ((-13), x)
                else
                  none)
        else
          if p1 = 4 then
            ct (f_X5_restart p2 x) (fun z22 =>
              some (z22.1, z22.2))
            (fun ex =>
              if ex = 3 then
                some ((-11), x)
              else
                if ex = 1 then
                  some ((-12), x)
                else
                  if ex = 2 then
                    some ((-13), x)
                  else
                    none)
          else
            if p1 = 5 then
              ct (f_X5_goOn p2 x) (fun z20 =>
                some (z20.1, z20.2))
              (fun ex =>
                if ex = 3 then
                  some ((-11), x)
                else
                  if ex = 1 then
                    some ((-12), x)
                  else
                    if ex = 2 then
                      some ((-13), x)
                    else
                      none)
            else
              if p1 = 6 then
                ct (f_X5_take p2 x) (fun z18 =>
                  some (z18.1, z18.2))
                (fun ex =>
                  if ex = 3 then
                    some ((-11), x)
                  else
                    if ex = 1 then
                      some ((-12), x)
                    else
                      if ex = 2 then
                        some ((-13), x)
                      else
                        none)
              else
                if p1 = 7 then
                  ct (f_X5_append p2 x) (fun z16 =>
                    some (z16.1, z16.2))
                  (fun ex =>
                    if ex = 3 then
                      some ((-11), x)
                    else
                      if ex = 1 then
                        some ((-12), x)
                      else
                        if ex = 2 then
                          some ((-13), x)
                        else
                          none)
                else
                  if p1 = 8 then
                    ct (f_X5_putAll x) (fun z14 =>
                      some (z14.1, z14.2))
                    (fun ex =>
                      if ex = 3 then
                        some ((-11), x)
                      else
                        if ex = 1 then
                          some ((-12), x)
                        else
                          if ex = 2 then
                            some ((-13), x)
                          else
                            none)
                  else
                    if p1 = 9 then
                      ct (f_X5_undo x) (fun z12 =>
                        some (z12.1, z12.2))
                      (fun ex =>
                        if ex = 3 then
                          some ((-11), x)
                        else
                          if ex = 1 then
                            some ((-12), x)
                          else
                            if ex = 2 then
                              some ((-13), x)
                            else
                              none)
                    else
                      if p1 = 10 then
                        ct (f_X5_thing p2 p3 x) (fun z11 =>
                          some (z11, x))
                        (fun ex =>
                          if ex = 3 then
                            some ((-11), x)
                          else
                            if ex = 1 then
                              some ((-12), x)
                            else
                              if ex = 2 then
                                some ((-13), x)
                              else
                                none)
                      else
                        if p1 = 11 then
                          ct (f_X5_at p2 x) (fun z10 =>
                            some (z10, x))
                          (fun ex =>
                            if ex = 3 then
                              some ((-11), x)
                            else
                              if ex = 1 then
                                some ((-12), x)
                              else
                                if ex = 2 then
                                  some ((-13), x)
                                else
                                  none)
                        else
                          if p1 = 12 then
                            ct (f_X5_cell p2 p3 x) (fun z9 =>
                              some (z9, x))
                            (fun ex =>
                              if ex = 3 then
                                some ((-11), x)
                              else
                                if ex = 1 then
                                  some ((-12), x)
                                else
                                  if ex = 2 then
                                    some ((-13), x)
                                  else
                                    none)
                          else
                            if p1 = 13 then
                              ct (f_X5_walker p2 p3 x) (fun z8 =>
                                some (z8, x))
                              (fun ex =>
                                if ex = 3 then
                                  some ((-11), x)
                                else
                                  if ex = 1 then
                                    some ((-12), x)
                                  else
                                    if ex = 2 then
                                      some ((-13), x)
                                    else
                                      none)
                            else
                              if p1 = 14 then
                                ct (f_X5_count p2 x) (fun z7 =>
                                  some (z7, x))
                                (fun ex =>
                                  if ex = 3 then
                                    some ((-11), x)
                                  else
                                    if ex = 1 then
                                      some ((-12), x)
                                    else
                                      if ex = 2 then
                                        some ((-13), x)
                                      else
                                        none)
                              else
                                if p1 = 15 then
                                  ct (f_X5_begins p2 x) (fun z6 =>
                                    some (z6, x))
                                  (fun ex =>
                                    if ex = 3 then
                                      some ((-11), x)
                                    else
                                      if ex = 1 then
                                        some ((-12), x)
                                      else
                                        if ex = 2 then
                                          some ((-13), x)
                                        else
                                          none)
                                else
                                  if p1 = 16 then
                                    ct (f_X5_gap p2 x) (fun z5 =>
                                      some (z5, x))
                                    (fun ex =>
                                      if ex = 3 then
                                        some ((-11), x)
                                      else
                                        if ex = 1 then
                                          some ((-12), x)
                                        else
                                          if ex = 2 then
                                            some ((-13), x)
                                          else
                                            none)
                                  else
                                    if p1 = 17 then
                                      ct (f_X5_ifFired p2 p3 x) (fun z3 =>
                                        some (z3.1, z3.2))
                                      (fun ex =>
                                        if ex = 3 then
                                          some ((-11), x)
                                        else
                                          if ex = 1 then
                                            some ((-12), x)
                                          else
                                            if ex = 2 then
                                              some ((-13), x)
                                            else
                                              none)
                                    else
                                      if p3 ≤ 0 then
                                        ct (f_X5_room p2 0 x) (fun z1 =>
                                          some (z1, x))
                                        (fun ex =>
                                          if ex = 3 then
                                            some ((-11), x)
                                          else
                                            if ex = 1 then
                                              some ((-12), x)
                                            else
                                              if ex = 2 then
                                                some ((-13), x)
                                              else
                                                none)
                                      else
                                        ct (f_X5_room p2 1 x) (fun z2 =>
                                          some (z2, x))
                                        (fun ex =>
                                          if ex = 3 then
                                            some ((-11), x)
                                          else
                                            if ex = 1 then
                                              some ((-12), x)
                                            else
                                              if ex = 2 then
                                                some ((-13), x)
                                              else
                                                none)
def f_L_seen_134 : Nat → Int64 → Int32 → ClC → Option (Int64)
  | 0, _, _, _ => none
  | fu + 1, v1, v3, x =>
    if 12 ≤ v3 then
      some v1
    else
      rt (f_X5_walker (v3 / 3) (v3 - v3 / 3 * 3) x) <| fun z9 =>
      f_L_seen_134 fu ((31 * v1) + z9.toInt64) (v3 + 1) x
def f_L_seen_91 : Nat → Int64 → Int32 → ClC → Option (Int64)
  | 0, _, _, _ => none
  | fu + 1, v1, v3, x =>
    rt (f_X5_count 2 x) <| fun z6 =>
    if z6 ≤ v3 then
      f_L_seen_134 FU v1 0 x
    else
      rt (f_X5_cell v3 0 x) <| fun z7 =>
      rt (f_X5_cell v3 1 x) <| fun z8 =>
      f_L_seen_91 fu ((31 * ((31 * v1) + z7.toInt64)) + z8.toInt64) (v3 + 1) x
def f_L_seen_33 : Nat → Int64 → Int32 → ClC → Option (Int64)
  | 0, _, _, _ => none
  | fu + 1, v1, v3, x =>
    rt (f_X5_count 0 x) <| fun z2 =>
    if (6 * z2) ≤ v3 then
      f_L_seen_91 FU v1 0 x
    else
      rt (f_X5_at (v3 / 6) x) <| fun z3 =>
      rt (f_X5_at (v3 / 6) x) <| fun z4 =>
      rt (f_X5_thing z4 (v3 - v3 / 6 * 6) x) <| fun z5 =>
      f_L_seen_33 fu ((31 * ((31 * v1) + z3.toInt64)) + z5.toInt64) (v3 + 1) x
def f_L_seen_6 : Nat → Int64 → Int32 → ClC → Option (Int64)
  | 0, _, _, _ => none
  | fu + 1, v1, v3, x =>
    if 9 ≤ v3 then
      f_L_seen_33 FU v1 0 x
    else
      rt (f_X5_count v3 x) <| fun z1 =>
      f_L_seen_6 fu ((31 * v1) + z1.toInt64) (v3 + 1) x
def f_L_seen (x : ClC) : Option (Int64) :=
  f_L_seen_6 FU 89 0 x
def f_L_isError_58 (k18 : Int64 → Int32 → Int32 → Int32 → ClC → Option (Int32 × ClC)) (v1 : Int64) (v3 : Int32) (v5 : Int32) (t0 : Int32) (x : ClC) : Option (Int32 × ClC) :=
  k18 v1 v3 t0 (v5 + (-8)) x
def f_L_isError_53 (k18 : Int64 → Int32 → Int32 → Int32 → ClC → Option (Int32 × ClC)) (v1 : Int64) (v3 : Int32) (v5 : Int32) (x : ClC) : Option (Int32 × ClC) :=
  f_L_isError_58 k18 v1 v3 v5 1 x
def f_L_isError_57 (k18 : Int64 → Int32 → Int32 → Int32 → ClC → Option (Int32 × ClC)) (v1 : Int64) (v3 : Int32) (v5 : Int32) (x : ClC) : Option (Int32 × ClC) :=
  f_L_isError_58 k18 v1 v3 v5 0 x
def f_L_isError_18 : Nat → Int64 → Int32 → Int32 → Int32 → ClC → Option (Int32 × ClC)
  | 0, _, _, _, _, _ => none
  | fu + 1, v1, v3, v4, v5, x =>
    if v5 < 0 then
      if v4 = 0 then
        some (0, x)
      else
        Option.bind (f_X5_firstError x) fun z3 =>
        if z3 = v3 then
          some (1, x)
        else
          some (0, x)
    else
      if v4 = 0 then
        f_L_isError_57 (f_L_isError_18 fu) v1 v3 v5 x
      else
        if (((v1 >>> (v5.toInt64 &&& 63)) &&& 255).toInt32) = 0 then
          f_L_isError_53 (f_L_isError_18 fu) v1 v3 v5 x
        else
          rt (f_X5_append (((v1 >>> (v5.toInt64 &&& 63)) &&& 255).toInt32) x) <| fun z4 =>
          if z4.1 ≤ 0 then
            f_L_isError_57 (f_L_isError_18 fu) v1 v3 v5 z4.2
          else
            f_L_isError_53 (f_L_isError_18 fu) v1 v3 v5 z4.2
def f_L_isError_12 (v1 : Int64) (v3 : Int32) (t0 : Int32) (x : ClC) : Option (Int32 × ClC) :=
  f_L_isError_18 FU v1 v3 t0 56 x
def f_L_isError (p1 : Int64) (p2 : Int32) (x : ClC) : Option (Int32 × ClC) :=
  Option.bind (f_X5_clearBuffer x) fun z1 =>
  if z1.1 < 0 then
    f_L_isError_12 p1 p2 0 z1.2
  else
    f_L_isError_12 p1 p2 1 z1.2
def f_L_isRefused_141 (x : ClC) : Option (Int32 × ClC) :=
  some (1, x)
def f_L_isRefused_117 (v1 : Int32) (x : ClC) : Option (Int32 × ClC) :=
  rt (f_X5_walker v1 0 x) <| fun z17 =>
  if z17 = 1 then
    f_L_isRefused_141 x
  else
    Option.bind (f_L_call 6 v1 0 0 x) fun z18 =>
    if z18.1 = (-13) then
      f_L_isRefused_141 z18.2
    else
      some (0, z18.2)
def f_L_isRefused_87 (v1 : Int32) (t1 : Int32) (t2 : Int32) (t3 : Int32) (x : ClC) : Option (Int32 × ClC) :=
  Option.bind (f_L_call t1 t2 t3 0 x) fun z12 =>
  if z12.1 = (-12) then
    rt (f_X5_at 0 z12.2) <| fun z14 =>
    Option.bind (f_L_call 2 (z14 + 1) 0 0 z12.2) fun z15 =>
    if z15.1 = (-11) then
      f_L_isRefused_117 v1 z15.2
    else
      some (0, z15.2)
  else
    some (0, z12.2)
def f_L_isRefused_69 (v1 : Int32) (x : ClC) : Option (Int32 × ClC) :=
  rt (f_X5_at 0 x) <| fun z11 =>
  if v1 = 0 then
    f_L_isRefused_87 v1 10 z11 (-1) x
  else
    f_L_isRefused_87 v1 10 z11 6 x
def f_L_isRefused_60 (v1 : Int32) (t1 : Int32) (t2 : Int32) (t3 : Int32) (x : ClC) : Option (Int32 × ClC) :=
  Option.bind (f_L_call t1 t2 t3 0 x) fun z9 =>
  if z9.1 = (-12) then
    f_L_isRefused_69 v1 z9.2
  else
    some (0, z9.2)
def f_L_isRefused_25 (v1 : Int32) (x : ClC) : Option (Int32 × ClC) :=
  rt (f_X5_at 0 x) <| fun z5 =>
  Option.bind (f_L_call 1 z5 1 3 x) fun z6 =>
  if z6.1 = (-12) then
    rt (f_X5_at 0 z6.2) <| fun z8 =>
    if v1 = 0 then
      f_L_isRefused_60 v1 3 z8 (-1) z6.2
    else
      f_L_isRefused_60 v1 3 z8 1000 z6.2
  else
    some (0, z6.2)
def f_L_isRefused (p1 : Int32) (x : ClC) : Option (Int32 × ClC) :=
  rt (f_X5_count 0 x) <| fun z1 =>
  if z1 ≤ 0 then
    f_L_isRefused_117 p1 x
  else
    rt (f_X5_at 0 x) <| fun z2 =>
    Option.bind (f_L_call 1 z2 0 0 x) fun z3 =>
    if z3.1 = (-12) then
      f_L_isRefused_25 p1 z3.2
    else
      some (0, z3.2)
def f_L_refusesAny_444 (v1 : Int32) (v4 : Int32) (x : ClC) : Option (Int32 × ClC) :=
  Option.bind (f_L_call 18 v4 v1 0 x) fun z47 =>
  if z47.1 = (-12) then
    Option.bind (f_L_isRefused v1 z47.2) fun z49 =>
    if z49.1 = 0 then
      some (0, z49.2)
    else
      some (1, z49.2)
  else
    some (0, z47.2)
def f_L_refusesAny_435 (v1 : Int32) (v4 : Int32) (t1 : Int32) (t2 : Int32) (t3 : Int32) (x : ClC) : Option (Int32 × ClC) :=
  Option.bind (f_L_call t1 t2 t3 0 x) fun z45 =>
  if z45.1 = (-12) then
    f_L_refusesAny_444 v1 v4 z45.2
  else
    some (0, z45.2)
def f_L_refusesAny_412 (v1 : Int32) (v4 : Int32) (t1 : Int32) (t2 : Int32) (x : ClC) : Option (Int32 × ClC) :=
  Option.bind (f_L_call t1 t2 0 0 x) fun z43 =>
  if z43.1 = (-12) then
    if v1 = 0 then
      f_L_refusesAny_435 v1 v4 17 1 (-1) z43.2
    else
      f_L_refusesAny_435 v1 v4 17 1 3 z43.2
  else
    some (0, z43.2)
def f_L_refusesAny_389 (v1 : Int32) (v4 : Int32) (t1 : Int32) (t2 : Int32) (x : ClC) : Option (Int32 × ClC) :=
  Option.bind (f_L_call t1 t2 0 0 x) fun z41 =>
  if z41.1 = (-12) then
    if v1 = 0 then
      f_L_refusesAny_412 v1 v4 17 0 z41.2
    else
      f_L_refusesAny_412 v1 v4 17 10 z41.2
  else
    some (0, z41.2)
def f_L_refusesAny_362 (v1 : Int32) (v4 : Int32) (x : ClC) : Option (Int32 × ClC) :=
  Option.bind (f_L_call 15 v4 0 0 x) fun z39 =>
  if z39.1 = (-12) then
    if v1 = 0 then
      f_L_refusesAny_389 v1 v4 16 (-1) z39.2
    else
      f_L_refusesAny_389 v1 v4 16 2 z39.2
  else
    some (0, z39.2)
def f_L_refusesAny_352 (v1 : Int32) (v4 : Int32) (t1 : Int32) (t2 : Int32) (x : ClC) : Option (Int32 × ClC) :=
  Option.bind (f_L_call t1 t2 0 0 x) fun z37 =>
  if z37.1 = (-12) then
    f_L_refusesAny_362 v1 v4 z37.2
  else
    some (0, z37.2)
def f_L_refusesAny_330 (v1 : Int32) (v4 : Int32) (t1 : Int32) (t2 : Int32) (t3 : Int32) (x : ClC) : Option (Int32 × ClC) :=
  Option.bind (f_L_call t1 t2 t3 0 x) fun z35 =>
  if z35.1 = (-12) then
    if v1 = 0 then
      f_L_refusesAny_352 v1 v4 14 (-1) z35.2
    else
      f_L_refusesAny_352 v1 v4 14 10 z35.2
  else
    some (0, z35.2)
def f_L_refusesAny_291 (v1 : Int32) (v3 : Int32) (v4 : Int32) (t1 : Int32) (t2 : Int32) (t3 : Int32) (x : ClC) : Option (Int32 × ClC) :=
  Option.bind (f_L_call t1 t2 t3 0 x) fun z31 =>
  if z31.1 = (-12) then
    Option.bind (f_L_call 13 v3 9 0 z31.2) fun z33 =>
    if z33.1 = (-11) then
      if v1 = 0 then
        f_L_refusesAny_330 v1 v4 13 0 (-1) z33.2
      else
        f_L_refusesAny_330 v1 v4 13 0 3 z33.2
    else
      some (0, z33.2)
  else
    some (0, z31.2)
def f_L_refusesAny_278 (v1 : Int32) (v3 : Int32) (v4 : Int32) (x : ClC) : Option (Int32 × ClC) :=
  if v1 = 0 then
    f_L_refusesAny_291 v1 v3 v4 12 0 (-1) x
  else
    f_L_refusesAny_291 v1 v3 v4 12 0 2 x
def f_L_refusesAny_267 (v1 : Int32) (v3 : Int32) (v4 : Int32) (t1 : Int32) (t2 : Int32) (x : ClC) : Option (Int32 × ClC) :=
  Option.bind (f_L_call t1 t2 9 0 x) fun z29 =>
  if z29.1 = (-11) then
    f_L_refusesAny_278 v1 v3 v4 z29.2
  else
    some (0, z29.2)
def f_L_refusesAny_220 (v1 : Int32) (v2 : Int32) (v3 : Int32) (v4 : Int32) (x : ClC) : Option (Int32 × ClC) :=
  Option.bind (f_L_call 10 v2 9 0 x) fun z24 =>
  if z24.1 = (-11) then
    Option.bind (f_L_call 11 ((-1) - v1) 0 0 z24.2) fun z26 =>
    if z26.1 = (-12) then
      if v1 = 0 then
        f_L_refusesAny_267 v1 v3 v4 12 (-1) z26.2
      else
        rt (f_X5_count 2 z26.2) <| fun z28 =>
        f_L_refusesAny_267 v1 v3 v4 12 z28 z26.2
    else
      some (0, z26.2)
  else
    some (0, z24.2)
def f_L_refusesAny_196 (v1 : Int32) (v2 : Int32) (v3 : Int32) (v4 : Int32) (t1 : Int32) (t2 : Int32) (x : ClC) : Option (Int32 × ClC) :=
  Option.bind (f_L_call t1 t2 0 0 x) fun z20 =>
  if z20.1 = (-12) then
    Option.bind (f_L_call 8 0 0 0 z20.2) fun z22 =>
    if z22.1 = (-12) then
      f_L_refusesAny_220 v1 v2 v3 v4 z22.2
    else
      some (0, z22.2)
  else
    some (0, z20.2)
def f_L_refusesAny_155 (v1 : Int32) (v2 : Int32) (v3 : Int32) (v4 : Int32) (x : ClC) : Option (Int32 × ClC) :=
  Option.bind (f_L_call 5 v3 0 0 x) fun z16 =>
  if z16.1 = (-11) then
    Option.bind (f_L_call 6 v3 0 0 z16.2) fun z18 =>
    if z18.1 = (-11) then
      if v1 = 0 then
        f_L_refusesAny_196 v1 v2 v3 v4 7 32 z18.2
      else
        f_L_refusesAny_196 v1 v2 v3 v4 7 127 z18.2
    else
      some (0, z18.2)
  else
    some (0, z16.2)
def f_L_refusesAny_101 (v1 : Int32) (v2 : Int32) (v3 : Int32) (v4 : Int32) (x : ClC) : Option (Int32 × ClC) :=
  Option.bind (f_L_call 1 v2 9 9 x) fun z8 =>
  if z8.1 = (-11) then
    Option.bind (f_L_call 2 v2 0 0 z8.2) fun z10 =>
    if z10.1 = (-11) then
      Option.bind (f_L_call 3 v2 (-1) 0 z10.2) fun z12 =>
      if z12.1 = (-11) then
        Option.bind (f_L_call 4 v3 0 0 z12.2) fun z14 =>
        if z14.1 = (-11) then
          f_L_refusesAny_155 v1 v2 v3 v4 z14.2
        else
          some (0, z14.2)
      else
        some (0, z12.2)
    else
      some (0, z10.2)
  else
    some (0, z8.2)
def f_L_refusesAny_93 (v1 : Int32) (v2 : Int32) (v3 : Int32) (v4 : Int32) (t1 : Int32) (t2 : Int32) (t3 : Int32) (t4 : Int32) (x : ClC) : Option (Int32 × ClC) :=
  Option.bind (f_L_call t1 t2 t3 t4 x) fun z6 =>
  if z6.1 = (-12) then
    f_L_refusesAny_101 v1 v2 v3 v4 z6.2
  else
    some (0, z6.2)
def f_L_refusesAny_50 (v1 : Int32) (v2 : Int32) (v3 : Int32) (v4 : Int32) (t0 : Int32) (x : ClC) : Option (Int32 × ClC) :=
  Option.bind (f_L_call 0 t0 1 0 x) fun z2 =>
  if z2.1 = (-12) then
    Option.bind (f_L_call 0 1 v4 0 z2.2) fun z4 =>
    if z4.1 = (-12) then
      if v1 = 0 then
        f_L_refusesAny_93 v1 v2 v3 v4 0 1 1 (-1) z4.2
      else
        f_L_refusesAny_93 v1 v2 v3 v4 0 1 1 3 z4.2
    else
      some (0, z4.2)
  else
    some (0, z2.2)
def f_L_refusesAny_37 (v1 : Int32) (v2 : Int32) (v3 : Int32) (t0 : Int32) (x : ClC) : Option (Int32 × ClC) :=
  if v1 = 0 then
    f_L_refusesAny_50 v1 v2 v3 t0 (-1) x
  else
    f_L_refusesAny_50 v1 v2 v3 t0 1000 x
def f_L_refusesAny_27 (v1 : Int32) (v2 : Int32) (t0 : Int32) (x : ClC) : Option (Int32 × ClC) :=
  if v1 = 0 then
    f_L_refusesAny_37 v1 v2 t0 0 x
  else
    f_L_refusesAny_37 v1 v2 t0 5 x
def f_L_refusesAny_17 (v1 : Int32) (t0 : Int32) (x : ClC) : Option (Int32 × ClC) :=
  if v1 = 0 then
    f_L_refusesAny_27 v1 t0 (-1) x
  else
    f_L_refusesAny_27 v1 t0 4 x
def f_L_refusesAny (p1 : Int32) (x : ClC) : Option (Int32 × ClC) :=
  if p1 = 0 then
    f_L_refusesAny_17 p1 (-1) x
  else
    rt (f_X5_count 2 x) <| fun z1 =>
    f_L_refusesAny_17 p1 (1000 * z1) x
def f_L_refused (x : ClC) : Option (Int32 × ClC) :=
  Option.bind (f_X5_digest x) fun z1 =>
  Option.bind (f_L_refusesAny 0 z1.2) fun z3 =>
  if z3.1 = 0 then
    some (0, z3.2)
  else
    Option.bind (f_L_refusesAny 1 z3.2) fun z5 =>
    if z5.1 = 0 then
      some (0, z5.2)
    else
      Option.bind (f_X5_digest z5.2) fun z7 =>
      if (lg_cmp z7.1 z1.1) = 0 then
        some (1, z7.2)
      else
        some (0, z7.2)
def f_L_row_883 (x : ClC) : Option (Int32) :=
  rt (f_X5_thing 3000 3 x) <| fun z116 =>
  if z116 = 0 then
    some 1
  else
    some 0
def f_L_row_812 (x : ClC) : Option (Int32) :=
  rt (f_X5_undo x) <| fun z105 =>
  if z105.1 = 4 then
    rt (f_X5_at 0 z105.2) <| fun z107 =>
    if z107 = 2001 then
      rt (f_X5_cell 2 0 z105.2) <| fun z108 =>
      if z108 = 1 then
        rt (f_X5_undo z105.2) <| fun z109 =>
        if z109.1 = 3 then
          rt (f_X5_at 0 z109.2) <| fun z111 =>
          if z111 = 0 then
            rt (f_X5_walker 1 0 z109.2) <| fun z112 =>
            if z112 = 1 then
              rt (f_X5_undo z109.2) <| fun z113 =>
              if z113.1 = 2 then
                rt (f_X5_count 5 z113.2) <| fun z115 =>
                if z115 = 0 then
                  f_L_row_883 z113.2
                else
                  some 0
              else
                some 0
            else
              some 0
          else
            some 0
        else
          some 0
      else
        some 0
    else
      some 0
  else
    some 0
def f_L_row_737 (x : ClC) : Option (Int32) :=
  rt (f_X5_thing 1 0 x) <| fun z94 =>
  if z94 = 8 then
    Option.bind (f_L_refused x) fun z95 =>
    if z95.1 = 0 then
      some 0
    else
      rt (f_X5_goOn 1 z95.2) <| fun z97 =>
      if z97.1 = 1 then
        rt (f_X5_count 1 z97.2) <| fun z99 =>
        if z99 = 0 then
          rt (f_X5_count 9 z97.2) <| fun z100 =>
          if z100 = 6 then
            rt (f_X5_undo z97.2) <| fun z101 =>
            if z101.1 = 5 then
              rt (f_X5_count 1 z101.2) <| fun z103 =>
              if z103 = 1 then
                rt (f_X5_walker 1 0 z101.2) <| fun z104 =>
                if z104 = 2 then
                  f_L_row_812 z101.2
                else
                  some 0
              else
                some 0
            else
              some 0
          else
            some 0
        else
          some 0
      else
        some 0
  else
    some 0
def f_L_row_657 (x : ClC) : Option (Int32) :=
  rt (f_X5_room 4 1 x) <| fun z85 =>
  if z85 = 2 then
    Option.bind (f_X5_together x) fun z86 =>
    if z86.1 = 3 then
      rt (f_X5_at 0 z86.2) <| fun z88 =>
      if z88 = 1 then
        rt (f_X5_at 1 z86.2) <| fun z89 =>
        if z89 = 1000 then
          rt (f_X5_at 2 z86.2) <| fun z90 =>
          if z90 = 4000 then
            rt (f_X5_count 8 z86.2) <| fun z91 =>
            if z91 = 3 then
              Option.bind (f_X5_refusal 2001 z86.2) fun z92 =>
              if z92 = 2 then
                rt (f_X5_cell 2 0 z86.2) <| fun z93 =>
                if z93 = 2 then
                  f_L_row_737 z86.2
                else
                  some 0
              else
                some 0
            else
              some 0
          else
            some 0
        else
          some 0
      else
        some 0
    else
      some 0
  else
    some 0
def f_L_row_573 (x : ClC) : Option (Int32) :=
  rt (f_X5_count 7 x) <| fun z76 =>
  if z76 = 1 then
    rt (f_X5_thing 3000 3 x) <| fun z77 =>
    if z77 = 1 then
      rt (f_X5_thing 6000 2 x) <| fun z78 =>
      if z78 = 0 then
        rt (f_X5_thing 6000 3 x) <| fun z79 =>
        if z79 = 0 then
          rt (f_X5_remove 0 x) <| fun z80 =>
          if z80.1 = 5 then
            rt (f_X5_count 1 z80.2) <| fun z82 =>
            if z82 = 1 then
              rt (f_X5_walker 1 0 z80.2) <| fun z83 =>
              if z83 = 2 then
                rt (f_X5_room 4 0 z80.2) <| fun z84 =>
                if z84 = 1 then
                  f_L_row_657 z80.2
                else
                  some 0
              else
                some 0
            else
              some 0
          else
            some 0
        else
          some 0
      else
        some 0
    else
      some 0
  else
    some 0
def f_L_row_494 (x : ClC) : Option (Int32) :=
  rt (f_X5_ifFired 2 0 x) <| fun z64 =>
  if z64.1 = 53 then
    rt (f_X5_ifFired 1 1 z64.2) <| fun z66 =>
    if z66.1 = 4 then
      rt (f_X5_ifFired 2 1 z66.2) <| fun z68 =>
      if z68.1 = 5 then
        Option.bind (f_X5_fire z68.2) fun z70 =>
        if z70.1 = 22 then
          rt (f_X5_count 0 z70.2) <| fun z72 =>
          if z72 = 4 then
            rt (f_X5_at 3 z70.2) <| fun z73 =>
            if z73 = 6000 then
              rt (f_X5_count 5 z70.2) <| fun z74 =>
              if z74 = 1 then
                rt (f_X5_count 6 z70.2) <| fun z75 =>
                if z75 = 5 then
                  f_L_row_573 z70.2
                else
                  some 0
              else
                some 0
            else
              some 0
          else
            some 0
        else
          some 0
      else
        some 0
    else
      some 0
  else
    some 0
def f_L_row_409 (x : ClC) : Option (Int32) :=
  Option.bind (f_X5_refusal 4000 x) fun z52 =>
  if z52 = 3 then
    rt (f_X5_putBehind 0 8 1 0 x) <| fun z53 =>
    if z53.1 = 2001 then
      rt (f_X5_at 1 z53.2) <| fun z55 =>
      if z55 = 2001 then
        rt (f_X5_goOn 0 z53.2) <| fun z56 =>
        if z56.1 = 3000 then
          rt (f_X5_count 1 z56.2) <| fun z58 =>
          if z58 = 0 then
            rt (f_X5_restart 0 z56.2) <| fun z59 =>
            if z59.1 = 1 then
              rt (f_X5_walker 0 0 z59.2) <| fun z61 =>
              if z61 = 0 then
                rt (f_X5_ifFired 1 0 z59.2) <| fun z62 =>
                if z62.1 = 22 then
                  f_L_row_494 z62.2
                else
                  some 0
              else
                some 0
            else
              some 0
          else
            some 0
        else
          some 0
      else
        some 0
    else
      some 0
  else
    some 0
def f_L_row_325 (x : ClC) : Option (Int32) :=
  rt (f_X5_walker 0 2 x) <| fun z44 =>
  if z44 = 1 then
    Option.bind (f_X5_refusal 2000 x) fun z45 =>
    if z45 = 2 then
      Option.bind (f_X5_refusal 2001 x) fun z46 =>
      if z46 = 3 then
        Option.bind (f_X5_refusal 16000 x) fun z47 =>
        if z47 = 1 then
          Option.bind (f_X5_refusal (-1) x) fun z48 =>
          if z48 = 1 then
            rt (f_X5_cell 2 0 x) <| fun z49 =>
            if z49 = 1 then
              rt (f_X5_cell 2 1 x) <| fun z50 =>
              if z50 = (-1) then
                rt (f_X5_cell 4 1 x) <| fun z51 =>
                if z51 = 3000 then
                  f_L_row_409 x
                else
                  some 0
              else
                some 0
            else
              some 0
          else
            some 0
        else
          some 0
      else
        some 0
    else
      some 0
  else
    some 0
def f_L_row_245 (x : ClC) : Option (Int32) :=
  rt (f_X5_walker 0 2 x) <| fun z34 =>
  if z34 = 1 then
    rt (f_X5_walker 3 2 x) <| fun z35 =>
    if z35 = 3 then
      rt (f_X5_thing 2000 5 x) <| fun z36 =>
      if z36 = 1 then
        Option.bind (f_L_refused x) fun z37 =>
        if z37.1 = 0 then
          some 0
        else
          rt (f_X5_take 0 z37.2) <| fun z39 =>
          if z39.1 = 7 then
            rt (f_X5_count 1 z39.2) <| fun z41 =>
            if z41 = 1 then
              rt (f_X5_walker 0 0 z39.2) <| fun z42 =>
              if z42 = 2 then
                rt (f_X5_walker 0 1 z39.2) <| fun z43 =>
                if z43 = (-1) then
                  f_L_row_325 z39.2
                else
                  some 0
              else
                some 0
            else
              some 0
          else
            some 0
      else
        some 0
    else
      some 0
  else
    some 0
def f_L_row_168 (x : ClC) : Option (Int32) :=
  rt (f_X5_gap 1 x) <| fun z22 =>
  if z22 = 6 then
    rt (f_X5_room 4 0 x) <| fun z23 =>
    if z23 = 2 then
      rt (f_X5_room 3 0 x) <| fun z24 =>
      if z24 = 3 then
        Option.bind (f_X5_fullness x) fun z25 =>
        if (Op.cmpValue (FP.dcmp z25 4600427019358961664) .l) = 0 then
          rt (f_X5_goOn 2 x) <| fun z26 =>
          if z26.1 = (-1) then
            rt (f_X5_goOn 0 z26.2) <| fun z28 =>
            if z28.1 = 0 then
              rt (f_X5_goOn 0 z28.2) <| fun z30 =>
              if z30.1 = 2000 then
                rt (f_X5_goOn 1 z30.2) <| fun z32 =>
                if z32.1 = 0 then
                  f_L_row_245 z32.2
                else
                  some 0
              else
                some 0
            else
              some 0
          else
            some 0
        else
          some 0
      else
        some 0
    else
      some 0
  else
    some 0
def f_L_row_77 (x : ClC) : Option (Int32) :=
  rt (f_X5_put 5 2 0 x) <| fun z11 =>
  if z11.1 = 0 then
    rt (f_X5_put 7 1 1 z11.2) <| fun z13 =>
    if z13.1 = 2000 then
      rt (f_X5_put 9 3 2 z13.2) <| fun z15 =>
      if z15.1 = 3000 then
        rt (f_X5_count 3 z15.2) <| fun z17 =>
        if z17 = 10 then
          rt (f_X5_at 1 z15.2) <| fun z18 =>
          if z18 = 2000 then
            rt (f_X5_thing 3000 4 z15.2) <| fun z19 =>
            if z19 = 2 then
              rt (f_X5_begins 4 z15.2) <| fun z20 =>
              if z20 = 6 then
                rt (f_X5_gap 0 z15.2) <| fun z21 =>
                if z21 = 10 then
                  f_L_row_168 z15.2
                else
                  some 0
              else
                some 0
            else
              some 0
          else
            some 0
        else
          some 0
      else
        some 0
    else
      some 0
  else
    some 0
def f_L_row : Option (Int32) :=
  Option.bind f_X5_init fun z1 =>
  Option.bind (f_L_call 9 0 0 0 z1) fun z2 =>
  if z2.1 = (-13) then
    rt (f_X5_at 0 z2.2) <| fun z4 =>
    if z4 = (-1) then
      rt (f_X5_gap 0 z2.2) <| fun z5 =>
      if z5 = 16 then
        rt (f_X5_gap 1 z2.2) <| fun z6 =>
        if z6 = 0 then
          rt (f_X5_goOn 2 z2.2) <| fun z7 =>
          if z7.1 = (-1) then
            rt (f_X5_walker 2 0 z7.2) <| fun z9 =>
            if z9 = 3 then
              rt (f_X5_walker 2 2 z7.2) <| fun z10 =>
              if z10 = 0 then
                f_L_row_77 z7.2
              else
                some 0
            else
              some 0
          else
            some 0
        else
          some 0
      else
        some 0
    else
      some 0
  else
    some 0
def f_L_store_261 (k208 : Int32 → ClC → Option (Int32)) (v1 : Int32) (t0 : Int32) (t1 : Int32) (x : ClC) : Option (Int32) :=
  if t0 = t1 then
    k208 (v1 + 1) x
  else
    some 0
def f_L_store_481 : Nat → Int32 → ClC → Option (Int32)
  | 0, _, _ => none
  | fu + 1, v2, x =>
    if 1000 ≤ v2 then
      rt (f_X5_put 1 1 0 x) <| fun z55 =>
      if z55.1 = 0 then
        rt (f_X5_count 6 z55.2) <| fun z57 =>
        if z57 = 1001 then
          rt (f_X5_count 7 z55.2) <| fun z58 =>
          if z58 = 1000 then
            rt (f_X5_count 9 z55.2) <| fun z59 =>
            if z59 = 6 then
              some 1
            else
              some 0
          else
            some 0
        else
          some 0
      else
        some 0
    else
      rt (f_X5_put 1 1 0 x) <| fun z60 =>
      if z60.1 = v2 then
        rt (f_X5_remove v2 z60.2) <| fun z62 =>
        if z62.1 = 1 then
          f_L_store_481 fu (v2 + 1) z62.2
        else
          some 0
      else
        some 0
def f_L_store_410 (x : ClC) : Option (Int32) :=
  Option.bind (f_X5_fullness x) fun z46 =>
  if (Op.cmpValue (FP.dcmp z46 FP.dconst1) .l) = 0 then
    rt (f_X5_room 1 1 x) <| fun z47 =>
    if z47 = 0 then
      Option.bind (f_L_refused x) fun z48 =>
      if z48.1 = 0 then
        some 0
      else
        Option.bind (f_X5_fire z48.2) fun z50 =>
        if z50.1 = 9911 then
          rt (f_X5_count 0 z50.2) <| fun z52 =>
          if z52 = 16 then
            rt (f_X5_thing 12000 3 z50.2) <| fun z53 =>
            if z53 = 2 then
              Option.bind f_X5_init fun z54 =>
              f_L_store_481 FU 0 z54
            else
              some 0
          else
            some 0
        else
          some 0
    else
      some 0
  else
    some 0
def f_L_store_319 (x : ClC) : Option (Int32) :=
  Option.bind (f_L_call 0 1 3 0 x) fun z32 =>
  if z32.1 = (-13) then
    Option.bind (f_L_call 0 1 5 0 z32.2) fun z34 =>
    if z34.1 = (-12) then
      Option.bind (f_L_call 1 0 3 0 z34.2) fun z36 =>
      if z36.1 = (-13) then
        rt (f_X5_ifFired 1 1 z36.2) <| fun z38 =>
        if z38.1 = 16 then
          rt (f_X5_put 1 1 1 z38.2) <| fun z40 =>
          if z40.1 = 62000 then
            rt (f_X5_put 1 1 1 z40.2) <| fun z42 =>
            if z42.1 = 63000 then
              rt (f_X5_gap 0 z42.2) <| fun z44 =>
              if z44 = 0 then
                rt (f_X5_gap 1 z42.2) <| fun z45 =>
                if z45 = (-1) then
                  f_L_store_410 z42.2
                else
                  some 0
              else
                some 0
            else
              some 0
          else
            some 0
        else
          some 0
      else
        some 0
    else
      some 0
  else
    some 0
def f_L_store_208 : Nat → Int32 → ClC → Option (Int32)
  | 0, _, _ => none
  | fu + 1, v1, x =>
    if 11 ≤ v1 then
      rt (f_X5_count 2 x) <| fun z25 =>
      if z25 = 64 then
        rt (f_X5_count 3 x) <| fun z26 =>
        if z26 = 2 then
          rt (f_X5_begins 4 x) <| fun z27 =>
          if z27 = (-1) then
            rt (f_X5_begins 3 x) <| fun z28 =>
            if z28 = (-1) then
              rt (f_X5_begins 2 x) <| fun z29 =>
              if z29 = 62 then
                f_L_store_319 x
              else
                some 0
            else
              some 0
          else
            some 0
        else
          some 0
      else
        some 0
    else
      rt (f_X5_put 900 4 0 x) <| fun z30 =>
      if v1 = 0 then
        f_L_store_261 (f_L_store_208 fu) v1 z30.1 15001 z30.2
      else
        if 3 ≤ v1 then
          f_L_store_261 (f_L_store_208 fu) v1 z30.1 (30000 + (4000 * (v1 - 3))) z30.2
        else
          f_L_store_261 (f_L_store_208 fu) v1 z30.1 (18000 + (4000 * v1)) z30.2
def f_L_store_182 (x : ClC) : Option (Int32) :=
  rt (f_X5_thing 19000 1 x) <| fun z23 =>
  if z23 = 3 then
    rt (f_X5_count 3 x) <| fun z24 =>
    if z24 = 14 then
      f_L_store_208 FU 0 x
    else
      some 0
  else
    some 0
def f_L_store_104 (x : ClC) : Option (Int32) :=
  rt (f_X5_begins 1 x) <| fun z12 =>
  if z12 = 19 then
    rt (f_X5_goOn 1 x) <| fun z13 =>
    if z13.1 = 0 then
      rt (f_X5_ifFired 9 2 z13.2) <| fun z15 =>
      if z15.1 = 64 then
        Option.bind (f_X5_fire z15.2) fun z17 =>
        if z17.1 = 10 then
          Option.bind (f_X5_refusal 15000 z17.2) fun z19 =>
          if z19 = 2 then
            rt (f_X5_at 4 z17.2) <| fun z20 =>
            if z20 = 19000 then
              rt (f_X5_count 0 z17.2) <| fun z21 =>
              if z21 = 5 then
                rt (f_X5_count 1 z17.2) <| fun z22 =>
                if z22 = 0 then
                  f_L_store_182 z17.2
                else
                  some 0
              else
                some 0
            else
              some 0
          else
            some 0
        else
          some 0
      else
        some 0
    else
      some 0
  else
    some 0
def f_L_store_10 : Nat → Int32 → ClC → Option (Int32)
  | 0, _, _ => none
  | fu + 1, v1, x =>
    if 3 ≤ v1 then
      rt (f_X5_put 3 3 2 x) <| fun z2 =>
      if z2.1 = 12000 then
        rt (f_X5_begins 1 z2.2) <| fun z4 =>
        if z4 = 15 then
          rt (f_X5_begins 4 z2.2) <| fun z5 =>
          if z5 = 15 then
            rt (f_X5_count 2 z2.2) <| fun z6 =>
            if z6 = 16 then
              rt (f_X5_put 4 4 1 z2.2) <| fun z7 =>
              if z7.1 = 15000 then
                rt (f_X5_count 2 z7.2) <| fun z9 =>
                if z9 = 32 then
                  f_L_store_104 z7.2
                else
                  some 0
              else
                some 0
            else
              some 0
          else
            some 0
        else
          some 0
      else
        some 0
    else
      rt (f_X5_put v1 4 0 x) <| fun z10 =>
      if z10.1 = (4000 * v1) then
        f_L_store_10 fu (v1 + 1) z10.2
      else
        some 0
def f_L_store : Option (Int32) :=
  Option.bind f_X5_init fun z1 =>
  f_L_store_10 FU 0 z1
def f_L_texts_332 (k288 : Int32 → ClC → Option (Int32)) (v1 : Int32) (t1 : Int32) (x : ClC) : Option (Int32) :=
  rt (f_X5_append t1 x) <| fun z53 =>
  if z53.1 = (v1 + 1) then
    k288 (v1 + 1) z53.2
  else
    some 0
def f_L_texts_379 (x : ClC) : Option (Int32) :=
  Option.bind (f_X5_firstError x) fun z55 =>
  if z55 = 60 then
    Option.bind (f_L_call 8 0 0 0 x) fun z56 =>
    if z56.1 = (-12) then
      Option.bind (f_X5_clearBuffer z56.2) fun z58 =>
      if z58.1 = 60 then
        some 1
      else
        some 0
    else
      some 0
  else
    some 0
def f_L_texts_288 : Nat → Int32 → ClC → Option (Int32)
  | 0, _, _ => none
  | fu + 1, v1, x =>
    if 60 ≤ v1 then
      Option.bind (f_L_call 7 53 0 0 x) fun z49 =>
      if z49.1 = (-13) then
        Option.bind (f_L_call 7 32 0 0 z49.2) fun z51 =>
        if z51.1 = (-12) then
          f_L_texts_379 z51.2
        else
          some 0
      else
        some 0
    else
      if (v1 - v1 / 4 * 4) = 0 then
        f_L_texts_332 (f_L_texts_288 fu) v1 51 x
      else
        if (v1 - v1 / 4 * 4) = 1 then
          f_L_texts_332 (f_L_texts_288 fu) v1 42 x
        else
          if (v1 - v1 / 4 * 4) = 2 then
            f_L_texts_332 (f_L_texts_288 fu) v1 52 x
          else
            f_L_texts_332 (f_L_texts_288 fu) v1 44 x
def f_L_texts_262 (x : ClC) : Option (Int32) :=
  Option.bind (f_X5_clearBuffer x) fun z44 =>
  if z44.1 = 0 then
    rt (f_X5_undo z44.2) <| fun z46 =>
    if z46.1 = 0 then
      rt (f_X5_count 0 z46.2) <| fun z48 =>
      if z48 = 0 then
        f_L_texts_288 FU 0 z46.2
      else
        some 0
    else
      some 0
  else
    some 0
def f_L_texts_196 (x : ClC) : Option (Int32) :=
  Option.bind (f_L_isError 891957548 4 x) fun z34 =>
  if z34.1 = 0 then
    some 0
  else
    Option.bind (f_L_call 8 0 0 0 z34.2) fun z36 =>
    if z36.1 = (-12) then
      Option.bind (f_L_isError 3975046938188327474 8 z36.2) fun z38 =>
      if z38.1 = 0 then
        some 0
      else
        rt (f_X5_putAll z38.2) <| fun z40 =>
        if z40.1 = 2 then
          rt (f_X5_at 1 z40.2) <| fun z42 =>
          if z42 = 4000 then
            rt (f_X5_thing 0 2 z40.2) <| fun z43 =>
            if z43 = 1 then
              f_L_texts_262 z40.2
            else
              some 0
          else
            some 0
        else
          some 0
    else
      some 0
def f_L_texts_126 (x : ClC) : Option (Int32) :=
  Option.bind (f_L_isError 3470640481387555378 8 x) fun z23 =>
  if z23.1 = 0 then
    some 0
  else
    Option.bind (f_L_isError 97 0 z23.2) fun z25 =>
    if z25.1 = 0 then
      some 0
    else
      Option.bind (f_L_isError 925512242 3 z25.2) fun z27 =>
      if z27.1 = 0 then
        some 0
      else
        Option.bind (f_L_isError 13610 2 z27.2) fun z29 =>
        if z29.1 = 0 then
          some 0
        else
          Option.bind (f_L_call 8 0 0 0 z29.2) fun z31 =>
          if z31.1 = (-12) then
            rt (f_X5_count 9 z31.2) <| fun z33 =>
            if z33 = 0 then
              f_L_texts_196 z31.2
            else
              some 0
          else
            some 0
def f_L_texts_59 (x : ClC) : Option (Int32) :=
  Option.bind (f_L_isError 228341129515 4 x) fun z11 =>
  if z11.1 = 0 then
    some 0
  else
    Option.bind (f_L_isError 13601 1 z11.2) fun z13 =>
    if z13.1 = 0 then
      some 0
    else
      Option.bind (f_L_isError 228341132332 4 z13.2) fun z15 =>
      if z15.1 = 0 then
        some 0
      else
        Option.bind (f_L_isError 62917934986283 6 z15.2) fun z17 =>
        if z17.1 = 0 then
          some 0
        else
          Option.bind (f_L_isError 13610 2 z17.2) fun z19 =>
          if z19.1 = 0 then
            some 0
          else
            Option.bind (f_L_isError 891957548 4 z19.2) fun z21 =>
            if z21.1 = 0 then
              some 0
            else
              f_L_texts_126 z21.2
def f_L_texts : Option (Int32) :=
  Option.bind f_X5_init fun z1 =>
  Option.bind (f_X5_firstError z1) fun z2 =>
  if z2 = 0 then
    Option.bind (f_L_isError 825241648 3 z1) fun z3 =>
    if z3.1 = 0 then
      some 0
    else
      Option.bind (f_L_isError 12337 1 z3.2) fun z5 =>
      if z5.1 = 0 then
        some 0
      else
        Option.bind (f_L_isError 3484208 2 z5.2) fun z7 =>
        if z7.1 = 0 then
          some 0
        else
          Option.bind (f_L_isError 3484213 2 z7.2) fun z9 =>
          if z9.1 = 0 then
            some 0
          else
            f_L_texts_59 z9.2
  else
    some 0
def f_L_law_398 (L : Nat) (xs : Fn) (k38 : Int32 → Int32 → ClC → FnL → Option (Int32)) (v4 : Int32) (t0 : Int32) (t1 : Int32) (x : ClC) (w : FnL) : Option (Int32) :=
  k38 (t0 + t1) (v4 + 1) x w
def f_L_law_387 (L : Nat) (xs : Fn) (k38 : Int32 → Int32 → ClC → FnL → Option (Int32)) (v3 : Int32) (v4 : Int32) (v11 : Int32) (x : ClC) (w : FnL) : Option (Int32) :=
  if v11 = 0 then
    f_L_law_398 L xs k38 v4 v3 1 x w
  else
    f_L_law_398 L xs k38 v4 v3 0 x w
def f_L_law_356 (L : Nat) (xs : Fn) (k38 : Int32 → Int32 → ClC → FnL → Option (Int32)) (v3 : Int32) (v4 : Int32) (v7 : Int32) (t0 : Int32) (x : ClC) (w : FnL) : Option (Int32) :=
  if t0 = 0 then
    f_L_law_387 L xs k38 v3 v4 t0 x w
  else
    rt (f_X5_count 9 x) <| fun z37 =>
    if z37 = v7 then
      Option.bind (f_L_seen x) fun z38 =>
      gi v3 64 <|
      if (lg_cmp z38 (w v3.toNatClampNeg)) = 0 then
        f_L_law_387 L xs k38 v3 v4 t0 x w
      else
        some 0
    else
      some 0
def f_L_law_343 (L : Nat) (xs : Fn) (k38 : Int32 → Int32 → ClC → FnL → Option (Int32)) (v3 : Int32) (v4 : Int32) (v7 : Int32) (t0 : Int32) (x : ClC) (w : FnL) : Option (Int32) :=
  if (-1) ≤ t0 then
    f_L_law_356 L xs k38 v3 v4 v7 0 x w
  else
    f_L_law_356 L xs k38 v3 v4 v7 1 x w
def f_L_law_309 (L : Nat) (xs : Fn) (k38 : Int32 → Int32 → ClC → FnL → Option (Int32)) (v3 : Int32) (v4 : Int32) (v5 : Int32) (v7 : Int32) (t1 : Int32) (x : ClC) (w : FnL) : Option (Int32) :=
  Option.bind (f_L_part (v5 >>> (5 &&& 31)) 5) fun z34 =>
  Option.bind (f_L_call t1 z34 0 0 x) fun z35 =>
  f_L_law_343 L xs k38 v3 v4 v7 z35.1 z35.2 w
def f_L_law_134 (L : Nat) (xs : Fn) (k38 : Int32 → Int32 → ClC → FnL → Option (Int32)) (v3 : Int32) (v4 : Int32) (v5 : Int32) (v6 : Int32) (v7 : Int32) (t0 : Int32) (x : ClC) (w : FnL) : Option (Int32) :=
  if 3 ≤ v6 then
    if v6 = 3 then
      Option.bind (f_L_part (v5 >>> (10 &&& 31)) 5) fun z25 =>
      Option.bind (f_L_part (v5 >>> (13 &&& 31)) 3) fun z26 =>
      Option.bind (f_L_call 1 t0 z25 z26 x) fun z27 =>
      f_L_law_343 L xs k38 v3 v4 v7 z27.1 z27.2 w
    else
      if v6 = 4 then
        Option.bind (f_L_call 2 t0 0 0 x) fun z23 =>
        f_L_law_343 L xs k38 v3 v4 v7 z23.1 z23.2 w
      else
        if v6 = 5 then
          Option.bind (f_L_part (v5 >>> (10 &&& 31)) 1010) fun z20 =>
          Option.bind (f_L_call 3 t0 z20 0 x) fun z21 =>
          f_L_law_343 L xs k38 v3 v4 v7 z21.1 z21.2 w
        else
          if 8 ≤ v6 then
            if v6 = 8 then
              Option.bind (f_L_part (v5 >>> (4 &&& 31)) 2) fun z16 =>
              if z16 = 0 then
                f_L_law_309 L xs k38 v3 v4 v5 v7 4 x w
              else
                f_L_law_309 L xs k38 v3 v4 v5 v7 6 x w
            else
              if v6 = 9 then
                Option.bind (f_X5_fire x) fun z14 =>
                f_L_law_343 L xs k38 v3 v4 v7 z14.1 z14.2 w
              else
                Option.bind (f_X5_together x) fun z12 =>
                f_L_law_343 L xs k38 v3 v4 v7 z12.1 z12.2 w
          else
            Option.bind (f_L_part (v5 >>> (4 &&& 31)) 5) fun z17 =>
            Option.bind (f_L_call 5 z17 0 0 x) fun z18 =>
            f_L_law_343 L xs k38 v3 v4 v7 z18.1 z18.2 w
  else
    Option.bind (f_L_part (v5 >>> (4 &&& 31)) 1010) fun z29 =>
    Option.bind (f_L_part (v5 >>> (14 &&& 31)) 6) fun z30 =>
    Option.bind (f_L_part (v5 >>> (17 &&& 31)) 4) fun z31 =>
    Option.bind (f_L_call 0 z29 z30 z31 x) fun z32 =>
    f_L_law_343 L xs k38 v3 v4 v7 z32.1 z32.2 w
def f_L_law_133 (L : Nat) (xs : Fn) (k38 : Int32 → Int32 → ClC → FnL → Option (Int32)) (v3 : Int32) (v4 : Int32) (v5 : Int32) (v6 : Int32) (v7 : Int32) (t0 : Int32) (t1 : Int32) (x : ClC) (w : FnL) : Option (Int32) :=
  f_L_law_134 L xs k38 v3 v4 v5 v6 v7 (t0 + t1) x w
def f_L_law_70 (L : Nat) (xs : Fn) (k38 : Int32 → Int32 → ClC → FnL → Option (Int32)) (v3 : Int32) (v4 : Int32) (v5 : Int32) (t0 : Int32) (x : ClC) (w : FnL) : Option (Int32) :=
  Option.bind (f_L_seen x) fun z6 =>
  gi v3 64 <|
  rt (f_X5_count 9 x) <| fun z7 =>
  rt (f_X5_count 0 x) <| fun z8 =>
  if z8 = 0 then
    f_L_law_134 L xs k38 v3 v4 v5 t0 z7 0 x (vp_updL w v3.toNatClampNeg z6)
  else
    Option.bind (f_L_part (v5 >>> (4 &&& 31)) z8) fun z9 =>
    rt (f_X5_at z9 x) <| fun z10 =>
    Option.bind (f_L_part (v5 >>> (18 &&& 31)) 5) fun z11 =>
    if z11 = 0 then
      f_L_law_133 L xs k38 v3 v4 v5 t0 z7 z10 1 x (vp_updL w v3.toNatClampNeg z6)
    else
      f_L_law_133 L xs k38 v3 v4 v5 t0 z7 z10 0 x (vp_updL w v3.toNatClampNeg z6)
def f_L_law_487 (L : Nat) (xs : Fn)   (x : ClC) (w : FnL) : Option (Int32) :=
  rt (f_X5_count 9 x) <| fun z44 =>
  if z44 = 0 then
    Option.bind (f_L_call 9 0 0 0 x) fun z45 =>
    if z45.1 = (-13) then
      some 1
    else
      some 0
  else
    some 0
def f_L_law_425 (L : Nat) (xs : Fn) : Nat → Int32 → Int32 → ClC → FnL → Option (Int32)
  | 0, _, _, _, _ => none
  | fu + 1, v3, v4, x, w =>
    rt (f_X5_count 9 x) <| fun z39 =>
    if z39 ≤ 0 then
      f_L_law_487 L xs x w
    else
      if v3 ≤ v4 then
        f_L_law_487 L xs x w
      else
        rt (f_X5_count 9 x) <| fun z40 =>
        if 5 < v4 then
          some 0
        else
          Option.bind (f_L_seen x) fun z41 =>
          gi (v3 - v4) 64 <|
          if (lg_cmp z41 (w (v3 - v4).toNatClampNeg)) = 0 then
            rt (f_X5_undo x) <| fun z42 =>
            if z42.1 = (z40 - 1) then
              f_L_law_425 L xs fu v3 (v4 + 1) z42.2 w
            else
              some 0
          else
            some 0
def f_L_law_38 (L : Nat) (xs : Fn) : Nat → Int32 → Int32 → ClC → FnL → Option (Int32)
  | 0, _, _, _, _ => none
  | fu + 1, v3, v4, x, w =>
    if 24 ≤ v4 then
      Option.bind (f_L_seen x) fun z1 =>
      gi v3 64 <|
      Option.bind (f_L_refused x) fun z2 =>
      if z2.1 = 0 then
        some 0
      else
        f_L_law_425 L xs 100 v3 0 z2.2 (vp_updL w v3.toNatClampNeg z1)
    else
      Option.bind (f_L_drawn L xs v4) fun z4 =>
      if 3 ≤ v4 then
        Option.bind (f_L_part z4 11) fun z5 =>
        f_L_law_70 L xs (f_L_law_38 L xs fu) v3 v4 z4 z5 x w
      else
        f_L_law_70 L xs (f_L_law_38 L xs fu) v3 v4 z4 0 x w
def f_law (L : Nat) (xs : Fn) : Option Int32 :=
  Option.bind f_L_row fun z1 =>
  if z1 = 0 then
    some 0
  else
    Option.bind f_L_store fun z2 =>
    if z2 = 0 then
      some 0
    else
      Option.bind f_L_texts fun z3 =>
      if z3 = 0 then
        some 0
      else
        Option.bind f_X5_init fun z4 =>
        f_L_law_38 L xs 100 0 0 z4 (fun _ => 0)
