def f_X2_init_60 : Nat → Int32 → SlC → Option (SlC)
  | 0, _, _ => none
  | fu + 1, v1, x =>
    if 64 ≤ v1 then
      some x
    else
      gi v1 64 <|
      f_X2_init_60 fu (v1 + 1) (x.1, x.2.1, (upd x.2.2.1 v1.toNatClampNeg (-1)), x.2.2.2)
def f_X2_init : Option SlC :=
  f_X2_init_60 FU 0 (16, (fun _ => 0), (fun _ => 0), (fun _ => 0), (fun _ => 0), (fun _ => 0), (fun _ => 0))
def f_X1_init_26 : Nat → Int32 → RwC → Option (RwC)
  | 0, _, _ => none
  | fu + 1, v1, x =>
    if 4 ≤ v1 then
      some x
    else
      gi v1 4 <|
      f_X1_init_26 fu (v1 + 1) (x.1, x.2.1, (upd x.2.2 v1.toNatClampNeg (-1)))
def f_X1_init : Option RwC :=
  f_X1_init_26 FU 0 (0, (fun _ => 0), (fun _ => 0))
def f_X4_init : Option TxC := some (fun _ => 0, 0)
def f_X3_init : Option StC :=
  Option.bind f_X2_init fun z1 =>
  Option.bind f_X1_init fun z2 =>
  some (z1, z2, fun _ => 0, 0, 0, 0, 0)
def f_X0_init : Option HiC :=
  Option.bind f_X3_init fun z1 =>
  some (fun _ => z1, 0)
def f_X5_init : Option ClC :=
  Option.bind f_X3_init fun z1 =>
  Option.bind f_X0_init fun z2 =>
  Option.bind f_X4_init fun z3 =>
  some (z1, z1, z2, z3)
