/-! The pure side. Numbers: what the f_.. say of small numbers, in Nat. -/
theorem li0 : (0 : Int32) = nI 0 := rfl
theorem li1 : (1 : Int32) = nI 1 := rfl
theorem li2 : (2 : Int32) = nI 2 := rfl
theorem li3 : (3 : Int32) = nI 3 := rfl
theorem li4 : (4 : Int32) = nI 4 := rfl
theorem li5 : (5 : Int32) = nI 5 := rfl
theorem li6 : (6 : Int32) = nI 6 := rfl
theorem li9 : (9 : Int32) = nI 9 := rfl
theorem li64 : (64 : Int32) = nI 64 := rfl
theorem li68 : (68 : Int32) = nI 68 := rfl
theorem li60 : (60 : Int32) = nI 60 := rfl
theorem li70 : (70 : Int32) = nI 70 := rfl
theorem li99 : (99 : Int32) = nI 99 := rfl
theorem li410 : (410 : Int32) = nI 410 := rfl
theorem li414 : (414 : Int32) = nI 414 := rfl
theorem li999 : (999 : Int32) = nI 999 := rfl
theorem li1000 : (1000 : Int32) = nI 1000 := rfl
theorem nI_mul (a b : Nat) : nI a * nI b = nI (a * b) := (Int32.ofNat_mul a b).symm
theorem nI_sub {a b : Nat} (hq : b ≤ a) : nI a - nI b = nI (a - b) := by
  have h1 : nI a = nI (a - b) + nI b := by rw [nI_add, Nat.sub_add_cancel hq]
  rw [h1, Int32.add_sub_cancel]
theorem nI_div {a b : Nat} (ha : a < 2 ^ 31) (hb : b < 2 ^ 31) : nI a / nI b = nI (a / b) := by
  apply Int32.toInt_inj.mp
  have h1 : a / b ≤ a := Nat.div_le_self a b
  rw [Int32.toInt_div, nI_toInt ha, nI_toInt hb, nI_toInt (by omega), ← Int.ofNat_tdiv]
  generalize a / b = q at h1 ⊢
  exact Int.bmod_eq_of_le (by omega) (by omega)
theorem nI_m1 {a : Nat} (ha : a < 2 ^ 31) : ¬ nI a = -1 := by
  intro hq
  have h1 := congrArg Int32.toInt hq
  rw [nI_toInt ha] at h1
  have h2 : (-1 : Int32).toInt = -1 := by decide
  omega
theorem nI_m2 {a : Nat} (ha : a < 2 ^ 31) : ¬ nI a = -2 := by
  intro hq
  have h1 := congrArg Int32.toInt hq
  rw [nI_toInt ha] at h1
  have h2 : (-2 : Int32).toInt = -2 := by decide
  omega
theorem gi_in {α : Type} {c n : Nat} {k : Option α} (hq : c < n) (hn : n < 2 ^ 31) : gi (nI c) n k = k := by
  unfold gi
  rw [if_pos (nI_in hq hn)]
theorem up_eq (f : Fn) (i : Nat) (v : Int32) : upd f i v i = v := by simp [upd]
theorem up_ne (f : Fn) {i j : Nat} (v : Int32) (hq : j ≠ i) : upd f i v j = f j := by simp [upd, hq]
/-- the remainder as the program writes it -/
theorem nI_mod {a b : Nat} (ha : a < 2 ^ 31) (hb : b < 2 ^ 31) : nI a - nI a / nI b * nI b = nI (a % b) := by
  rw [nI_div ha hb, nI_mul, nI_sub (Nat.div_mul_le_self a b)]
  congr 1
  have h1 := Nat.div_add_mod a b
  rw [Nat.mul_comm] at h1
  omega
theorem nI_neg {n : Nat} (hq : n < 2 ^ 31) : ¬ nI n < nI 0 := nI_pos hq
