/-! The pure side: what an object holds, as tuples; guards; and the worlds that hold them. -/
abbrev Fn := Nat → Int32
abbrev FnL := Nat → Int64
/-- Slots: cells, stamps, owners, sizes, values, kinds, fired -/
abbrev SlC := Int32 × Fn × Fn × Fn × Fn × Fn × Fn
/-- Row: length, entries, stands -/
abbrev RwC := Int32 × Fn × Fn
/-- State: slots, row, toFire, events, thingsPut, thingsRemoved, thingsMoved -/
abbrev StC := SlC × RwC × Fn × Int32 × Int32 × Int32 × Int32
/-- ThingText: codes, length -/
abbrev TxC := Fn × Int32
/-- History: the saved states by their places, length -/
abbrev HiC := (Nat → StC) × Int32
/-- StampedSlots: now, trial, history, buffer -/
abbrev ClC := StC × StC × HiC × TxC
/-- the model: thrown, now, then, past, states, buffer, length, spot, told, toldMany, hash -/
abbrev MdC := Int32 × Fn × Fn × Fn × Int32 × Fn × Int32 × Int32 × Fn × Int32 × Int64
/-- how often a loop may turn -/
def FU : Nat := 6000
def gi {α : Type} (i : Int32) (n : Nat) (k : Option α) : Option α := if ¬ (i < 0 ∨ n ≤ i.toNatClampNeg) then k else none
def gd {α : Type} (y : Int32) (k : Option α) : Option α := if ¬ y = 0 then k else none
def gz {α : Type} (v : Int32) (k : Option α) : Option α := if v = 0 ∨ v = 1 then k else none
def gf {α : Type} (x : UInt64) (k : Option α) : Option α := if x &&& 0x7fffffffffffffff ≤ 0x7ff0000000000000 then k else none
def gcp {α : Type} (sp dp n : Int32) (n0 n1 : Nat) (k : Option α) : Option α := if ¬ sp < 0 ∧ ¬ dp < 0 ∧ ¬ n < 0 ∧ sp.toNatClampNeg + n.toNatClampNeg ≤ n0 ∧ dp.toNatClampNeg + n.toNatClampNeg ≤ n1 then k else none
/-- what a call that may throw returns -/
def rt {α β : Type} (o : Option (Nat ⊕ α)) (k : α → Option β) : Option β := match o with
  | some (.inr v) => k v
  | _ => none
/-- .. and what is done where it throws -/
def ct {α β : Type} (o : Option (Nat ⊕ α)) (k : α → Option β) (x : Nat → Option β) : Option β := match o with
  | some (.inr v) => k v
  | some (.inl n) => x n
  | none => none
section
variable {α β : Type} {o : β}
theorem gi_s {i : Int32} {n : Nat} {k : Option β} (h : gi i n k = some o) : vp_in i n ∧ k = some o := by
  unfold gi at h
  by_cases c : ¬ (i < 0 ∨ n ≤ i.toNatClampNeg)
  · rw [if_pos c] at h; exact ⟨c, h⟩
  · rw [if_neg c] at h; cases h
theorem gd_s {y : Int32} {k : Option β} (h : gd y k = some o) : ¬ y = 0 ∧ k = some o := by
  unfold gd at h
  by_cases c : ¬ y = 0
  · rw [if_pos c] at h; exact ⟨c, h⟩
  · rw [if_neg c] at h; cases h
theorem gz_s {y : Int32} {k : Option β} (h : gz y k = some o) : (y = 0 ∨ y = 1) ∧ k = some o := by
  unfold gz at h
  by_cases c : y = 0 ∨ y = 1
  · rw [if_pos c] at h; exact ⟨c, h⟩
  · rw [if_neg c] at h; cases h
theorem gf_s {x : UInt64} {k : Option β} (h : gf x k = some o) : vf_n64 x ∧ k = some o := by
  unfold gf at h
  by_cases c : x &&& 0x7fffffffffffffff ≤ 0x7ff0000000000000
  · rw [if_pos c] at h; exact ⟨c, h⟩
  · rw [if_neg c] at h; cases h
theorem gcp_s {sp dp n : Int32} {n0 n1 : Nat} {k : Option β} (h : gcp sp dp n n0 n1 k = some o) : (¬ sp < 0 ∧ ¬ dp < 0 ∧ ¬ n < 0 ∧ sp.toNatClampNeg + n.toNatClampNeg ≤ n0 ∧ dp.toNatClampNeg + n.toNatClampNeg ≤ n1) ∧ k = some o := by
  unfold gcp at h
  by_cases c : ¬ sp < 0 ∧ ¬ dp < 0 ∧ ¬ n < 0 ∧ sp.toNatClampNeg + n.toNatClampNeg ≤ n0 ∧ dp.toNatClampNeg + n.toNatClampNeg ≤ n1
  · rw [if_pos c] at h; exact ⟨c, h⟩
  · rw [if_neg c] at h; cases h
theorem bd_s {r : Option α} {k : α → Option β} (h : Option.bind r k = some o) : ∃ v, r = some v ∧ k v = some o := by
  cases r with
  | none => cases h
  | some v => exact ⟨v, rfl, h⟩
theorem rt_s {r : Option (Nat ⊕ α)} {k : α → Option β} (h : rt r k = some o) : ∃ v, r = some (.inr v) ∧ k v = some o := by
  cases r with
  | none => cases h
  | some v => cases v with
    | inl n => cases h
    | inr v => exact ⟨v, rfl, h⟩
theorem ct_s {r : Option (Nat ⊕ α)} {k : α → Option β} {x : Nat → Option β} (h : ct r k x = some o) : (∃ v, r = some (.inr v) ∧ k v = some o) ∨ ∃ n, r = some (.inl n) ∧ x n = some o := by
  cases r with
  | none => cases h
  | some v => cases v with
    | inl n => exact Or.inr ⟨n, rfl, h⟩
    | inr v => exact Or.inl ⟨v, rfl, h⟩
end
/-! Switches, and the worlds that hold the pure values. -/
-- switches
theorem sw_out {x : Int32} {lo hi : Int} (h : ∀ k : Int, lo ≤ k → k ≤ hi → x.toInt ≠ k) : x.toInt < lo ∨ hi < x.toInt := by
  rcases Int.lt_or_le x.toInt lo with q | q
  · exact Or.inl q
  · rcases Int.lt_or_le hi x.toInt with r | r
    · exact Or.inr r
    · exact absurd rfl (h x.toInt q r)
theorem sw_ne {x : Int32} (j : Int32) (k : Int) (hk : j.toInt = k) (h : ¬ x = j) : x.toInt ≠ k := fun e => h (Int32.toInt_inj.mp (e.trans hk.symm))
-- worlds
section
variable (I J O : ClassId)
abbrev wAr (a : Nat) (n : Nat) (f : Fn) : va_W := [(a, .inl (I, n, .inl f))]
abbrev wLo (a : Nat) (n : Nat) (f : FnL) : va_W := [(a, .inl (J, n, .inr (.inl f)))]
abbrev wSl (a0 a1 a2 a3 a4 a5 a6 : Nat) (x : SlC) : va_W := [(a0, .inr (2, [.int x.1, .ref a1, .ref a2, .ref a3, .ref a4, .ref a5, .ref a6])), (a1, .inl (I, 64, .inl x.2.1)), (a2, .inl (I, 64, .inl x.2.2.1)), (a3, .inl (I, 64, .inl x.2.2.2.1)), (a4, .inl (I, 64, .inl x.2.2.2.2.1)), (a5, .inl (I, 64, .inl x.2.2.2.2.2.1)), (a6, .inl (I, 64, .inl x.2.2.2.2.2.2))]
abbrev wRw (a0 a1 a2 : Nat) (x : RwC) : va_W := [(a0, .inr (1, [.int x.1, .ref a1, .ref a2])), (a1, .inl (I, 68, .inl x.2.1)), (a2, .inl (I, 4, .inl x.2.2))]
abbrev wTx (a0 a1 : Nat) (x : TxC) : va_W := [(a0, .inr (4, [.ref a1, .int x.2])), (a1, .inl (I, 60, .inl x.1))]
abbrev wSt (n : Nat → Nat) (x : StC) : va_W := [(n 0, .inr (3, [.ref (n 1), .ref (n 8), .ref (n 11), .int x.2.2.2.1, .int x.2.2.2.2.1, .int x.2.2.2.2.2.1, .int x.2.2.2.2.2.2])),
  (n 1, .inr (2, [.int x.1.1, .ref (n 2), .ref (n 3), .ref (n 4), .ref (n 5), .ref (n 6), .ref (n 7)])), (n 2, .inl (I, 64, .inl x.1.2.1)), (n 3, .inl (I, 64, .inl x.1.2.2.1)), (n 4, .inl (I, 64, .inl x.1.2.2.2.1)), (n 5, .inl (I, 64, .inl x.1.2.2.2.2.1)), (n 6, .inl (I, 64, .inl x.1.2.2.2.2.2.1)), (n 7, .inl (I, 64, .inl x.1.2.2.2.2.2.2)),
  (n 8, .inr (1, [.int x.2.1.1, .ref (n 9), .ref (n 10)])), (n 9, .inl (I, 68, .inl x.2.1.2.1)), (n 10, .inl (I, 4, .inl x.2.1.2.2)), (n 11, .inl (I, 64, .inl x.2.2.1))]
abbrev wMd (a0 a1 a2 a3 a4 a5 : Nat) (x : MdC) : va_W := [(a0, .inr (6, [.int x.1, .ref a1, .ref a2, .ref a3, .int x.2.2.2.2.1, .ref a4, .int x.2.2.2.2.2.2.1, .int x.2.2.2.2.2.2.2.1, .ref a5, .int x.2.2.2.2.2.2.2.2.2.1, .long x.2.2.2.2.2.2.2.2.2.2])),
  (a1, .inl (I, 414, .inl x.2.1)), (a2, .inl (I, 414, .inl x.2.2.1)), (a3, .inl (I, 2484, .inl x.2.2.2.1)), (a4, .inl (I, 60, .inl x.2.2.2.2.2.1)), (a5, .inl (I, 63, .inl x.2.2.2.2.2.2.2.2.1))]
end
theorem q_max : Cond.code Lib.Math.max.name Lib.Math.max.code 2 (some .int) ∈ B0 := B0_of (List.mem_append_right _ (by decide +kernel)) (by decide +kernel)

