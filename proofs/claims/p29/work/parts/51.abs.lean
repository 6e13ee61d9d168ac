/-! The abstract state: cells, entries, stamps, walkers; what the two hold of it. -/
/-- entries: begin, width (0: a tombstone), value, kind, fired -/
abbrev EnT := (Nat → Nat) × (Nat → Nat) × (Nat → Nat) × (Nat → Nat) × (Nat → Int32)
/-- cells, entries' number, stamps, entries, walkers (0 ahead, 1 behind, k + 2 at the k-th), the four counters -/
abbrev AbT := Nat × Nat × (Nat → Nat) × EnT × (Nat → Nat) × (Nat → Int32)
section
variable (a : AbT)
abbrev aC : Nat := a.1
abbrev aN : Nat := a.2.1
abbrev aS : Nat → Nat := a.2.2.1
abbrev aE : EnT := a.2.2.2.1
abbrev aB : Nat → Nat := a.2.2.2.1.1
abbrev aW : Nat → Nat := a.2.2.2.1.2.1
abbrev aV : Nat → Nat := a.2.2.2.1.2.2.1
abbrev aK : Nat → Nat := a.2.2.2.1.2.2.2.1
abbrev aF : Nat → Int32 := a.2.2.2.1.2.2.2.2
abbrev aP : Nat → Nat := a.2.2.2.2.1
abbrev aT : Nat → Int32 := a.2.2.2.2.2
/-- the j-th entry lies over the cell c -/
def aCov (j c : Nat) : Prop := aB a j ≤ c ∧ c < aB a j + aW a j
end
/-- what holds of every state that the calls reach -/
def aOk (a : AbT) : Prop := (aC a = 16 ∨ aC a = 32 ∨ aC a = 64) ∧ aN a ≤ 68 ∧ (∀ j, j < aN a → 0 < aW a j → aW a j ≤ 4 ∧ aB a j + aW a j ≤ aC a ∧ aV a j ≤ 999 ∧ aK a j ≤ 2) ∧
  (∀ i j c, i < aN a → j < aN a → aCov a i c → aCov a j c → i = j) ∧ (∀ j, j < aN a → aW a j = 0 → ∃ i, i < 4 ∧ aP a i = j + 2) ∧ (∀ i, i < 4 → aP a i < aN a + 2) ∧ ∀ c, aS a c < 1000
/-- a walker's place, as the model has it -/
def pM (k : Nat) : Int32 := if k = 0 then -1 else if k = 1 then 99 else nI (k - 2)
/-- .. and as the class has it -/
def pC (k : Nat) : Int32 := if k = 0 then -1 else if k = 1 then -2 else nI (k - 2)
/-- the model's array -/
def mV (a : AbT) (m : Fn) : Prop := m 0 = nI (aC a) ∧ m 1 = nI (aN a) ∧ (∀ i, i < 4 → m (2 + i) = aT a i) ∧ (∀ c, c < 64 → m (6 + c) = nI (aS a c)) ∧
  (∀ j, j < aN a → m (70 + 5 * j) = (if aW a j = 0 then -1 else nI (aB a j)) ∧ m (70 + 5 * j + 1) = nI (aW a j) ∧ m (70 + 5 * j + 2) = nI (if aW a j = 0 then 0 else aV a j) ∧ m (70 + 5 * j + 3) = nI (if aW a j = 0 then 0 else aK a j) ∧ m (70 + 5 * j + 4) = (if aW a j = 0 then 0 else aF a j)) ∧ ∀ i, i < 4 → m (410 + i) = pM (aP a i)
/-- the class's cells -/
def sV (a : AbT) (x : SlC) : Prop := x.1 = nI (aC a) ∧ (∀ c, c < 64 → x.2.1 c = nI (aS a c)) ∧ (∀ j c, j < aN a → c < 64 → aCov a j c → x.2.2.1 c = nI (aB a j)) ∧ (∀ c, c < 64 → (∀ j, j < aN a → ¬ aCov a j c) → x.2.2.1 c = -1) ∧
  (∀ j, j < aN a → 0 < aW a j → x.2.2.2.1 (aB a j) = nI (aW a j) ∧ x.2.2.2.2.1 (aB a j) = nI (aV a j) ∧ x.2.2.2.2.2.1 (aB a j) = nI (aK a j) ∧ x.2.2.2.2.2.2 (aB a j) = aF a j) ∧ ∀ c, c < 64 → (∀ j, j < aN a → 0 < aW a j → aB a j ≠ c) → x.2.2.2.1 c = 0
/-- the class's row -/
def rV (a : AbT) (x : RwC) : Prop := x.1 = nI (aN a) ∧ (∀ j, j < aN a → x.2.1 j = if aW a j = 0 then -1 else nI (aB a j)) ∧ ∀ i, i < 4 → x.2.2 i = pC (aP a i)
/-- the class's state -/
def cV (a : AbT) (x : StC) : Prop := sV a x.1 ∧ rV a x.2.1 ∧ x.2.2.2.1 = aT a 0 ∧ x.2.2.2.2.1 = aT a 1 ∧ x.2.2.2.2.2.1 = aT a 2 ∧ x.2.2.2.2.2.2 = aT a 3
theorem aOk.C (a : AbT) (hq : aOk a) : aC a ≤ 64 ∧ 16 ≤ aC a := by
  rcases hq.1 with h1 | h1 | h1 <;> omega
