/-! Slots, against the abstract state. -/
theorem w_isCell {a : AbT} {x : SlC} (ho : aOk a) (hv : sV a x) {c : Nat} (hc : c < 2 ^ 31) : f_X2_isCell (nI c) x = some (if c < aC a then 1 else 0) := by
  have h1 := aOk.C a ho
  unfold f_X2_isCell
  rw [hv.1, li0, li64, if_neg (nI_neg hc)]
  by_cases h2 : c < aC a
  · rw [if_neg (fun h3 => by rw [nI_leI (by omega) hc] at h3; omega), if_neg (fun h3 => by rw [nI_leI (by omega) hc] at h3; omega), if_pos h2]
  · rw [if_pos ((nI_leI (by omega) hc).mpr (by omega)), if_neg h2]
theorem w_isCell_neg {x : SlC} {p : Int32} (hp : p < 0) : f_X2_isCell p x = some 0 := by
  unfold f_X2_isCell
  rw [if_pos hp]
theorem w_stampAt {a : AbT} {x : SlC} (ho : aOk a) (hv : sV a x) {c : Nat} (hc : c < 2 ^ 31) : f_X2_stampAt (nI c) x = some (if c < aC a then nI (aS a c) else 0) := by
  have h1 := aOk.C a ho
  unfold f_X2_stampAt
  rw [w_isCell ho hv hc, Option.bind_some]
  by_cases h2 : c < aC a
  · rw [if_pos h2, if_pos h2, if_neg (by decide), gi_in (by omega) (by decide), nI_clamp hc, hv.2.1 c (by omega)]
  · rw [if_neg h2, if_neg h2, if_pos rfl]
theorem w_ownerOf {a : AbT} {x : SlC} (ho : aOk a) (hv : sV a x) {c : Nat} (hc : c < 2 ^ 31) : f_X2_ownerOf (nI c) x = some (if c < aC a then x.2.2.1 c else -1) := by
  have h1 := aOk.C a ho
  unfold f_X2_ownerOf
  rw [w_isCell ho hv hc, Option.bind_some]
  by_cases h2 : c < aC a
  · rw [if_pos h2, if_pos h2, if_neg (by decide), gi_in (by omega) (by decide), nI_clamp hc]
  · rw [if_neg h2, if_neg h2, if_pos rfl]
theorem w_sizeAt {a : AbT} {x : SlC} (ho : aOk a) (hv : sV a x) {c : Nat} (hc : c < 2 ^ 31) : f_X2_sizeAt (nI c) x = some (if c < aC a then x.2.2.2.1 c else 0) := by
  have h1 := aOk.C a ho
  unfold f_X2_sizeAt
  rw [w_isCell ho hv hc, Option.bind_some]
  by_cases h2 : c < aC a
  · rw [if_pos h2, if_pos h2, if_neg (by decide), gi_in (by omega) (by decide), nI_clamp hc]
  · rw [if_neg h2, if_neg h2, if_pos rfl]
theorem w_valueAt {a : AbT} {x : SlC} (ho : aOk a) (hv : sV a x) {c : Nat} (hc : c < 2 ^ 31) : f_X2_valueAt (nI c) x = some (if c < aC a then x.2.2.2.2.1 c else 0) := by
  have h1 := aOk.C a ho
  unfold f_X2_valueAt
  rw [w_isCell ho hv hc, Option.bind_some]
  by_cases h2 : c < aC a
  · rw [if_pos h2, if_pos h2, if_neg (by decide), gi_in (by omega) (by decide), nI_clamp hc]
  · rw [if_neg h2, if_neg h2, if_pos rfl]
theorem w_kindAt {a : AbT} {x : SlC} (ho : aOk a) (hv : sV a x) {c : Nat} (hc : c < 2 ^ 31) : f_X2_kindAt (nI c) x = some (if c < aC a then x.2.2.2.2.2.1 c else 0) := by
  have h1 := aOk.C a ho
  unfold f_X2_kindAt
  rw [w_isCell ho hv hc, Option.bind_some]
  by_cases h2 : c < aC a
  · rw [if_pos h2, if_pos h2, if_neg (by decide), gi_in (by omega) (by decide), nI_clamp hc]
  · rw [if_neg h2, if_neg h2, if_pos rfl]
theorem w_timesFired {a : AbT} {x : SlC} (ho : aOk a) (hv : sV a x) {c : Nat} (hc : c < 2 ^ 31) : f_X2_timesFired (nI c) x = some (if c < aC a then x.2.2.2.2.2.2 c else 0) := by
  have h1 := aOk.C a ho
  unfold f_X2_timesFired
  rw [w_isCell ho hv hc, Option.bind_some]
  by_cases h2 : c < aC a
  · rw [if_pos h2, if_pos h2, if_neg (by decide), gi_in (by omega) (by decide), nI_clamp hc]
  · rw [if_neg h2, if_neg h2, if_pos rfl]
theorem w_handleOf {a : AbT} {x : SlC} (ho : aOk a) (hv : sV a x) {c : Nat} (hc : c < 2 ^ 31) : f_X2_handleOf (nI c) x = some (if c < aC a then nI (1000 * c + aS a c) else -1) := by
  have h1 := aOk.C a ho
  unfold f_X2_handleOf
  rw [w_isCell ho hv hc, Option.bind_some]
  by_cases h2 : c < aC a
  · rw [if_pos h2, if_pos h2, if_neg (by decide), gi_in (by omega) (by decide), nI_clamp hc, hv.2.1 c (by omega), li1000, nI_mul, nI_add, Nat.mul_comm c]
  · rw [if_neg h2, if_neg h2, if_pos rfl]
theorem w_handleOf_neg {x : SlC} {p : Int32} (hp : p < 0) : f_X2_handleOf p x = some (-1) := by
  unfold f_X2_handleOf
  rw [w_isCell_neg hp, Option.bind_some, if_pos rfl]
/-- is the cell c free? (also beyond the cells that there are) -/
def aFr (a : AbT) (c : Nat) : Prop := ∀ j, j < aN a → ¬ aCov a j c
theorem w_owner_iff {a : AbT} {x : SlC} (ho : aOk a) (hv : sV a x) {c : Nat} (hc : c < 64) : x.2.2.1 c = -1 ↔ aFr a c := by
  have h1 := aOk.C a ho
  constructor
  · intro h2 j hj h3
    have h4 := hv.2.2.1 j c hj hc h3
    rw [h2] at h4
    have h5 := ho.2.2.1 j hj (by unfold aCov at h3; omega)
    exact nI_m1 (by omega) h4.symm
  · exact hv.2.2.2.1 c hc
