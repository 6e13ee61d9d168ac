/-- the handle of the entry j -/
def aHd (a : AbT) (j : Nat) : Nat := 1000 * aB a j + aS a (aB a j)
theorem m_handleOf {a : AbT} {m : Fn} (ho : aOk a) (hm : mV a m) {j : Nat} (hj : j < aN a) (hw : 0 < aW a j) : f_X6_handleOf (nI j) m = some (nI (aHd a j)) := by
  have hN := ho.2.1
  have hC := aOk.C a ho
  have h9 := ho.2.2.1 j hj hw
  unfold f_X6_handleOf aHd
  rw [li0, m_of (by omega), Option.bind_some, Option.bind_some, Nat.add_zero, (hm.2.2.2.2.1 j hj).1, if_neg (show ¬ aW a j = 0 by omega), li6, nI_add, gi_in (by omega) (by decide), nI_clamp (by omega), hm.2.2.2.1 _ (by omega), li1000, nI_mul, nI_add]
theorem w_handle {a : AbT} {x : SlC} (ho : aOk a) (hv : sV a x) {j : Nat} (hj : j < aN a) (hw : 0 < aW a j) : f_X2_handleOf (nI (aB a j)) x = some (nI (aHd a j)) := by
  have hC := aOk.C a ho
  have h9 := ho.2.2.1 j hj hw
  rw [w_handleOf ho hv (by omega), if_pos (by omega)]
  rfl
/-- what a walker tells of the thing under it -/
def aUnd (a : AbT) (i : Nat) : Int32 := if 2 ≤ aP a i ∧ ¬ aW a (aP a i - 2) = 0 then nI (aHd a (aP a i - 2)) else -1
theorem w_thingUnder {a : AbT} {x : RwC} (ho : aOk a) (hr : rV a x) {i : Nat} (hi : i < 4) : f_X1_thingUnder (nI i) x = some (if 2 ≤ aP a i ∧ ¬ aW a (aP a i - 2) = 0 then nI (aB a (aP a i - 2)) else -1) := by
  have hN := ho.2.1
  have h0 := ho.2.2.2.2.2.1 i hi
  unfold f_X1_thingUnder
  rw [w_indexUnder hr hi, Option.bind_some]
  by_cases h2 : 2 ≤ aP a i
  · rw [pC_at2 h2, w_thI hr.1 (by omega) hN, Option.bind_some, hr.2.1 _ (by omega)]
    by_cases h3 : aW a (aP a i - 2) = 0
    · rw [if_pos h3, if_neg (fun h => h.2 h3)]
    · rw [if_neg h3, if_pos ⟨h2, h3⟩]
  · have h3 : pC (aP a i) < 0 := by
      unfold pC
      by_cases h4 : aP a i = 0
      · rw [if_pos h4]; decide
      · rw [if_neg h4, if_pos (by omega)]; decide
    unfold f_X1_thingIn f_X1_isEntry
    rw [if_pos h3, Option.bind_some, if_pos rfl, Option.bind_some, if_neg (fun h => h2 h.1)]
theorem w_under {a : AbT} {x : StC} (ho : aOk a) (hx : cV a x) {i : Nat} (hi : i < 4) : (Option.bind (f_X1_thingUnder (nI i) x.2.1) fun z => f_X2_handleOf z x.1) = some (aUnd a i) := by
  have h0 := ho.2.2.2.2.2.1 i hi
  rw [w_thingUnder ho hx.2.1 hi, Option.bind_some]
  unfold aUnd
  by_cases h1 : 2 ≤ aP a i ∧ ¬ aW a (aP a i - 2) = 0
  · rw [if_pos h1, if_pos h1]
    exact w_handle ho hx.1 (by omega) (by omega)
  · rw [if_neg h1, if_neg h1]
    exact w_handleOf_neg (by decide)
theorem m_under {a : AbT} {x : MdC} (ho : aOk a) (hm : mV a x.2.1) {i : Nat} (hi : i < 4) : f_X6_underHandle (nI i) x = some (aUnd a i) := by
  have h0 := ho.2.2.2.2.2.1 i hi
  unfold f_X6_underHandle aUnd
  rw [m_stands ho hm hi, Option.bind_some]
  unfold aStd
  by_cases h1 : aP a i = 0
  · rw [if_pos h1, if_neg (by decide), if_neg (fun h => by omega)]
  · by_cases h2 : aP a i = 1
    · rw [if_neg h1, if_pos h2, if_neg (by decide), if_neg (fun h => by omega)]
    · rw [if_neg h1, if_neg h2]
      by_cases h3 : aW a (aP a i - 2) = 0
      · rw [if_pos h3, if_neg (by decide), if_neg (fun h => h.2 h3)]
      · rw [if_neg h3, if_pos rfl, if_pos ⟨by omega, h3⟩, li410, nI_add, gi_in (by omega) (by decide), nI_clamp (by omega), hm.2.2.2.2.2 i hi, pM_at2 (by omega), m_handleOf ho hm (by omega) (by omega)]
        rfl
