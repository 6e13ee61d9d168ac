/-! What a walker's readers say. -/
def aStd (a : AbT) (i : Nat) : Int32 := if aP a i = 0 then 0 else if aP a i = 1 then 3 else if aW a (aP a i - 2) = 0 then 2 else 1
theorem w_indexUnder {a : AbT} {x : RwC} (hr : rV a x) {i : Nat} (hi : i < 4) : f_X1_indexUnder (nI i) x = some (pC (aP a i)) := by
  unfold f_X1_indexUnder
  rw [w_isWalker hi, Option.bind_some, if_neg (by decide), gi_in hi (by decide), nI_clamp (by omega), hr.2.2 i hi]
theorem pC_at2 {k : Nat} (hq : 2 ≤ k) : pC k = nI (k - 2) := by unfold pC; rw [if_neg (by omega), if_neg (by omega)]
theorem pM_at2 {k : Nat} (hq : 2 ≤ k) : pM k = nI (k - 2) := by unfold pM; rw [if_neg (by omega), if_neg (by omega)]
theorem w_standOf {a : AbT} {x : RwC} (ho : aOk a) (hr : rV a x) {i : Nat} (hi : i < 4) : f_X1_standOf (nI i) x = some (aStd a i) := by
  have hN := ho.2.1
  have h0 := ho.2.2.2.2.2.1 i hi
  unfold f_X1_standOf aStd
  rw [w_indexUnder hr hi, Option.bind_some]
  by_cases h1 : aP a i = 0
  · rw [h1, if_neg (by decide), if_pos (by decide), if_pos rfl]
  · by_cases h2 : aP a i = 1
    · rw [h2, if_pos (by decide), if_neg (by decide), if_pos rfl]
    · rw [pC_at2 (by omega), if_neg (nI_m2 (by omega)), if_neg (nI_m1 (by omega)), w_thI hr.1 (by omega) hN, Option.bind_some, if_neg h1, if_neg h2]
      by_cases h3 : aW a (aP a i - 2) = 0
      · rw [if_pos ((rV.m1 ho hr (by omega)).mpr h3), if_pos h3]
      · rw [if_neg (fun h => h3 ((rV.m1 ho hr (by omega)).mp h)), if_neg h3]
theorem m_stands {a : AbT} {m : Fn} (ho : aOk a) (hm : mV a m) {i : Nat} (hi : i < 4) : f_X6_stands (nI i) m = some (aStd a i) := by
  have hN := ho.2.1
  have h0 := ho.2.2.2.2.2.1 i hi
  unfold f_X6_stands aStd
  rw [li410, nI_add, gi_in (by omega) (by decide), nI_clamp (by omega), hm.2.2.2.2.2 i hi]
  by_cases h1 : aP a i = 0
  · rw [h1, if_neg (by decide), if_pos rfl]
  · by_cases h2 : aP a i = 1
    · rw [h2, if_pos (by decide), if_pos (by decide), if_neg (by decide), if_pos rfl]
    · rw [pM_at2 (by omega), if_pos (nI_pos' (by omega)), if_neg (show ¬ nI (aP a i - 2) = 99 from fun h => by rw [li99] at h; have := (nI_eq (by omega) (by omega)).mp h; omega), m_isThing ho hm (by omega), Option.bind_some, if_neg h1, if_neg h2]
      by_cases h3 : aW a (aP a i - 2) = 0
      · rw [if_pos h3, if_pos rfl, if_pos h3]
      · rw [if_neg h3, if_neg (by decide), if_neg h3]
