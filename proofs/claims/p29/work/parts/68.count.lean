/-! Counting things in the row. -/
def aCnt (a : AbT) : Nat → Nat
  | 0 => 0
  | j + 1 => aCnt a j + if aW a j = 0 then 0 else 1
theorem aCnt.mono {a : AbT} {i : Nat} : ∀ j, i ≤ j → aCnt a i ≤ aCnt a j := by
  intro j
  induction j with
  | zero => intro h1; rw [show i = 0 by omega]; omega
  | succ j ih =>
    intro h1
    by_cases h2 : i = j + 1
    · rw [h2]; omega
    · have h3 := ih (by omega)
      have h4 : aCnt a (j + 1) = aCnt a j + if aW a j = 0 then 0 else 1 := rfl
      omega
theorem aCnt.le {a : AbT} : ∀ j, aCnt a j ≤ j := by
  intro j
  induction j with
  | zero => exact Nat.le_refl 0
  | succ j ih =>
    have h4 : aCnt a (j + 1) = aCnt a j + if aW a j = 0 then 0 else 1 := rfl
    by_cases h5 : aW a j = 0
    · rw [if_pos h5] at h4; omega
    · rw [if_neg h5] at h4; omega
theorem aCnt.t {a : AbT} {j : Nat} (hq : aW a j = 0) : aCnt a (j + 1) = aCnt a j := by
  show aCnt a j + (if aW a j = 0 then 0 else 1) = aCnt a j
  rw [if_pos hq]; omega
theorem aCnt.f {a : AbT} {j : Nat} (hq : ¬ aW a j = 0) : aCnt a (j + 1) = aCnt a j + 1 := by
  show aCnt a j + (if aW a j = 0 then 0 else 1) = _
  rw [if_neg hq]
/-- an entry of the class's row is a tombstone -/
theorem rV.m1 {a : AbT} {x : RwC} (ho : aOk a) (hr : rV a x) {j : Nat} (hj : j < aN a) : x.2.1 j = -1 ↔ aW a j = 0 := by
  have hC := aOk.C a ho
  rw [hr.2.1 j hj]
  by_cases h1 : aW a j = 0
  · rw [if_pos h1]; exact ⟨fun _ => h1, fun _ => rfl⟩
  · have h2 := ho.2.2.1 j hj (by omega)
    rw [if_neg h1]; exact ⟨fun h => absurd h (nI_m1 (by omega)), fun h => absurd h h1⟩
theorem w_from_loop {a : AbT} {x : RwC} (ho : aOk a) (hr : rV a x) : ∀ (fu i r : Nat), aN a - i < fu → i ≤ 100 → f_X1_thingsFrom_8 fu (nI r) (nI i) x = some (nI (r + (aCnt a (aN a) - aCnt a i))) := by
  have hN := ho.2.1
  intro fu
  induction fu with
  | zero => intro i r h1; omega
  | succ fu ih =>
    intro i r h1 h2
    rw [f_X1_thingsFrom_8.eq_2, hr.1, nI_1, nI_1]
    by_cases h4 : aN a ≤ i
    · rw [if_pos (nI_le h4 (by omega))]
      have h5 := aCnt.mono (a := a) i h4
      rw [show r + (aCnt a (aN a) - aCnt a i) = r by omega]
    · rw [if_neg (nI_ge (by omega) (by omega)), w_thI hr.1 (by omega) hN, Option.bind_some]
      have h5 := aCnt.mono (a := a) (i := i + 1) (aN a) (by omega)
      by_cases h6 : aW a i = 0
      · rw [if_pos ((rV.m1 ho hr (by omega)).mpr h6), ih (i + 1) r (by omega) (by omega), aCnt.t h6]
      · have h7 := aCnt.f (a := a) h6
        have h8 := aCnt.le (a := a) (aN a)
        rw [if_neg (fun h => h6 ((rV.m1 ho hr (by omega)).mp h)), ih (i + 1) (r + 1) (by omega) (by omega), show r + 1 + (aCnt a (aN a) - aCnt a (i + 1)) = r + (aCnt a (aN a) - aCnt a i) by omega]
theorem w_thingsFrom {a : AbT} {x : RwC} (ho : aOk a) (hr : rV a x) {p : Nat} (hp : p ≤ 100) : f_X1_thingsFrom (nI p) x = some (nI (aCnt a (aN a) - aCnt a p)) := by
  have hN := ho.2.1
  unfold f_X1_thingsFrom
  rw [if_neg (nI_pos (by omega)), li0, w_from_loop ho hr FU p 0 (by unfold FU; omega) hp, Nat.zero_add]
theorem w_things {a : AbT} {x : RwC} (ho : aOk a) (hr : rV a x) : f_X1_things x = some (nI (aCnt a (aN a))) := by
  unfold f_X1_things
  rw [li0, w_thingsFrom ho hr (by omega)]
  rfl
theorem m_things_loop {a : AbT} {m : Fn} (ho : aOk a) (hm : mV a m) : ∀ (fu i : Nat), aN a - i < fu → i ≤ aN a → f_X6_things_4 fu (nI (aCnt a i)) (nI i) m = some (nI (aCnt a (aN a))) := by
  have hN := ho.2.1
  intro fu
  induction fu with
  | zero => intro i h1; omega
  | succ fu ih =>
    intro i h1 h2
    have i1 : ∀ (kk : Option Int32), gi 1 414 kk = kk := fun kk => gi_in (c := 1) (by omega) (by decide)
    have c1 : (1 : Int32).toNatClampNeg = 1 := by decide
    rw [f_X6_things_4.eq_2, i1, c1, hm.2.1]
    by_cases h4 : i = aN a
    · rw [if_pos (nI_le (by omega) (by omega)), h4]
    · rw [if_neg (nI_ge (by omega) (by omega)), m_isThing ho hm (by omega), Option.bind_some]
      unfold f_X6_things_25
      rw [nI_1]
      by_cases h6 : aW a i = 0
      · rw [if_pos h6, if_pos rfl, Int32.add_zero, ← aCnt.t h6]
        exact ih (i + 1) (by omega) (by omega)
      · rw [if_neg h6, if_neg (by decide), nI_1, ← aCnt.f h6]
        exact ih (i + 1) (by omega) (by omega)
theorem m_things {a : AbT} {m : Fn} (ho : aOk a) (hm : mV a m) : f_X6_things m = some (nI (aCnt a (aN a))) := by
  have hN := ho.2.1
  unfold f_X6_things
  exact m_things_loop ho hm FU 0 (by unfold FU; omega) (by omega)
theorem m_place_loop {a : AbT} {x : MdC} (ho : aOk a) (hm : mV a x.2.1) {p : Nat} (hp : p ≤ aN a) : ∀ (fu i : Nat), p - i < fu → i ≤ p → f_X6_placeOf_4 fu (nI p) (nI (aCnt a i)) (nI i) x = some (nI (aCnt a p)) := by
  have hN := ho.2.1
  intro fu
  induction fu with
  | zero => intro i h1; omega
  | succ fu ih =>
    intro i h1 h2
    rw [f_X6_placeOf_4.eq_2]
    by_cases h4 : i = p
    · rw [if_pos (nI_le (by omega) (by omega)), h4]
    · rw [if_neg (nI_ge (by omega) (by omega)), m_isThing ho hm (by omega), Option.bind_some]
      unfold f_X6_placeOf_26
      rw [nI_1]
      by_cases h6 : aW a i = 0
      · rw [if_pos h6, if_pos rfl, Int32.add_zero, ← aCnt.t h6]
        exact ih (i + 1) (by omega) (by omega)
      · rw [if_neg h6, if_neg (by decide), nI_1, ← aCnt.f h6]
        exact ih (i + 1) (by omega) (by omega)
theorem m_placeOf {a : AbT} {x : MdC} (ho : aOk a) (hm : mV a x.2.1) {p : Nat} (hp : p ≤ aN a) : f_X6_placeOf (nI p) x = some (nI (aCnt a p)) := by
  have hN := ho.2.1
  unfold f_X6_placeOf
  exact m_place_loop ho hm hp FU 0 (by unfold FU; omega) (by omega)
theorem w_place_loop {a : AbT} {x : RwC} (ho : aOk a) (hr : rV a x) {q : Nat} (hq : q < aN a) (hw : 0 < aW a q) : ∀ (fu i : Nat), aN a - i < fu → i ≤ q → f_X1_placeOf_4 fu (nI (aB a q)) (nI (aCnt a i)) (nI i) x = some (nI (aCnt a q)) := by
  have hN := ho.2.1
  have hC := aOk.C a ho
  have h9 := ho.2.2.1 q hq hw
  intro fu
  induction fu with
  | zero => intro i h1; omega
  | succ fu ih =>
    intro i h1 h2
    rw [f_X1_placeOf_4.eq_2, hr.1, if_neg (nI_ge (by omega) (by omega)), w_thI hr.1 (by omega) hN, Option.bind_some, Option.bind_some, nI_1, nI_1]
    by_cases h3 : i = q
    · subst h3
      rw [if_pos (show x.2.1 i = nI (aB a i) from by rw [hr.2.1 i hq, if_neg (by omega)])]
    · have h4 : ¬ x.2.1 i = nI (aB a q) := by
        rw [hr.2.1 i (by omega)]
        by_cases h5 : aW a i = 0
        · rw [if_pos h5]; exact fun h6 => nI_m1 (by omega) h6.symm
        · rw [if_neg h5]
          have h6 := ho.2.2.1 i (by omega) (by omega)
          intro h7
          exact h3 (aB.inj ho (by omega) hq (by omega) hw ((nI_eq (by omega) (by omega)).mp h7))
      rw [if_neg h4]
      by_cases h6 : aW a i = 0
      · rw [if_pos ((rV.m1 ho hr (by omega)).mpr h6), ← aCnt.t h6]
        exact ih (i + 1) (by omega) (by omega)
      · rw [if_neg (fun h => h6 ((rV.m1 ho hr (by omega)).mp h)), ← aCnt.f h6]
        exact ih (i + 1) (by omega) (by omega)
theorem w_placeOf {a : AbT} {x : RwC} (ho : aOk a) (hr : rV a x) {q : Nat} (hq : q < aN a) (hw : 0 < aW a q) : f_X1_placeOf (nI (aB a q)) x = some (nI (aCnt a q)) := by
  have hN := ho.2.1
  unfold f_X1_placeOf
  exact w_place_loop ho hr hq hw FU 0 (by unfold FU; omega) (by omega)
