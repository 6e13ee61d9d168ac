/-! A thing by its place; what is behind a walker; a walker goes on. -/
theorem aCnt.inj {a : AbT} {i j : Nat} (hi : ¬ aW a i = 0) (hj : ¬ aW a j = 0) (hq : aCnt a i = aCnt a j) : i = j := by
  rcases Nat.lt_trichotomy i j with h | h | h
  · have h1 := aCnt.mono (a := a) (i := i + 1) j h
    rw [aCnt.f hi] at h1
    omega
  · exact h
  · have h1 := aCnt.mono (a := a) (i := j + 1) i h
    rw [aCnt.f hj] at h1
    omega
def aAt (a : AbT) (p : Nat) (r : Int32) : Prop := (∃ j, j < aN a ∧ ¬ aW a j = 0 ∧ aCnt a j = p ∧ r = nI (aHd a j)) ∨ (aCnt a (aN a) ≤ p ∧ r = -1)
theorem aAt.det {a : AbT} {p : Nat} {r s : Int32} (h1 : aAt a p r) (h2 : aAt a p s) : r = s := by
  have key : ∀ j, j < aN a → ¬ aW a j = 0 → aCnt a j = p → ¬ aCnt a (aN a) ≤ p := fun j q1 q2 q3 q4 => by
    have h3 := aCnt.mono (a := a) (i := j + 1) (aN a) q1
    rw [aCnt.f q2] at h3
    omega
  rcases h1 with ⟨j, e1, e2, e3, e4⟩ | ⟨e1, e2⟩ <;> rcases h2 with ⟨k, g1, g2, g3, g4⟩ | ⟨g1, g2⟩
  · rw [e4, g4, aCnt.inj e2 g2 (e3.trans g3.symm)]
  · exact absurd g1 (key j e1 e2 e3)
  · exact absurd e1 (key k g1 g2 g3)
  · rw [e2, g2]
theorem w_at_loop {a : AbT} {x : RwC} (ho : aOk a) (hr : rV a x) {p : Nat} (hp : p < 2 ^ 31) : ∀ (fu i : Nat), aN a - i < fu → i ≤ aN a → aCnt a i ≤ p → ∃ z, f_X1_thingAtPlace_4 fu (nI p) (nI (aCnt a i)) (nI i) x = some z ∧ ((∃ j, j < aN a ∧ ¬ aW a j = 0 ∧ aCnt a j = p ∧ z = nI (aB a j)) ∨ (aCnt a (aN a) ≤ p ∧ z = -1)) := by
  have hN := ho.2.1
  intro fu
  induction fu with
  | zero => intro i h1; omega
  | succ fu ih =>
    intro i h1 h2 h3
    have h8 := aCnt.le (a := a) i
    rw [f_X1_thingAtPlace_4.eq_2, hr.1]
    by_cases h4 : i = aN a
    · rw [if_pos (nI_le (by omega) (by omega))]
      exact ⟨_, rfl, Or.inr ⟨by rw [← h4]; exact h3, rfl⟩⟩
    · rw [if_neg (nI_ge (by omega) (by omega)), w_thI hr.1 (by omega) hN, Option.bind_some, nI_1, nI_1]
      by_cases h6 : aW a i = 0
      · rw [if_pos ((rV.m1 ho hr (by omega)).mpr h6), ← aCnt.t h6]
        exact ih (i + 1) (by omega) (by omega) (by rw [aCnt.t h6]; exact h3)
      · rw [if_neg (fun h => h6 ((rV.m1 ho hr (by omega)).mp h))]
        by_cases h7 : aCnt a i = p
        · rw [if_pos (show nI (aCnt a i) = nI p by rw [h7]), hr.2.1 i (by omega), if_neg h6]
          exact ⟨_, rfl, Or.inl ⟨i, by omega, h6, h7, rfl⟩⟩
        · rw [if_neg (fun h => h7 ((nI_eq (by omega) (by omega)).mp h)), ← aCnt.f h6]
          exact ih (i + 1) (by omega) (by omega) (by rw [aCnt.f h6]; omega)
theorem w_at {a : AbT} {x : ClC} (ho : aOk a) (hx : cV a x.1) {p : Nat} (hp : p < 2 ^ 31) : ∃ r, f_X5_at (nI p) x = some (.inr r) ∧ aAt a p r := by
  have hN := ho.2.1
  have hC := aOk.C a ho
  unfold f_X5_at f_X1_thingAtPlace
  obtain ⟨z, h1, h2⟩ := w_at_loop ho hx.2.1 hp FU 0 (by unfold FU; omega) (by omega) (show aCnt a 0 ≤ p from Nat.zero_le _)
  rw [if_pos (nI_pos' hp), li0, show f_X1_thingAtPlace_4 FU (nI p) (nI 0) (nI 0) x.1.2.1 = some z from h1, Option.bind_some]
  rcases h2 with ⟨j, e1, e2, e3, e4⟩ | ⟨e1, e2⟩
  · rw [e4, w_handle ho hx.1 e1 (by omega)]
    exact ⟨_, rfl, Or.inl ⟨j, e1, e2, e3, rfl⟩⟩
  · rw [e2, w_handleOf_neg (by decide)]
    exact ⟨_, rfl, Or.inr ⟨e1, rfl⟩⟩
theorem m_at_loop {a : AbT} {o : MdC} (ho : aOk a) (hm : mV a o.2.1) {p : Nat} (hp : p < 2 ^ 31) : ∀ (fu i : Nat), aN a - i < fu → i ≤ aN a → aCnt a i ≤ p → ∃ r, f_X6_at_20 fu (nI p) (nI i) o = some (r, o) ∧ aAt a p r := by
  have hN := ho.2.1
  intro fu
  induction fu with
  | zero => intro i h1; omega
  | succ fu ih =>
    intro i h1 h2 h3
    have i1 : ∀ (kk : Option (Int32 × MdC)), gi 1 414 kk = kk := fun kk => gi_in (c := 1) (by omega) (by decide)
    have c1 : (1 : Int32).toNatClampNeg = 1 := by decide
    have h8 := aCnt.le (a := a) i
    rw [f_X6_at_20.eq_2, i1, c1, hm.2.1]
    by_cases h4 : i = aN a
    · rw [if_pos (nI_le (by omega) (by omega))]
      exact ⟨_, rfl, Or.inr ⟨by rw [← h4]; exact h3, rfl⟩⟩
    · rw [if_neg (nI_ge (by omega) (by omega)), m_isThing ho hm (by omega), Option.bind_some, nI_1]
      by_cases h6 : aW a i = 0
      · rw [if_pos h6, if_pos rfl]
        exact ih (i + 1) (by omega) (by omega) (by rw [aCnt.t h6]; exact h3)
      · rw [if_neg h6, if_neg (by decide), m_placeOf ho hm (by omega), Option.bind_some]
        by_cases h7 : aCnt a i = p
        · rw [if_pos (show nI (aCnt a i) = nI p by rw [h7]), m_handleOf ho hm (by omega) (by omega)]
          exact ⟨_, rfl, Or.inl ⟨i, by omega, h6, h7, rfl⟩⟩
        · rw [if_neg (fun h => h7 ((nI_eq (by omega) (by omega)).mp h))]
          exact ih (i + 1) (by omega) (by omega) (by rw [aCnt.f h6]; omega)
theorem m_at {a : AbT} {o : MdC} (ho : aOk a) (hm : mV a o.2.1) {p : Nat} (hp : p < 2 ^ 31) : ∃ r, f_X6_at_20 FU (nI p) 0 o = some (r, o) ∧ aAt a p r := by
  have hN := ho.2.1
  exact m_at_loop ho hm hp FU 0 (by unfold FU; omega) (by omega) (show aCnt a 0 ≤ p from Nat.zero_le _)
/-- how many things are behind a walker -/
def aBh (a : AbT) (i : Nat) : Int32 := if aP a i = 1 then 0 else nI (aCnt a (aN a) - aCnt a (aP a i - 1))
theorem w_thingsBehind {a : AbT} {x : RwC} (ho : aOk a) (hr : rV a x) {i : Nat} (hi : i < 4) : f_X1_thingsBehind (nI i) x = some (aBh a i) := by
  have hN := ho.2.1
  have h0 := ho.2.2.2.2.2.1 i hi
  unfold f_X1_thingsBehind aBh
  rw [w_indexUnder hr hi, Option.bind_some]
  by_cases h1 : aP a i = 1
  · rw [h1, if_pos (by decide), if_pos rfl]
  · by_cases h2 : aP a i = 0
    · rw [h2, if_neg (by decide), show pC 0 + 1 = nI 0 by decide, w_thingsFrom ho hr (by omega), Option.bind_some, if_neg (by decide)]
    · rw [pC_at2 (by omega), if_neg (nI_m2 (by omega)), nI_1, w_thingsFrom ho hr (by omega), Option.bind_some, if_neg h1, show aP a i - 2 + 1 = aP a i - 1 by omega]
theorem m_behind {a : AbT} {o : MdC} (ho : aOk a) (hm : mV a o.2.1) {i : Nat} (hi : i < 4) : f_X6_behind (nI i) o = some (aBh a i) := by
  have hN := ho.2.1
  have h0 := ho.2.2.2.2.2.1 i hi
  have h9 := aCnt.mono (a := a) (i := 0) (aN a) (by omega)
  have h8 := aCnt.mono (a := a) (i := aP a i - 1) (aN a) (by omega)
  unfold f_X6_behind aBh f_X6_behind_40
  rw [li410, nI_add, gi_in (by omega) (by decide), nI_clamp (by omega), hm.2.2.2.2.2 i hi]
  by_cases h1 : aP a i = 1
  · rw [h1, if_pos (by decide), if_pos rfl]
  · by_cases h2 : aP a i = 0
    · rw [h2, if_neg (by decide), m_things ho hm, Option.bind_some, if_neg (by decide), li0, m_placeOf ho hm (by omega), Option.bind_some, if_neg (by decide), nI_sub h9]
    · rw [pM_at2 (by omega), if_neg (show ¬ nI (aP a i - 2) = 99 from fun h => by rw [li99] at h; have := (nI_eq (by omega) (by omega)).mp h; omega), m_things ho hm, Option.bind_some, if_pos (nI_pos' (by omega)), nI_1, show aP a i - 2 + 1 = aP a i - 1 by omega, m_placeOf ho hm (by omega), Option.bind_some, if_neg h1, nI_sub h8]
/-- a walker goes on -/
theorem w_sendOn {a : AbT} {x : RwC} (ho : aOk a) (hr : rV a x) {i : Nat} (hi : i < 4) : ∃ t y, f_X1_sendOn (nI i) x = some y ∧ t < aN a + 2 ∧ rV (aGo a i t) y ∧ ∀ m, mV a m → f_X6_nextThing (m (410 + i)) m = some (pM t) := by
  have hN := ho.2.1
  have h0 := ho.2.2.2.2.2.1 i hi
  have i1 : ∀ (kk : Option Int32), gi 1 414 kk = kk := fun kk => gi_in (c := 1) (by omega) (by decide)
  have c1 : (1 : Int32).toNatClampNeg = 1 := by decide
  unfold f_X1_sendOn f_X6_nextThing f_X6_nextThing_15
  rw [w_indexUnder hr hi, Option.bind_some]
  by_cases h1 : aP a i = 1
  · rw [h1, if_pos (by decide)]
    refine ⟨1, x, rfl, by omega, ?_, fun m hm => ?_⟩
    · unfold aGo
      rw [if_neg (fun h => by omega)]
      refine ⟨hr.1, hr.2.1, fun k hk => ?_⟩
      show x.2.2 k = pC (if k = i then 1 else aP a k)
      by_cases h2 : k = i
      · rw [if_pos h2, h2, hr.2.2 i hi, h1]
      · rw [if_neg h2, hr.2.2 k hk]
    · rw [hm.2.2.2.2.2 i hi, h1, if_pos (by decide), i1, c1, hm.2.1]
      obtain ⟨t, g1, g2⟩ := m_next_loop ho hm (p := aN a) FU (aN a) (by unfold FU; omega) (by omega) (by omega) (fun k q1 q2 => by omega)
      rw [g1]
      rcases g2 with ⟨j, e1, e2, e3, e4, e5⟩ | ⟨e1, e2⟩
      · omega
      · rw [e2]
  · have key : ∀ p : Nat, p = aP a i - 1 → pC (aP a i) + 1 = nI p → ∃ t y, (Option.bind (f_X1_nextThing (pC (aP a i) + 1) x) fun z2 => Option.bind (f_X1_send (nI i) z2 x) fun z3 => some z3) = some y ∧ t < aN a + 2 ∧ rV (aGo a i t) y ∧ aNx a p t := fun p hp hq => by
      obtain ⟨t, g1, g2⟩ := w_nextThing ho hr (p := p) (by omega)
      obtain ⟨y, g3, g4⟩ := w_send ho hr hi g2.lt
      exact ⟨t, y, by rw [hq, g1, Option.bind_some, g3, Option.bind_some], g2.lt, g4, g2⟩
    by_cases h2 : aP a i = 0
    · obtain ⟨t, y, g1, g2, g3, g4⟩ := key 0 (by omega) (by rw [h2]; decide)
      rw [if_neg (by rw [h2]; decide)]
      refine ⟨t, y, g1, g2, g3, fun m hm => ?_⟩
      rw [hm.2.2.2.2.2 i hi, h2, if_neg (by decide), show pM 0 + 1 = nI 0 by decide]
      obtain ⟨s, r1, r2⟩ := m_next_loop ho hm (p := 0) FU 0 (by unfold FU; omega) (by omega) (by omega) (fun k q1 q2 => by omega)
      rw [r1, aNx.det r2 g4]
    · obtain ⟨t, y, g1, g2, g3, g4⟩ := key (aP a i - 1) rfl (by rw [pC_at2 (by omega), nI_1, show aP a i - 2 + 1 = aP a i - 1 by omega])
      rw [if_neg (by rw [pC_at2 (by omega)]; exact nI_m2 (by omega))]
      refine ⟨t, y, g1, g2, g3, fun m hm => ?_⟩
      rw [hm.2.2.2.2.2 i hi, pM_at2 (by omega), if_neg (show ¬ nI (aP a i - 2) = 99 from fun h => by rw [li99] at h; have := (nI_eq (by omega) (by omega)).mp h; omega), nI_1, show aP a i - 2 + 1 = aP a i - 1 by omega]
      obtain ⟨s, r1, r2⟩ := m_next_loop ho hm (p := aP a i - 1) FU (aP a i - 1) (by unfold FU; omega) (by omega) (by omega) (fun k q1 q2 => by omega)
      rw [r1, aNx.det r2 g4]
