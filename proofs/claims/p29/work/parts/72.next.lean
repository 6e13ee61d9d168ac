/-! The next thing in the row. -/
def aNx (a : AbT) (p t : Nat) : Prop := (∃ j, p ≤ j ∧ j < aN a ∧ ¬ aW a j = 0 ∧ (∀ k, p ≤ k → k < j → aW a k = 0) ∧ t = j + 2) ∨ ((∀ k, p ≤ k → k < aN a → aW a k = 0) ∧ t = 1)
theorem aNx.det {a : AbT} {p s t : Nat} (h1 : aNx a p s) (h2 : aNx a p t) : s = t := by
  rcases h1 with ⟨j, e1, e2, e3, e4, e5⟩ | ⟨e1, e2⟩ <;> rcases h2 with ⟨k, g1, g2, g3, g4, g5⟩ | ⟨g1, g2⟩
  · rcases Nat.lt_trichotomy j k with q | q | q
    · exact absurd (g4 j e1 q) e3
    · omega
    · exact absurd (e4 k g1 q) g3
  · exact absurd (g1 j e1 e2) e3
  · exact absurd (e1 k g1 g2) g3
  · omega
theorem aNx.lt {a : AbT} {p t : Nat} (h1 : aNx a p t) : t < aN a + 2 := by
  rcases h1 with ⟨j, e1, e2, e3, e4, e5⟩ | ⟨e1, e2⟩ <;> omega
theorem w_next_loop {a : AbT} {x : RwC} (ho : aOk a) (hr : rV a x) {p : Nat} : ∀ (fu i : Nat), aN a - i < fu → i ≤ 100 → p ≤ i → (∀ k, p ≤ k → k < i → k < aN a → aW a k = 0) → ∃ t, f_X1_nextThing_2 fu (nI i) x = some (pC t) ∧ aNx a p t := by
  have hN := ho.2.1
  intro fu
  induction fu with
  | zero => intro i h1; omega
  | succ fu ih =>
    intro i h1 h2 h3 h4
    rw [f_X1_nextThing_2.eq_2, hr.1, nI_1]
    by_cases h5 : aN a ≤ i
    · rw [if_pos (nI_le h5 (by omega))]
      exact ⟨1, rfl, Or.inr ⟨fun k q1 q2 => h4 k q1 (by omega) q2, rfl⟩⟩
    · rw [if_neg (nI_ge (by omega) (by omega)), w_thI hr.1 (by omega) hN, Option.bind_some]
      by_cases h6 : aW a i = 0
      · rw [if_pos ((rV.m1 ho hr (by omega)).mpr h6)]
        exact ih (i + 1) (by omega) (by omega) (by omega) (fun k q1 q2 q3 => by
          by_cases q4 : k = i
          · rw [q4]; exact h6
          · exact h4 k q1 (by omega) q3)
      · rw [if_neg (fun h => h6 ((rV.m1 ho hr (by omega)).mp h))]
        exact ⟨i + 2, by rw [pC_at2 (by omega)]; rfl, Or.inl ⟨i, h3, by omega, h6, fun k q1 q2 => h4 k q1 q2 (by omega), rfl⟩⟩
theorem w_nextThing {a : AbT} {x : RwC} (ho : aOk a) (hr : rV a x) {p : Nat} (hp : p ≤ 100) : ∃ t, f_X1_nextThing (nI p) x = some (pC t) ∧ aNx a p t := by
  have hN := ho.2.1
  unfold f_X1_nextThing
  exact w_next_loop ho hr FU p (by unfold FU; omega) hp (by omega) (fun k q1 q2 => by omega)
theorem m_next_loop {a : AbT} {m : Fn} (ho : aOk a) (hm : mV a m) {p : Nat} : ∀ (fu i : Nat), aN a - i < fu → i ≤ 100 → p ≤ i → (∀ k, p ≤ k → k < i → k < aN a → aW a k = 0) → ∃ t, f_X6_nextThing_16 fu (nI i) m = some (pM t) ∧ aNx a p t := by
  have hN := ho.2.1
  have i1 : ∀ (kk : Option Int32), gi 1 414 kk = kk := fun kk => gi_in (c := 1) (by omega) (by decide)
  have c1 : (1 : Int32).toNatClampNeg = 1 := by decide
  intro fu
  induction fu with
  | zero => intro i h1; omega
  | succ fu ih =>
    intro i h1 h2 h3 h4
    rw [f_X6_nextThing_16.eq_2, i1, c1, hm.2.1, nI_1]
    unfold f_X6_nextThing_37
    rw [i1, c1, hm.2.1]
    by_cases h5 : aN a ≤ i
    · rw [if_pos (nI_le h5 (by omega)), if_pos (nI_le h5 (by omega))]
      exact ⟨1, rfl, Or.inr ⟨fun k q1 q2 => h4 k q1 (by omega) q2, rfl⟩⟩
    · rw [if_neg (nI_ge (by omega) (by omega)), if_neg (nI_ge (by omega) (by omega)), m_isThing ho hm (by omega), Option.bind_some]
      by_cases h6 : aW a i = 0
      · rw [if_pos h6, if_pos rfl]
        exact ih (i + 1) (by omega) (by omega) (by omega) (fun k q1 q2 q3 => by
          by_cases q4 : k = i
          · rw [q4]; exact h6
          · exact h4 k q1 (by omega) q3)
      · rw [if_neg h6, if_neg (by decide)]
        exact ⟨i + 2, by rw [pM_at2 (by omega)]; rfl, Or.inl ⟨i, h3, by omega, h6, fun k q1 q2 => h4 k q1 q2 (by omega), rfl⟩⟩
