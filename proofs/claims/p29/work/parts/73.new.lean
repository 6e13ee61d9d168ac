/-! What may come in: value, size, kind; and a new value. -/
theorem w_new {p0 p1 p2 : Int32} : ∃ r, f_X5_isThing p0 p1 p2 = some r ∧ (r = 0 ∨ r = 1 ∧ ∃ v w k : Nat, p0 = nI v ∧ p1 = nI w ∧ p2 = nI k ∧ v ≤ 999 ∧ 1 ≤ w ∧ w ≤ 4 ∧ k ≤ 2) ∧ f_X6_isNew p0 p1 p2 = some r := by
  unfold f_X5_isThing f_X6_isNew f_X5_isValue f_X5_isSize f_X6_in
  have h10 : ¬ (1 : Int32) = 0 := by decide
  by_cases h1 : p0 < 0
  · rw [if_pos h1]; exact ⟨0, rfl, Or.inl rfl, rfl⟩
  · by_cases h2 : 999 < p0
    · rw [if_neg h1, if_pos h2]; exact ⟨0, rfl, Or.inl rfl, rfl⟩
    · rw [if_neg h1, if_neg h2, Option.bind_some, Option.bind_some, if_neg h10, if_neg h10]
      by_cases h3 : p1 < 1
      · rw [if_pos h3]; exact ⟨0, rfl, Or.inl rfl, rfl⟩
      · by_cases h4 : 4 < p1
        · rw [if_neg h3, if_pos h4]; exact ⟨0, rfl, Or.inl rfl, rfl⟩
        · rw [if_neg h3, if_neg h4, Option.bind_some, Option.bind_some, if_neg h10, if_neg h10]
          by_cases h5 : p2 < 0
          · rw [if_pos h5]; exact ⟨0, rfl, Or.inl rfl, rfl⟩
          · by_cases h6 : 2 < p2
            · rw [if_neg h5, if_pos h6]; exact ⟨0, rfl, Or.inl rfl, rfl⟩
            · rw [if_neg h5, if_neg h6, Option.bind_some, if_neg h10]
              refine ⟨1, rfl, Or.inr ⟨rfl, ?_⟩, rfl⟩
              obtain ⟨v, v1, v2⟩ := nI_of h1
              have h3' : ¬ p1 < 0 := fun h => h3 (Int32.lt_of_lt_of_le h (by decide))
              obtain ⟨w, w1, w2⟩ := nI_of h3'
              obtain ⟨k, k1, k2⟩ := nI_of h5
              subst v2; subst w2; subst k2
              refine ⟨v, w, k, rfl, rfl, rfl, ?_, ?_, ?_, ?_⟩
              · exact Nat.not_lt.mp fun h => h2 (nI_lt h v1)
              · exact Nat.not_lt.mp fun h => h3 (by rw [li1]; exact nI_lt h (by omega))
              · exact Nat.not_lt.mp fun h => h4 (nI_lt h w1)
              · exact Nat.not_lt.mp fun h => h6 (nI_lt h k1)
