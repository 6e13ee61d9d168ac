/-! Why a handle is refused. -/
/-- the entry of the thing that begins at c -/
theorem sV.size {a : AbT} {x : SlC} (ho : aOk a) (hv : sV a x) {c : Nat} (hc : c < 64) : (∃ q, q < aN a ∧ 0 < aW a q ∧ aB a q = c ∧ x.2.2.2.1 c = nI (aW a q)) ∨ ((∀ q, q < aN a → 0 < aW a q → aB a q ≠ c) ∧ x.2.2.2.1 c = 0) := by
  by_cases h1 : ∃ q, q < aN a ∧ 0 < aW a q ∧ aB a q = c
  · obtain ⟨q, h2, h3, h4⟩ := h1
    exact Or.inl ⟨q, h2, h3, h4, by rw [← h4]; exact (hv.2.2.2.2.1 q h2 h3).1⟩
  · have h2 : ∀ q, q < aN a → 0 < aW a q → aB a q ≠ c := fun q h3 h4 h5 => h1 ⟨q, h3, h4, h5⟩
    exact Or.inr ⟨h2, hv.2.2.2.2.2 c hc h2⟩
/-- what both say of the handle p -/
def aWhy (a : AbT) (p : Nat) (r : Int32) : Prop := (r = 0 ∧ p / 1000 < aC a ∧ aS a (p / 1000) = p % 1000 ∧ ∃ q, q < aN a ∧ 0 < aW a q ∧ aB a q = p / 1000) ∨ (r = 3 ∧ p / 1000 < aC a ∧ aS a (p / 1000) = p % 1000 ∧ ∀ q, q < aN a → 0 < aW a q → aB a q ≠ p / 1000) ∨ (r = 2 ∧ p / 1000 < aC a ∧ aS a (p / 1000) ≠ p % 1000) ∨ (r = 1 ∧ aC a ≤ p / 1000)
theorem w_whyRefused {a : AbT} {x : SlC} (ho : aOk a) (hv : sV a x) {p : Nat} (hp : p < 2 ^ 31) : ∃ r, f_X2_whyRefused (nI p) x = some r ∧ aWhy a p r := by
  have hC := aOk.C a ho
  have h1 : p / 1000 ≤ p := Nat.div_le_self p 1000
  have hs2 := ho.2.2.2.2.2.2 (p / 1000)
  unfold f_X2_whyRefused
  rw [if_neg (nI_pos hp), li1000, nI_mod hp (by omega), nI_div hp (by omega)]
  by_cases h2 : p / 1000 < aC a
  · rw [c_isCell1 hv.1 (by omega) h2, Option.bind_some, if_neg (by decide), w_stampAt ho hv (by omega), if_pos h2, Option.bind_some]
    by_cases h3 : aS a (p / 1000) = p % 1000
    · rw [if_pos (show nI (aS a (p / 1000)) = nI (p % 1000) by rw [h3]), w_sizeAt ho hv (by omega), if_pos h2, Option.bind_some]
      rcases hv.size ho (c := p / 1000) (by omega) with ⟨q, g1, g2, g3, g4⟩ | ⟨g1, g2⟩
      · have h9 := ho.2.2.1 q g1 g2
        rw [g4, if_neg (nI_ne0 g2 (by omega))]
        exact ⟨_, rfl, Or.inl ⟨rfl, h2, h3, q, g1, g2, g3⟩⟩
      · rw [g2, if_pos rfl]
        exact ⟨_, rfl, Or.inr (Or.inl ⟨rfl, h2, h3, g1⟩)⟩
    · rw [if_neg (fun h4 => h3 ((nI_eq (by omega) (by omega)).mp h4))]
      exact ⟨_, rfl, Or.inr (Or.inr (Or.inl ⟨rfl, h2, h3⟩))⟩
  · rw [w_isCell ho hv (by omega), if_neg h2, Option.bind_some, if_pos rfl]
    exact ⟨_, rfl, Or.inr (Or.inr (Or.inr ⟨rfl, by omega⟩))⟩
theorem aWhy.det {a : AbT} {p : Nat} {r s : Int32} (h1 : aWhy a p r) (h2 : aWhy a p s) : r = s := by
  rcases h1 with ⟨e1, e2, e3, q, e4, e5, e6⟩ | ⟨e1, e2, e3, e4⟩ | ⟨e1, e2, e3⟩ | ⟨e1, e2⟩ <;> rcases h2 with ⟨g1, g2, g3, t, g4, g5, g6⟩ | ⟨g1, g2, g3, g4⟩ | ⟨g1, g2, g3⟩ | ⟨g1, g2⟩ <;> first
    | exact e1.trans g1.symm
    | exact absurd e6 (g4 q e4 e5)
    | exact absurd g6 (e4 t g4 g5)
    | exact absurd e3 g3
    | exact absurd g3 e3
    | omega
theorem m_whyNot {a : AbT} {m : Fn} (ho : aOk a) (hm : mV a m) {p : Nat} (hp : p < 2 ^ 31) : ∃ r, f_X6_whyNot (nI p) m = some r ∧ aWhy a p r := by
  have hC := aOk.C a ho
  have hN := ho.2.1
  have h1 : p / 1000 ≤ p := Nat.div_le_self p 1000
  have hs2 := ho.2.2.2.2.2.2 (p / 1000)
  have i0 : ∀ (kk : Option Int32), gi 0 414 kk = kk := fun kk => gi_in (c := 0) (by omega) (by decide)
  have c0 : (0 : Int32).toNatClampNeg = 0 := by decide
  unfold f_X6_whyNot
  rw [if_neg (nI_pos hp), i0, c0, hm.1, li1000, nI_mod hp (by omega), nI_div hp (by omega)]
  by_cases h2 : p / 1000 < aC a
  · rw [if_pos (nI_lt h2 (by omega)), li6, nI_add, gi_in (by omega) (by decide), nI_clamp (by omega), hm.2.2.2.1 _ (by omega)]
    by_cases h3 : aS a (p / 1000) = p % 1000
    · rw [if_pos (show nI (aS a (p / 1000)) = nI (p % 1000) by rw [h3])]
      obtain ⟨e, he, hE⟩ := m_entryOf ho hm (c := p / 1000) (by omega)
      rw [he, Option.bind_some]
      unfold f_X6_whyNot_60
      rcases hE with ⟨j, g1, g2, g3⟩ | ⟨g1, g2⟩
      · have hw : 0 < aW a j := by unfold aCov at g2; omega
        have h9 := ho.2.2.1 j g1 hw
        rw [g3, if_neg (nI_m1 (by omega)), li0, m_of (by omega), Option.bind_some, Nat.add_zero, (hm.2.2.2.2.1 j g1).1, if_neg (show ¬ aW a j = 0 by omega)]
        by_cases h4 : aB a j = p / 1000
        · rw [if_pos (show nI (aB a j) = nI (p / 1000) by rw [h4])]
          exact ⟨_, rfl, Or.inl ⟨rfl, h2, h3, j, g1, hw, h4⟩⟩
        · rw [if_neg (fun h5 => h4 ((nI_eq (by omega) (by omega)).mp h5))]
          refine ⟨_, rfl, Or.inr (Or.inl ⟨rfl, h2, h3, fun q q1 q2 q3 => ?_⟩)⟩
          have h6 := ho.2.2.2.1 q j (p / 1000) q1 g1 (by unfold aCov; omega) g2
          subst h6
          exact h4 q3
      · rw [g2, if_pos rfl]
        exact ⟨_, rfl, Or.inr (Or.inl ⟨rfl, h2, h3, fun q q1 q2 q3 => g1 q q1 (by unfold aCov; omega)⟩)⟩
    · rw [if_neg (fun h4 => h3 ((nI_eq (by omega) (by omega)).mp h4))]
      exact ⟨_, rfl, Or.inr (Or.inr (Or.inl ⟨rfl, h2, h3⟩))⟩
  · rw [if_neg (nI_nlt (by omega) (by omega))]
    exact ⟨_, rfl, Or.inr (Or.inr (Or.inr ⟨rfl, by omega⟩))⟩
