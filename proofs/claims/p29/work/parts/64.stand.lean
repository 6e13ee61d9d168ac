/-! Who stands on an entry; where an entry lies. -/
/-- how many walkers stand on the entry q, from the i-th on -/
def aOn (a : AbT) (q : Nat) : Nat := (if aP a 0 = q + 2 then 1 else 0) + (if aP a 1 = q + 2 then 1 else 0) + (if aP a 2 = q + 2 then 1 else 0) + (if aP a 3 = q + 2 then 1 else 0)
theorem aOn.zero {a : AbT} {q : Nat} : aOn a q = 0 ↔ ∀ i, i < 4 → aP a i ≠ q + 2 := by
  unfold aOn
  constructor
  · intro h1 i hi h2
    rcases (show i = 0 ∨ i = 1 ∨ i = 2 ∨ i = 3 by omega) with r | r | r | r <;> subst r <;> rw [if_pos h2] at h1 <;> omega
  · intro h1
    rw [if_neg (h1 0 (by omega)), if_neg (h1 1 (by omega)), if_neg (h1 2 (by omega)), if_neg (h1 3 (by omega))]
theorem aOn.le {a : AbT} {q : Nat} : aOn a q ≤ 4 := by
  unfold aOn
  by_cases h0 : aP a 0 = q + 2 <;> by_cases h1 : aP a 1 = q + 2 <;> by_cases h2 : aP a 2 = q + 2 <;> by_cases h3 : aP a 3 = q + 2 <;> simp only [h0, h1, h2, h3, if_true, if_false] <;> omega
theorem pC_at {q k n : Nat} (hq : q < n) (hn : n ≤ 68) (hk : k < n + 2) : pC k = nI q ↔ k = q + 2 := by
  unfold pC
  by_cases h0 : k = 0
  · rw [if_pos h0]
    exact ⟨fun h => absurd h.symm (nI_m1 (by omega)), fun h => by omega⟩
  · by_cases h1 : k = 1
    · rw [if_neg h0, if_pos h1]
      exact ⟨fun h => absurd h.symm (nI_m2 (by omega)), fun h => by omega⟩
    · rw [if_neg h0, if_neg h1, nI_eq (by omega) (by omega)]
      omega
theorem pM_at {q k n : Nat} (hq : q < n) (hn : n ≤ 68) (hk : k < n + 2) : pM k = nI q ↔ k = q + 2 := by
  unfold pM
  by_cases h0 : k = 0
  · rw [if_pos h0]
    exact ⟨fun h => absurd h.symm (nI_m1 (by omega)), fun h => by omega⟩
  · by_cases h1 : k = 1
    · rw [if_neg h0, if_pos h1, li99, nI_eq (by omega) (by omega)]
      omega
    · rw [if_neg h0, if_neg h1, nI_eq (by omega) (by omega)]
      omega
theorem w_on_step {a : AbT} {x : RwC} {q i r fu : Nat} (hN : aN a ≤ 68) (hP : ∀ i, i < 4 → aP a i < aN a + 2) (hr : ∀ i, i < 4 → x.2.2 i = pC (aP a i)) (hq : q < aN a) (hi : i < 4) : f_X1_walkersOn_4 (fu + 1) (nI q) (nI r) (nI i) x = f_X1_walkersOn_4 fu (nI q) (nI (r + if aP a i = q + 2 then 1 else 0)) (nI (i + 1)) x := by
  rw [f_X1_walkersOn_4.eq_2, li4, if_neg (nI_ge (by omega) (by omega)), gi_in (by omega) (by decide), nI_clamp (by omega), hr i hi, nI_1, nI_1]
  by_cases h1 : aP a i = q + 2
  · rw [if_pos ((pC_at hq hN (hP i hi)).mpr h1), if_pos h1]
  · rw [if_neg (fun h2 => h1 ((pC_at hq hN (hP i hi)).mp h2)), if_neg h1]
    rfl
theorem w_walkersOn {a : AbT} {x : RwC} {q : Nat} (hN : aN a ≤ 68) (hP : ∀ i, i < 4 → aP a i < aN a + 2) (hr : ∀ i, i < 4 → x.2.2 i = pC (aP a i)) (hq : q < aN a) : f_X1_walkersOn (nI q) x = some (nI (aOn a q)) := by
  show f_X1_walkersOn_4 (5995 + 1 + 1 + 1 + 1 + 1) (nI q) (nI 0) (nI 0) x = _
  rw [w_on_step hN hP hr hq (by omega), w_on_step hN hP hr hq (by omega), w_on_step hN hP hr hq (by omega), w_on_step hN hP hr hq (by omega), f_X1_walkersOn_4.eq_2, li4, if_pos (nI_le (by omega) (by omega))]
  unfold aOn
  simp only [Nat.zero_add]
theorem m_on_step {a : AbT} {m : Fn} {q i r fu : Nat} (hN : aN a ≤ 68) (hP : ∀ i, i < 4 → aP a i < aN a + 2) (hm : ∀ i, i < 4 → m (410 + i) = pM (aP a i)) (hq : q < aN a) (hi : i < 4) : f_X6_standing_4 (fu + 1) (nI q) (nI r) (nI i) m = f_X6_standing_4 fu (nI q) (nI (r + if aP a i = q + 2 then 1 else 0)) (nI (i + 1)) m := by
  rw [f_X6_standing_4.eq_2, li4, if_neg (nI_ge (by omega) (by omega)), li410, nI_add, gi_in (by omega) (by decide), nI_clamp (by omega), hm i hi]
  unfold f_X6_standing_26
  rw [nI_1, nI_1]
  by_cases h1 : aP a i = q + 2
  · rw [if_pos ((pM_at hq hN (hP i hi)).mpr h1), if_pos h1]
  · rw [if_neg (fun h2 => h1 ((pM_at hq hN (hP i hi)).mp h2)), if_neg h1, Int32.add_zero]
    rfl
theorem m_standing {a : AbT} {m : Fn} {q : Nat} (hN : aN a ≤ 68) (hP : ∀ i, i < 4 → aP a i < aN a + 2) (hm : ∀ i, i < 4 → m (410 + i) = pM (aP a i)) (hq : q < aN a) : f_X6_standing (nI q) m = some (nI (aOn a q)) := by
  show f_X6_standing_4 (5995 + 1 + 1 + 1 + 1 + 1) (nI q) (nI 0) (nI 0) m = _
  rw [m_on_step hN hP hm hq (by omega), m_on_step hN hP hm hq (by omega), m_on_step hN hP hm hq (by omega), m_on_step hN hP hm hq (by omega), f_X6_standing_4.eq_2, li4, if_pos (nI_le (by omega) (by omega))]
  unfold aOn
  simp only [Nat.zero_add]
