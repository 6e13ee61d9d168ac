/-! A thing comes: the model's array. -/
theorem nI_dn {i : Nat} (hq : 1 ≤ i) : nI i + (-1) = nI (i - 1) := by
  have h1 := nI_pred (i - 1)
  rw [show i - 1 + 1 = i by omega, Int32.sub_eq_add_neg] at h1
  exact h1
theorem nI_dn_lt {q : Nat} (hq : q < 2 ^ 31) : nI q + (-1) < nI q := by
  by_cases h0 : q = 0
  · subst h0; decide
  · rw [nI_dn (by omega)]
    exact nI_lt (by omega) hq
theorem m_shift {p v w k b : Nat} (hp : p ≤ 67) : ∀ (fu i : Nat) (m : Fn), i - 5 * p < fu → 5 * p ≤ i → i ≤ 335 → f_X6_comes_38 fu (nI p) (nI v) (nI w) (nI k) (nI b) (nI i + (-1)) m = f_X6_comes_38 1 (nI p) (nI v) (nI w) (nI k) (nI b) (nI (5 * p) + (-1)) (fun c => if 75 + 5 * p ≤ c ∧ c < 75 + i then m (c - 5) else m c) := by
  intro fu
  induction fu with
  | zero => intro i m h1; omega
  | succ fu ih =>
    intro i m h1 h2 h3
    by_cases h4 : i = 5 * p
    · have h5 : (fun c => if 75 + 5 * p ≤ c ∧ c < 75 + i then m (c - 5) else m c) = m := by
        funext c
        rw [if_neg (by omega)]
      rw [h5, h4]
      show f_X6_comes_38 (fu + 1) (nI p) (nI v) (nI w) (nI k) (nI b) (nI (5 * p) + (-1)) m = f_X6_comes_38 (0 + 1) (nI p) (nI v) (nI w) (nI k) (nI b) (nI (5 * p) + (-1)) m
      have h6 : nI (5 * p) + (-1) < 5 * nI p := by
        rw [li5, nI_mul]
        exact nI_dn_lt (by omega)
      rw [f_X6_comes_38.eq_2, f_X6_comes_38.eq_2, if_pos h6, if_pos h6]
    · have h6 : ¬ nI (i - 1) < 5 * nI p := by
        rw [li5, nI_mul]
        exact nI_nlt (by omega) (by omega)
      rw [nI_dn (by omega), f_X6_comes_38.eq_2, if_neg h6, li70, nI_add, li5, nI_add, gi_in (by omega) (by decide), gi_in (by omega) (by decide), nI_clamp (by omega), nI_clamp (by omega), ih (i - 1) _ (by omega) (by omega) (by omega)]
      congr 1
      funext c
      by_cases h7 : c = 74 + i
      · subst h7
        rw [if_neg (by omega), if_pos (by omega), show 70 + (i - 1) + 5 = 74 + i by omega, up_eq]
        congr 1
        omega
      · by_cases h8 : 75 + 5 * p ≤ c ∧ c < 75 + (i - 1)
        · rw [if_pos h8, if_pos (by omega), up_ne _ _ (by omega)]
        · rw [if_neg h8, if_neg (by omega), up_ne _ _ (by omega)]
theorem m_walk_loop {p : Nat} {v6 : Int32} : ∀ (fu i : Nat) (m : Fn), 4 - i < fu → i ≤ 4 → ∃ m2, f_X6_comes_130 fu (nI p) v6 (nI i) m = some (v6, m2) ∧ (∀ c, c < 410 + i ∨ 414 ≤ c → m2 c = m c) ∧ ∀ c, i ≤ c → c < 4 → m2 (410 + c) = if m (410 + c) < nI p ∨ m (410 + c) = 99 then m (410 + c) else m (410 + c) + 1 := by
  intro fu
  induction fu with
  | zero => intro i m h1; omega
  | succ fu ih =>
    intro i m h1 h2
    rw [f_X6_comes_130.eq_2, li4]
    by_cases h3 : i = 4
    · rw [if_pos (nI_le (by omega) (by omega))]
      exact ⟨m, rfl, fun c _ => rfl, fun c q1 q2 => by omega⟩
    · rw [if_neg (nI_ge (by omega) (by omega)), li410, nI_add, gi_in (by omega) (by decide), gi_in (by omega) (by decide), nI_clamp (by omega), gi_in (by omega) (by decide)]
      have key : ∀ v : Int32, v = (if m (410 + i) < nI p ∨ m (410 + i) = 99 then m (410 + i) else m (410 + i) + 1) → ∃ m2, f_X6_comes_130 fu (nI p) v6 (nI i + 1) (upd m (410 + i) v) = some (v6, m2) ∧ (∀ c, c < 410 + i ∨ 414 ≤ c → m2 c = m c) ∧ ∀ c, i ≤ c → c < 4 → m2 (410 + c) = if m (410 + c) < nI p ∨ m (410 + c) = 99 then m (410 + c) else m (410 + c) + 1 := by
        intro v hv
        rw [nI_1]
        obtain ⟨m2, g1, g2, g3⟩ := ih (i + 1) (upd m (410 + i) v) (by omega) (by omega)
        refine ⟨m2, g1, fun c q => ?_, fun c q1 q2 => ?_⟩
        · rw [g2 c (by omega), up_ne _ _ (by omega)]
        · by_cases q3 : c = i
          · subst q3
            rw [g2 _ (by omega), up_eq, hv]
          · rw [g3 c (by omega) q2, up_ne _ _ (by omega)]
      by_cases h4 : m (410 + i) < nI p
      · rw [if_pos h4]
        unfold f_X6_comes_174 f_X6_comes_175
        rw [gi_in (by omega) (by decide), nI_clamp (by omega), Int32.add_zero]
        exact key _ (by rw [if_pos (Or.inl h4)])
      · rw [if_neg h4]
        by_cases h5 : m (410 + i) = 99
        · rw [if_pos h5]
          unfold f_X6_comes_174 f_X6_comes_175
          rw [gi_in (by omega) (by decide), nI_clamp (by omega), Int32.add_zero]
          exact key _ (by rw [if_pos (Or.inr h5)])
        · rw [if_neg h5]
          unfold f_X6_comes_175
          rw [gi_in (by omega) (by decide), nI_clamp (by omega)]
          exact key _ (by rw [if_neg (fun q => q.elim h4 h5)])
theorem pM_lt {p k n : Nat} (hp : p ≤ n) (hn : n ≤ 68) (hk : k < n + 2) : (pM k < nI p ∨ pM k = 99) ↔ k < p + 2 := by
  unfold pM
  by_cases h0 : k = 0
  · rw [if_pos h0]
    refine ⟨fun _ => by omega, fun _ => Or.inl ?_⟩
    rw [Int32.lt_iff_toInt_lt, nI_toInt (by omega), show (-1 : Int32).toInt = -1 by decide]
    omega
  · by_cases h1 : k = 1
    · rw [if_neg h0, if_pos h1]
      exact ⟨fun _ => by omega, fun _ => Or.inr rfl⟩
    · rw [if_neg h0, if_neg h1, nI_ltI (by omega) (by omega), li99, nI_eq (by omega) (by omega)]
      omega
theorem pM_up {p k n : Nat} (hp : p ≤ n) (hn : n ≤ 68) (hk : k < n + 2) : pM (if k < p + 2 then k else k + 1) = if pM k < nI p ∨ pM k = 99 then pM k else pM k + 1 := by
  by_cases h1 : k < p + 2
  · rw [if_pos h1, if_pos ((pM_lt hp hn hk).mpr h1)]
  · rw [if_neg h1, if_neg (fun h2 => h1 ((pM_lt hp hn hk).mp h2))]
    unfold pM
    rw [if_neg (by omega), if_neg (by omega), if_neg (by omega), if_neg (by omega), nI_1]
    congr 1
    omega
