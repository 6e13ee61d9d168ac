/-! An entry goes: the model's array. -/
theorem m_dr68 {q : Nat} : ∀ (fu i : Nat) (m : Fn), 4 - i < fu → i ≤ 4 → ∃ m2, f_X6_drops_68 fu (nI q) (nI i) m = some m2 ∧ (∀ c, c < 410 + i ∨ 414 ≤ c → m2 c = m c) ∧ ∀ c, i ≤ c → c < 4 → m2 (410 + c) = if m (410 + c) ≤ nI q ∨ m (410 + c) = 99 then m (410 + c) else m (410 + c) - 1 := by
  intro fu
  induction fu with
  | zero => intro i m h1; omega
  | succ fu ih =>
    intro i m h1 h2
    rw [f_X6_drops_68.eq_2, li4]
    by_cases h3 : i = 4
    · rw [if_pos (nI_le (by omega) (by omega))]
      exact ⟨m, rfl, fun c _ => rfl, fun c q1 q2 => by omega⟩
    · rw [if_neg (nI_ge (by omega) (by omega)), li410, nI_add, gi_in (by omega) (by decide), gi_in (by omega) (by decide), nI_clamp (by omega), gi_in (by omega) (by decide)]
      have key : ∀ v : Int32, v = (if m (410 + i) ≤ nI q ∨ m (410 + i) = 99 then m (410 + i) else m (410 + i) - 1) → ∃ m2, f_X6_drops_68 fu (nI q) (nI i + 1) (upd m (410 + i) v) = some m2 ∧ (∀ c, c < 410 + i ∨ 414 ≤ c → m2 c = m c) ∧ ∀ c, i ≤ c → c < 4 → m2 (410 + c) = if m (410 + c) ≤ nI q ∨ m (410 + c) = 99 then m (410 + c) else m (410 + c) - 1 := by
        intro v hv
        rw [nI_1]
        obtain ⟨m2, g1, g2, g3⟩ := ih (i + 1) (upd m (410 + i) v) (by omega) (by omega)
        refine ⟨m2, g1, fun c q => ?_, fun c q1 q2 => ?_⟩
        · rw [g2 c (by omega), up_ne _ _ (by omega)]
        · by_cases q3 : c = i
          · subst q3
            rw [g2 _ (by omega), up_eq, hv]
          · rw [g3 c (by omega) q2, up_ne _ _ (by omega)]
      by_cases h4 : m (410 + i) ≤ nI q
      · rw [if_pos h4]
        unfold f_X6_drops_108 f_X6_drops_109
        rw [gi_in (by omega) (by decide), nI_clamp (by omega), Int32.sub_zero]
        exact key _ (by rw [if_pos (Or.inl h4)])
      · rw [if_neg h4]
        by_cases h5 : m (410 + i) = 99
        · rw [if_pos h5]
          unfold f_X6_drops_108 f_X6_drops_109
          rw [gi_in (by omega) (by decide), nI_clamp (by omega), Int32.sub_zero]
          exact key _ (by rw [if_pos (Or.inr h5)])
        · rw [if_neg h5]
          unfold f_X6_drops_109
          rw [gi_in (by omega) (by decide), nI_clamp (by omega)]
          exact key _ (by rw [if_neg (fun q => q.elim h4 h5)])
theorem m_dr42 {q n1 : Nat} (hn : n1 ≤ 67) : ∀ (fu i : Nat) (m : Fn), m 1 = nI n1 → 5 - i < fu → i ≤ 5 → ∃ m2, f_X6_drops_42 fu (nI q) (nI i) m = some m2 ∧ (∀ c, c < 70 + 5 * n1 → m2 c = m c) ∧ ∀ c, c < 4 → m2 (410 + c) = if m (410 + c) ≤ nI q ∨ m (410 + c) = 99 then m (410 + c) else m (410 + c) - 1 := by
  intro fu
  induction fu with
  | zero => intro i m h0 h1; omega
  | succ fu ih =>
    intro i m h0 h1 h2
    have i1 : ∀ (kk : Option Fn), gi 1 414 kk = kk := fun kk => gi_in (c := 1) (by omega) (by decide)
    have c1 : (1 : Int32).toNatClampNeg = 1 := by decide
    rw [f_X6_drops_42.eq_2, i1, c1, h0]
    by_cases h3 : i = 5
    · rw [li5, if_pos (nI_le (by omega) (by omega))]
      obtain ⟨m2, g1, g2, g3⟩ := m_dr68 (q := q) FU 0 m (by unfold FU; omega) (by omega)
      exact ⟨m2, g1, fun c q1 => g2 c (by omega), fun c q1 => g3 c (by omega) q1⟩
    · rw [li5, if_neg (nI_ge (by omega) (by omega)), li70, nI_mul, nI_add, nI_add, gi_in (by omega) (by decide), nI_clamp (by omega), nI_1]
      obtain ⟨m2, g1, g2, g3⟩ := ih (i + 1) (upd m (70 + 5 * n1 + i) 0) (by rw [up_ne _ _ (by omega)]; exact h0) (by omega) (by omega)
      refine ⟨m2, g1, fun c q1 => ?_, fun c q1 => ?_⟩
      · rw [g2 c q1, up_ne _ _ (by omega)]
      · rw [g3 c q1, up_ne _ _ (by omega)]
theorem m_dr11 {q n1 : Nat} (hn : n1 ≤ 67) : ∀ (fu i : Nat) (m : Fn), m 1 = nI n1 → 5 * n1 - i < fu → i ≤ 5 * n1 → ∃ m2, f_X6_drops_11 fu (nI q) (nI i) m = some m2 ∧ (∀ c, c < 70 + i → m2 c = m c) ∧ (∀ c, 70 + i ≤ c → c < 70 + 5 * n1 → m2 c = m (c + 5)) ∧ ∀ c, c < 4 → m2 (410 + c) = if m (410 + c) ≤ nI q ∨ m (410 + c) = 99 then m (410 + c) else m (410 + c) - 1 := by
  intro fu
  induction fu with
  | zero => intro i m h0 h1; omega
  | succ fu ih =>
    intro i m h0 h1 h2
    have i1 : ∀ (kk : Option Fn), gi 1 414 kk = kk := fun kk => gi_in (c := 1) (by omega) (by decide)
    have c1 : (1 : Int32).toNatClampNeg = 1 := by decide
    rw [f_X6_drops_11.eq_2, i1, c1, h0, li5, nI_mul]
    by_cases h3 : i = 5 * n1
    · rw [if_pos (nI_le (by omega) (by omega)), li0]
      obtain ⟨m2, g1, g2, g3⟩ := m_dr42 (q := q) hn FU 0 m h0 (by unfold FU; omega) (by omega)
      exact ⟨m2, g1, fun c q1 => g2 c (by omega), fun c q1 q2 => by omega, g3⟩
    · rw [if_neg (nI_ge (by omega) (by omega)), li70, nI_add, nI_add, gi_in (by omega) (by decide), gi_in (by omega) (by decide), nI_clamp (by omega), nI_clamp (by omega), nI_1]
      obtain ⟨m2, g1, g2, g3, g4⟩ := ih (i + 1) (upd m (70 + i) (m (70 + i + 5))) (by rw [up_ne _ _ (by omega)]; exact h0) (by omega) (by omega)
      refine ⟨m2, g1, fun c q1 => ?_, fun c q1 q2 => ?_, fun c q1 => ?_⟩
      · rw [g2 c (by omega), up_ne _ _ (by omega)]
      · by_cases h4 : c = 70 + i
        · subst h4; rw [g2 _ (by omega), up_eq]
        · rw [g3 c (by omega) q2, up_ne _ _ (by omega)]
      · rw [g4 c q1, up_ne _ _ (by omega)]
theorem m_drops0 {q n : Nat} (hq : q < n) (hn : n ≤ 68) {m : Fn} (h0 : m 1 = nI n) : ∃ m2, f_X6_drops (nI q) m = some m2 ∧ m2 1 = nI (n - 1) ∧ (∀ c, c < 70 + 5 * q → c ≠ 1 → m2 c = m c) ∧ (∀ c, 70 + 5 * q ≤ c → c < 70 + 5 * (n - 1) → m2 c = m (c + 5)) ∧ ∀ c, c < 4 → m2 (410 + c) = if m (410 + c) ≤ nI q ∨ m (410 + c) = 99 then m (410 + c) else m (410 + c) - 1 := by
  have i1 : ∀ (kk : Option Fn), gi 1 414 kk = kk := fun kk => gi_in (c := 1) (by omega) (by decide)
  have c1 : (1 : Int32).toNatClampNeg = 1 := by decide
  unfold f_X6_drops
  rw [i1, i1, c1, h0, li5, nI_mul, li1, nI_sub (by omega)]
  obtain ⟨m2, g1, g2, g3, g4⟩ := m_dr11 (q := q) (n1 := n - 1) (by omega) FU (5 * q) (upd m 1 (nI (n - 1))) (up_eq _ _ _) (by unfold FU; omega) (by omega)
  refine ⟨m2, g1, ?_, fun c q1 q2 => ?_, fun c q1 q2 => ?_, fun c q1 => ?_⟩
  · rw [g2 1 (by omega), up_eq]
  · rw [g2 c q1, up_ne _ _ q2]
  · rw [g3 c q1 q2, up_ne _ _ (by omega)]
  · rw [g4 c q1, up_ne _ _ (by omega)]
    rfl
theorem pM_le {q k n : Nat} (hq : q < n) (hn : n ≤ 68) (hk : k < n + 2) (h2 : k ≠ q + 2) : (pM k ≤ nI q ∨ pM k = 99) ↔ k < q + 2 := by
  unfold pM
  by_cases h0 : k = 0
  · rw [if_pos h0]
    refine ⟨fun _ => by omega, fun _ => Or.inl ?_⟩
    rw [Int32.le_iff_toInt_le, nI_toInt (by omega), show (-1 : Int32).toInt = -1 by decide]
    omega
  · by_cases h1 : k = 1
    · rw [if_neg h0, if_pos h1]
      exact ⟨fun _ => by omega, fun _ => Or.inr rfl⟩
    · rw [if_neg h0, if_neg h1, nI_leI (by omega) (by omega), li99, nI_eq (by omega) (by omega)]
      omega
theorem pM_dn {q k n : Nat} (hq : q < n) (hn : n ≤ 68) (hk : k < n + 2) (h2 : k ≠ q + 2) : pM (if k < q + 2 then k else k - 1) = if pM k ≤ nI q ∨ pM k = 99 then pM k else pM k - 1 := by
  by_cases h1 : k < q + 2
  · rw [if_pos h1, if_pos ((pM_le hq hn hk h2).mpr h1)]
  · rw [if_neg h1, if_neg (fun h3 => h1 ((pM_le hq hn hk h2).mp h3))]
    unfold pM
    rw [if_neg (by omega), if_neg (by omega), if_neg (by omega), if_neg (by omega)]
    have h4 := nI_pred (k - 1 - 2)
    rw [show k - 1 - 2 + 1 = k - 2 by omega] at h4
    exact h4.symm
/-- the model's array, but for the entry q -/
def mVq (a : AbT) (q : Nat) (m : Fn) : Prop := m 0 = nI (aC a) ∧ m 1 = nI (aN a) ∧ (∀ i, i < 4 → m (2 + i) = aT a i) ∧ (∀ c, c < 64 → m (6 + c) = nI (aS a c)) ∧
  (∀ j, j < aN a → j ≠ q → m (70 + 5 * j) = (if aW a j = 0 then -1 else nI (aB a j)) ∧ m (70 + 5 * j + 1) = nI (aW a j) ∧ m (70 + 5 * j + 2) = nI (if aW a j = 0 then 0 else aV a j) ∧ m (70 + 5 * j + 3) = nI (if aW a j = 0 then 0 else aK a j) ∧ m (70 + 5 * j + 4) = (if aW a j = 0 then 0 else aF a j)) ∧ ∀ i, i < 4 → m (410 + i) = pM (aP a i)
theorem mV.q {a : AbT} {m : Fn} (hm : mV a m) (q : Nat) : mVq a q m := ⟨hm.1, hm.2.1, hm.2.2.1, hm.2.2.2.1, fun j h1 _ => hm.2.2.2.2.1 j h1, hm.2.2.2.2.2⟩
theorem m_drops {a : AbT} {m : Fn} {q : Nat} (hN : aN a ≤ 68) (hP : ∀ i, i < 4 → aP a i < aN a + 2) (hm : mVq a q m) (hq : q < aN a) (hn : ∀ i, i < 4 → aP a i ≠ q + 2) : ∃ m2, f_X6_drops (nI q) m = some m2 ∧ mV (aDel a q) m2 := by
  obtain ⟨m2, g1, g2, g3, g4, g5⟩ := m_drops0 hq hN hm.2.1
  refine ⟨m2, g1, ?_, g2, fun i hi => ?_, fun c hc => ?_, fun j hj => ?_, fun i hi => ?_⟩
  · rw [g3 0 (by omega) (by omega)]; exact hm.1
  · rw [g3 _ (by omega) (by omega)]; exact hm.2.2.1 i hi
  · rw [g3 _ (by omega) (by omega)]; exact hm.2.2.2.1 c hc
  · have hj9 : j < aN a - 1 := hj
    show m2 (70 + 5 * j) = (if aDl q (aW a) j = 0 then -1 else nI (aDl q (aB a) j)) ∧ m2 (70 + 5 * j + 1) = nI (aDl q (aW a) j) ∧ m2 (70 + 5 * j + 2) = nI (if aDl q (aW a) j = 0 then 0 else aDl q (aV a) j) ∧ m2 (70 + 5 * j + 3) = nI (if aDl q (aW a) j = 0 then 0 else aDl q (aK a) j) ∧ m2 (70 + 5 * j + 4) = (if aDl q (aW a) j = 0 then 0 else aDl q (aF a) j)
    simp only [aDl.at]
    by_cases h1 : j < q
    · simp only [h1, if_true]
      rw [g3 _ (by omega) (by omega), g3 _ (by omega) (by omega), g3 _ (by omega) (by omega), g3 _ (by omega) (by omega), g3 _ (by omega) (by omega)]
      exact hm.2.2.2.2.1 j (by omega) (by omega)
    · simp only [h1, if_false]
      rw [g4 _ (by omega) (by omega), g4 _ (by omega) (by omega), g4 _ (by omega) (by omega), g4 _ (by omega) (by omega), g4 _ (by omega) (by omega)]
      have hE := hm.2.2.2.2.1 (j + 1) (by omega) (by omega)
      rw [show 70 + 5 * j + 5 = 70 + 5 * (j + 1) by omega, show 70 + 5 * j + 1 + 5 = 70 + 5 * (j + 1) + 1 by omega, show 70 + 5 * j + 2 + 5 = 70 + 5 * (j + 1) + 2 by omega, show 70 + 5 * j + 3 + 5 = 70 + 5 * (j + 1) + 3 by omega, show 70 + 5 * j + 4 + 5 = 70 + 5 * (j + 1) + 4 by omega]
      exact hE
  · show m2 (410 + i) = pM (if aP a i < q + 2 then aP a i else aP a i - 1)
    rw [g5 i hi, pM_dn hq hN (hP i hi) (hn i hi), hm.2.2.2.2.2 i hi]
