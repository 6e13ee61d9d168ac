/-! The model's array, read: things, entries over a cell, free cells, room. -/
theorem m_of {m : Fn} {j i : Nat} (hq : 70 + 5 * j + i < 414) : f_X6_of (nI j) (nI i) m = some (m (70 + 5 * j + i)) := by
  unfold f_X6_of
  rw [li70, li5, nI_mul, nI_add, nI_add, gi_in hq (by decide), nI_clamp (by omega)]
theorem m_one {m : Fn} {k : Nat} (hq : k < 414) {α : Type} {f : Int32 → Option α} : gi (nI k) 414 (f (m (nI k).toNatClampNeg)) = f (m k) := by
  rw [gi_in hq (by decide), nI_clamp (by omega)]
theorem m_isThing {a : AbT} {m : Fn} (ho : aOk a) (hm : mV a m) {j : Nat} (hj : j < aN a) : f_X6_isThing (nI j) m = some (if aW a j = 0 then 0 else 1) := by
  have h1 := ho.2.1
  unfold f_X6_isThing
  rw [li0, m_of (by omega), Option.bind_some]
  have h2 := (hm.2.2.2.2.1 j hj).1
  rw [Nat.add_zero, h2]
  by_cases h3 : aW a j = 0
  · rw [if_pos h3, if_pos h3, if_pos rfl]
  · have h4 := ho.2.2.1 j hj (by omega)
    have h5 := aOk.C a ho
    rw [if_neg h3, if_neg h3, if_neg (nI_m1 (by omega))]
theorem m_in1 {p lo hi : Nat} (h1 : p < 2 ^ 31) (h2 : lo < 2 ^ 31) (h3 : hi < 2 ^ 31) (hq : lo ≤ p ∧ p ≤ hi) : f_X6_in (nI p) (nI lo) (nI hi) = some 1 := by
  unfold f_X6_in
  rw [if_neg (nI_nlt hq.1 h1), if_neg (nI_nlt hq.2 h3)]
theorem m_in0 {p lo hi : Nat} (h1 : p < 2 ^ 31) (h2 : lo < 2 ^ 31) (h3 : hi < 2 ^ 31) (hq : ¬ (lo ≤ p ∧ p ≤ hi)) : f_X6_in (nI p) (nI lo) (nI hi) = some 0 := by
  unfold f_X6_in
  by_cases h4 : p < lo
  · rw [if_pos (nI_lt h4 h2)]
  · rw [if_neg (nI_nlt (by omega) h1), if_pos (nI_lt (by omega) h1)]
/-- the entry over a cell -/
def aEnt (a : AbT) (c : Nat) (r : Int32) : Prop := (∃ j, j < aN a ∧ aCov a j c ∧ r = nI j) ∨ (aFr a c ∧ r = -1)
theorem m_entry_loop {a : AbT} {m : Fn} (ho : aOk a) (hm : mV a m) {c : Nat} (hc : c < 2 ^ 31) : ∀ (fu i : Nat), aN a - i < fu → i ≤ aN a → (∀ j, j < i → ¬ aCov a j c) → ∃ r, f_X6_entryOf_2 fu (nI c) (nI i) m = some r ∧ aEnt a c r := by
  have hn := ho.2.1
  intro fu
  induction fu with
  | zero => intro i h1; omega
  | succ fu ih =>
    intro i h1 h2 h3
    rw [f_X6_entryOf_2.eq_2, li1, gi_in (by omega) (by decide), nI_clamp (by omega), hm.2.1]
    by_cases h4 : aN a ≤ i
    · rw [if_pos ((nI_leI (by omega) (by omega)).mpr h4)]
      exact ⟨_, rfl, Or.inr ⟨fun j hj => h3 j (by omega), rfl⟩⟩
    · rw [if_neg (fun h9 => h4 ((nI_leI (by omega) (by omega)).mp h9)), m_isThing ho hm (by omega), Option.bind_some, nI_add]
      by_cases h5 : aW a i = 0
      · rw [if_pos h5, if_pos rfl]
        exact ih (i + 1) (by omega) (by omega) (fun j hj q => by
          by_cases h6 : j = i
          · rw [h6] at q; unfold aCov at q; omega
          · exact h3 j (by omega) q)
      · have h6 := ho.2.2.1 i (by omega) (by omega)
        have h7 := aOk.C a ho
        have hE := hm.2.2.2.2.1 i (by omega)
        rw [if_neg h5, if_neg (by decide), li0, m_of (by omega), m_of (by omega), Option.bind_some, Option.bind_some, Option.bind_some, Nat.add_zero, hE.1, hE.2.1, if_neg h5, nI_add, nI_sub (by omega)]
        by_cases h8 : aCov a i c
        · rw [m_in1 hc (by omega) (by omega) (by unfold aCov at h8; omega), Option.bind_some, if_neg (by decide)]
          exact ⟨_, rfl, Or.inl ⟨i, by omega, h8, rfl⟩⟩
        · rw [m_in0 hc (by omega) (by omega) (by unfold aCov at h8; omega), Option.bind_some, if_pos li0]
          exact ih (i + 1) (by omega) (by omega) (fun j hj q => by
            by_cases h6 : j = i
            · rw [h6] at q; exact h8 q
            · exact h3 j (by omega) q)
theorem m_entryOf {a : AbT} {m : Fn} (ho : aOk a) (hm : mV a m) {c : Nat} (hc : c < 2 ^ 31) : ∃ r, f_X6_entryOf (nI c) m = some r ∧ aEnt a c r := by
  have hn := ho.2.1
  unfold f_X6_entryOf
  rw [li0]
  exact m_entry_loop ho hm hc FU 0 (by unfold FU; omega) (by omega) (fun j hj => by omega)
theorem aEnt.m1 {a : AbT} (ho : aOk a) {c : Nat} {r : Int32} (hq : aEnt a c r) : r = -1 ↔ aFr a c := by
  have hn := ho.2.1
  rcases hq with ⟨j, h1, h2, h3⟩ | ⟨h1, h2⟩
  · constructor
    · intro h4; rw [h3] at h4; exact absurd h4 (nI_m1 (by omega))
    · intro h4; exact absurd h2 (h4 j h1)
  · exact ⟨fun _ => h1, fun _ => h2⟩
/-- how many cells are free from c on, below C2 -/
def aRun (a : AbT) (c C2 r : Nat) : Prop := (∀ d, c ≤ d → d < c + r → aFr a d) ∧ (C2 ≤ c ∧ r = 0 ∨ c + r = C2 ∨ c + r < C2 ∧ ¬ aFr a (c + r))
theorem m_free_loop {a : AbT} {m : Fn} (ho : aOk a) (hm : mV a m) {c C2 : Nat} (hC : C2 ≤ 64) (hc : c ≤ 2000) : ∀ (fu r : Nat), C2 - (c + r) < fu → (C2 ≤ c ∧ r = 0 ∨ c + r ≤ C2) → (∀ d, c ≤ d → d < c + r → aFr a d) → ∃ s, f_X6_freeFrom_2 fu (nI c) (nI C2) (nI r) m = some (nI s) ∧ aRun a c C2 s := by
  intro fu
  induction fu with
  | zero => intro r h1; omega
  | succ fu ih =>
    intro r h1 h2 h3
    rw [f_X6_freeFrom_2.eq_2, nI_add]
    by_cases h4 : C2 ≤ c + r
    · rw [if_pos ((nI_leI (by omega) (by omega)).mpr h4)]
      exact ⟨r, rfl, h3, by omega⟩
    · rw [if_neg (fun h9 => h4 ((nI_leI (by omega) (by omega)).mp h9))]
      obtain ⟨e, he, hE⟩ := m_entryOf ho hm (c := c + r) (by omega)
      rw [he, Option.bind_some, nI_1]
      by_cases h5 : aFr a (c + r)
      · rw [if_pos ((hE.m1 ho).mpr h5)]
        exact ih (r + 1) (by omega) (by omega) (fun d q1 q2 => by
          by_cases q3 : d = c + r
          · rw [q3]; exact h5
          · exact h3 d q1 (by omega))
      · rw [if_neg (fun q => h5 ((hE.m1 ho).mp q))]
        exact ⟨r, rfl, h3, Or.inr (Or.inr ⟨by omega, h5⟩)⟩
theorem m_freeFrom {a : AbT} {m : Fn} (ho : aOk a) (hm : mV a m) {c C2 : Nat} (hC : C2 ≤ 64) (hc : c ≤ 2000) : ∃ s, f_X6_freeFrom (nI c) (nI C2) m = some (nI s) ∧ aRun a c C2 s := by
  unfold f_X6_freeFrom
  rw [li0]
  exact m_free_loop ho hm hC hc FU 0 (by unfold FU; omega) (by omega) (fun d q1 q2 => by omega)
/-- the least window of w cells within C2 -/
def aRoom (a : AbT) (w C2 : Nat) (res : Int32) : Prop := (∃ b, res = nI b ∧ b + w ≤ C2 ∧ aWin a w b ∧ ∀ b2, b2 < b → ¬ aWin a w b2) ∨ (res = -1 ∧ ∀ b, b + w ≤ C2 → ¬ aWin a w b)
theorem aRun.win {a : AbT} {c C2 r w : Nat} (hq : aRun a c C2 r) (hw : c + w ≤ C2) (hw1 : 1 ≤ w) : w ≤ r ↔ aWin a w c := by
  constructor
  · intro h1 d h2 h3
    exact hq.1 d h2 (by omega)
  · intro h1
    rcases Nat.lt_or_ge r w with h2 | h2
    · rcases hq.2 with h3 | h3 | h3
      · omega
      · omega
      · exact absurd (h1 (c + r) (by omega) (by omega)) h3.2
    · exact h2
theorem m_room_loop {a : AbT} {m : Fn} (ho : aOk a) (hm : mV a m) {w C2 : Nat} (hC : C2 ≤ 64) (hw : 1 ≤ w) (hw2 : w ≤ 64) : ∀ (fu i : Nat), C2 + 1 - i < fu → i ≤ C2 + 1 → (∀ b, b < i → ¬ aWin a w b) → ∃ res, f_X6_roomIn_2 fu (nI w) (nI C2) (nI i) m = some res ∧ aRoom a w C2 res := by
  intro fu
  induction fu with
  | zero => intro i h1; omega
  | succ fu ih =>
    intro i h1 h2 h3
    rw [f_X6_roomIn_2.eq_2, nI_add]
    by_cases h4 : C2 < i + w
    · rw [if_pos ((nI_ltI (by omega) (by omega)).mpr h4)]
      exact ⟨_, rfl, Or.inr ⟨rfl, fun b q => h3 b (by omega)⟩⟩
    · rw [if_neg (fun h9 => h4 ((nI_ltI (by omega) (by omega)).mp h9))]
      obtain ⟨s, he, hE⟩ := m_freeFrom ho hm (c := i) hC (by omega)
      have hs : s < 2 ^ 31 := by rcases hE.2 with q | q | q <;> omega
      rw [he, Option.bind_some, nI_1]
      by_cases h5 : s < w
      · rw [if_pos ((nI_ltI (by omega) (by omega)).mpr h5)]
        refine ih (i + 1) (by omega) (by omega) (fun b q1 q2 => ?_)
        by_cases q3 : b = i
        · rw [q3] at q2
          have q4 := (hE.win (by omega) hw).mpr q2
          omega
        · exact h3 b (by omega) q2
      · rw [if_neg (fun h9 => h5 ((nI_ltI (by omega) (by omega)).mp h9))]
        exact ⟨_, rfl, Or.inl ⟨i, rfl, by omega, (hE.win (by omega) hw).mp (by omega), h3⟩⟩
theorem m_roomIn {a : AbT} {m : Fn} (ho : aOk a) (hm : mV a m) {w C2 : Nat} (hC : C2 ≤ 64) (hw : 1 ≤ w) (hw2 : w ≤ 64) : ∃ res, f_X6_roomIn (nI w) (nI C2) m = some res ∧ aRoom a w C2 res := by
  unfold f_X6_roomIn
  rw [li0]
  exact m_room_loop ho hm hC hw hw2 FU 0 (by unfold FU; omega) (by omega) (fun b q => by omega)
/-- the cells once k of them are wanted -/
def aGr (C k : Nat) : Nat := if k ≤ C then C else if k ≤ 2 * C then 2 * C else 4 * C
