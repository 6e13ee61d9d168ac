/-! A thing comes. -/
theorem pg : ∀ (m n : Nat) (f : Nat → Nat), (∀ i, i < n → f i < m) → (∀ i j, i < n → j < n → f i = f j → i = j) → n ≤ m := by
  intro m
  induction m with
  | zero =>
    intro n f h1 h2
    rcases Nat.eq_zero_or_pos n with h3 | h3
    · omega
    · have h4 := h1 0 h3
      omega
  | succ m ih =>
    intro n f h1 h2
    rcases Nat.eq_zero_or_pos n with h3 | h3
    · omega
    · have h4 := ih (n - 1) (fun k => if f k = m then f (n - 1) else f k) (fun i hi => by
        have h5 := h1 i (by omega)
        have h6 := h1 (n - 1) (by omega)
        by_cases h7 : f i = m
        · have h8 : f (n - 1) ≠ m := fun q => by
            have q2 := h2 i (n - 1) (by omega) (by omega) (by omega)
            omega
          simp only [h7, if_true]
          omega
        · simp only [h7, if_false]
          omega) (fun i j hi hj h5 => by
        by_cases h6 : f i = m <;> by_cases h7 : f j = m
        · exact h2 i j (by omega) (by omega) (by omega)
        · simp only [h6, h7, if_true, if_false] at h5
          have q := h2 (n - 1) j (by omega) (by omega) h5
          omega
        · simp only [h6, h7, if_true, if_false] at h5
          have q := h2 i (n - 1) (by omega) (by omega) h5
          omega
        · simp only [h6, h7, if_false] at h5
          exact h2 i j (by omega) (by omega) h5)
      omega
/-- a walker on the entry j, if one is -/
def aWk (a : AbT) (j : Nat) : Nat := if aP a 0 = j + 2 then 0 else if aP a 1 = j + 2 then 1 else if aP a 2 = j + 2 then 2 else 3
theorem aWk.on {a : AbT} {j : Nat} (hq : ∃ i, i < 4 ∧ aP a i = j + 2) : aWk a j < 4 ∧ aP a (aWk a j) = j + 2 := by
  unfold aWk
  by_cases h0 : aP a 0 = j + 2
  · rw [if_pos h0]; exact ⟨by omega, h0⟩
  · by_cases h1 : aP a 1 = j + 2
    · rw [if_neg h0, if_pos h1]; exact ⟨by omega, h1⟩
    · by_cases h2 : aP a 2 = j + 2
      · rw [if_neg h0, if_neg h1, if_pos h2]; exact ⟨by omega, h2⟩
      · rw [if_neg h0, if_neg h1, if_neg h2]
        obtain ⟨i, g1, g2⟩ := hq
        rcases (show i = 0 ∨ i = 1 ∨ i = 2 ∨ i = 3 by omega) with q | q | q | q <;> subst q
        · exact absurd g2 h0
        · exact absurd g2 h1
        · exact absurd g2 h2
        · exact ⟨by omega, g2⟩
/-- where a cell is free there is room in the row -/
theorem aOk.room {a : AbT} (ho : aOk a) {c : Nat} (hc : c < 64) (hf : aFr a c) : aN a ≤ 67 := by
  have hC := aOk.C a ho
  have h1 := pg 68 (aN a + 1) (fun j => if j = aN a then c else if aW a j = 0 then 64 + aWk a j else aB a j) (fun i hi => by
    by_cases h2 : i = aN a
    · simp only [h2, if_true]; omega
    · by_cases h3 : aW a i = 0
      · simp only [h2, h3, if_true, if_false]
        have h4 := aWk.on (ho.2.2.2.2.1 i (by omega) h3)
        omega
      · simp only [h2, h3, if_false]
        have h4 := ho.2.2.1 i (by omega) (by omega)
        omega) (fun i j hi hj h2 => by
    have key : ∀ i, i < aN a → aW a i ≠ 0 → aB a i ≠ c := fun i q1 q2 q3 => hf i q1 (by unfold aCov; omega)
    by_cases h3 : i = aN a <;> by_cases h4 : j = aN a
    · omega
    · by_cases h6 : aW a j = 0
      · simp only [h3, h4, h6, if_true, if_false] at h2; omega
      · simp only [h3, h4, h6, if_true, if_false] at h2
        exact absurd h2.symm (key j (by omega) h6)
    · by_cases h6 : aW a i = 0
      · simp only [h3, h4, h6, if_true, if_false] at h2; omega
      · simp only [h3, h4, h6, if_true, if_false] at h2
        exact absurd h2 (key i (by omega) h6)
    · by_cases h5 : aW a i = 0 <;> by_cases h6 : aW a j = 0
      · simp only [h3, h4, h5, h6, if_true, if_false] at h2
        have g1 := aWk.on (ho.2.2.2.2.1 i (by omega) h5)
        have g2 := aWk.on (ho.2.2.2.2.1 j (by omega) h6)
        rw [show aWk a i = aWk a j by omega] at g1
        omega
      · simp only [h3, h4, h5, h6, if_true, if_false] at h2
        have g2 := ho.2.2.1 j (by omega) (by omega)
        omega
      · simp only [h3, h4, h5, h6, if_true, if_false] at h2
        have g2 := ho.2.2.1 i (by omega) (by omega)
        omega
      · simp only [h3, h4, h5, h6, if_false] at h2
        exact ho.2.2.2.1 i j (aB a i) (by omega) (by omega) (by unfold aCov; omega) (by unfold aCov; omega))
  omega
/-- a row with one more, at p -/
def aIns {α : Type} (p : Nat) (g : Nat → α) (v : α) : Nat → α := fun j => if j < p then g j else if j = p then v else g (j - 1)
theorem aIns.lt {α : Type} {p j : Nat} {g : Nat → α} {v : α} (hq : j < p) : aIns p g v j = g j := if_pos hq
theorem aIns.eq {α : Type} {p : Nat} {g : Nat → α} {v : α} : aIns p g v p = v := by unfold aIns; rw [if_neg (by omega), if_pos rfl]
theorem aIns.gt {α : Type} {p j : Nat} {g : Nat → α} {v : α} (hq : p < j) : aIns p g v j = g (j - 1) := by unfold aIns; rw [if_neg (by omega), if_neg (by omega)]
/-- a thing comes: at p in the row, value v, width w, kind k, at the cell b -/
def aPut (a : AbT) (p v w k b : Nat) : AbT :=
  (aGr (aC a) (b + w), aN a + 1, aS a, (aIns p (aB a) b, aIns p (aW a) w, aIns p (aV a) v, aIns p (aK a) k, aIns p (aF a) 0), (fun i => if aP a i < p + 2 then aP a i else aP a i + 1), fun i => if i = 1 then aT a 1 + 1 else aT a i)
/-- the old place of an entry -/
theorem aIns.old {p n j : Nat} (hp : p ≤ n) (hj : j < n + 1) : j = p ∨ ∃ i, i < n ∧ (j = if i < p then i else i + 1) ∧ ∀ {α : Type} (g : Nat → α) (v : α), aIns p g v j = g i := by
  rcases Nat.lt_trichotomy j p with q | q | q
  · exact Or.inr ⟨j, by omega, by rw [if_pos q], fun g v => aIns.lt q⟩
  · exact Or.inl q
  · exact Or.inr ⟨j - 1, by omega, by rw [if_neg (by omega)]; omega, fun g v => aIns.gt q⟩
theorem aIns.new {p i : Nat} : ∀ {α : Type} (g : Nat → α) (v : α), aIns p g v (if i < p then i else i + 1) = g i := by
  intro α g v
  by_cases q : i < p
  · rw [if_pos q, aIns.lt q]
  · rw [if_neg q, aIns.gt (by omega)]
    rfl
theorem aGr.ok {a : AbT} (ho : aOk a) {k : Nat} (hk : k ≤ 64) : (aGr (aC a) k = 16 ∨ aGr (aC a) k = 32 ∨ aGr (aC a) k = 64) ∧ aC a ≤ aGr (aC a) k ∧ k ≤ aGr (aC a) k := by
  have hC := ho.1
  unfold aGr
  by_cases h6 : k ≤ aC a
  · rw [if_pos h6]; omega
  · by_cases h7 : k ≤ 2 * aC a
    · rw [if_neg h6, if_pos h7]; omega
    · rw [if_neg h6, if_neg h7]; omega
theorem aPut.cov {a : AbT} {p v w k b : Nat} {i c : Nat} : aCov (aPut a p v w k b) (if i < p then i else i + 1) c ↔ aCov a i c := by
  show (aIns p (aB a) b (if i < p then i else i + 1) ≤ c ∧ c < aIns p (aB a) b (if i < p then i else i + 1) + aIns p (aW a) w (if i < p then i else i + 1)) ↔ _
  rw [aIns.new, aIns.new]
  exact Iff.rfl
theorem aPut.covp {a : AbT} {p v w k b : Nat} {c : Nat} : aCov (aPut a p v w k b) p c ↔ b ≤ c ∧ c < b + w := by
  show (aIns p (aB a) b p ≤ c ∧ c < aIns p (aB a) b p + aIns p (aW a) w p) ↔ _
  rw [aIns.eq, aIns.eq]
theorem aPut.ok {a : AbT} (ho : aOk a) {p v w k b : Nat} (hp : p ≤ aN a) (hv : v ≤ 999) (hw : 1 ≤ w) (hw4 : w ≤ 4) (hk : k ≤ 2) (hb : b + w ≤ 64) (hf : aWin a w b) : aOk (aPut a p v w k b) := by
  have hG := aGr.ok ho hb
  have hn := ho.room (c := b) (by omega) (hf b (by omega) (by omega))
  refine ⟨hG.1, (by show aN a + 1 ≤ 68; omega), fun j hj hj2 => ?_, fun i j c hi hj h1 h2 => ?_, fun j hj hj2 => ?_, fun i hi => ?_, fun c => ho.2.2.2.2.2.2 c⟩
  · rcases aIns.old hp hj with q | ⟨i, q1, q2, q3⟩
    · subst q
      show aIns j (aW a) w j ≤ 4 ∧ aIns j (aB a) b j + aIns j (aW a) w j ≤ aGr (aC a) (b + w) ∧ aIns j (aV a) v j ≤ 999 ∧ aIns j (aK a) k j ≤ 2
      simp only [aIns.eq]
      omega
    · have h3 : 0 < aIns p (aW a) w j := hj2
      show aIns p (aW a) w j ≤ 4 ∧ aIns p (aB a) b j + aIns p (aW a) w j ≤ aGr (aC a) (b + w) ∧ aIns p (aV a) v j ≤ 999 ∧ aIns p (aK a) k j ≤ 2
      rw [q3] at h3
      simp only [q3]
      have h4 := ho.2.2.1 i q1 h3
      omega
  · rcases aIns.old hp hi with q | ⟨i1, q1, q2, -⟩ <;> rcases aIns.old hp hj with r | ⟨j1, r1, r2, -⟩
    · omega
    · subst q; rw [r2] at h2
      exact absurd (aPut.cov.mp h2) (hf c (aPut.covp.mp h1).1 (aPut.covp.mp h1).2 j1 r1)
    · subst r; rw [q2] at h1
      exact absurd (aPut.cov.mp h1) (hf c (aPut.covp.mp h2).1 (aPut.covp.mp h2).2 i1 q1)
    · rw [q2] at h1; rw [r2] at h2
      have h3 := ho.2.2.2.1 i1 j1 c q1 r1 (aPut.cov.mp h1) (aPut.cov.mp h2)
      rw [q2, r2, h3]
  · have h3 : aIns p (aW a) w j = 0 := hj2
    rcases aIns.old hp hj with q | ⟨i, q1, q2, q3⟩
    · subst q; rw [aIns.eq] at h3; omega
    · rw [q3] at h3
      obtain ⟨i2, g1, g2⟩ := ho.2.2.2.2.1 i q1 h3
      refine ⟨i2, g1, ?_⟩
      show (if aP a i2 < p + 2 then aP a i2 else aP a i2 + 1) = j + 2
      by_cases h4 : i < p
      · rw [if_pos h4] at q2; rw [if_pos (by omega)]; omega
      · rw [if_neg h4] at q2; rw [if_neg (by omega)]; omega
  · show (if aP a i < p + 2 then aP a i else aP a i + 1) < aN a + 1 + 2
    have h3 := ho.2.2.2.2.2.1 i hi
    by_cases h4 : aP a i < p + 2
    · rw [if_pos h4]; omega
    · rw [if_neg h4]; omega
