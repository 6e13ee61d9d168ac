/-! The lowest free window. -/
def aWin (a : AbT) (w b : Nat) : Prop := ∀ c, b ≤ c → c < b + w → aFr a c
/-- what 'lowest' answers -/
def aLow (a : AbT) (w : Nat) (res : Int32) : Prop := (∃ b, res = nI b ∧ b + w ≤ 64 ∧ aWin a w b ∧ ∀ b2, b2 < b → ¬ aWin a w b2) ∨ (res = -1 ∧ ∀ b, b + w ≤ 64 → ¬ aWin a w b)
theorem nI_sub1 {i w : Nat} (hq : w ≤ i + 1) : nI i - nI w + 1 = nI (i + 1 - w) := by
  rw [← nI_sub hq, ← nI_1, Int32.sub_eq_add_neg, Int32.add_assoc, Int32.add_comm (-nI w), ← Int32.add_assoc, ← Int32.sub_eq_add_neg]
theorem w_low_27 {a : AbT} {x : SlC} {w i r : Nat} {k4 : Int32 → Int32 → Int32 → SlC → Option Int32} (hw : w ≤ 64) (hi : i < 64) (hr : r ≤ i + 1) (hf : ∀ c, i + 1 - r ≤ c → c < i + 1 → aFr a c) (hn : ∀ b, b + w ≤ i → ¬ aWin a w b) (hnw : ¬ r = w → ∀ b, b + w ≤ i + 1 → ¬ aWin a w b)
    (hk : ¬ r = w → ∃ res, k4 (nI w) (nI r) (nI (i + 1)) x = some res ∧ aLow a w res) : ∃ res, f_X2_lowestFor_27 k4 (nI w) (nI i) (nI r) x = some res ∧ aLow a w res := by
  unfold f_X2_lowestFor_27
  by_cases h1 : r = w
  · subst h1
    rw [if_pos rfl, nI_sub1 hr]
    exact ⟨_, rfl, Or.inl ⟨i + 1 - r, rfl, by omega, fun c h2 h3 => hf c h2 (by omega), fun b2 h2 => hn b2 (by omega)⟩⟩
  · rw [if_neg (fun h2 => h1 ((nI_eq (by omega) (by omega)).mp h2)), nI_1]
    exact hk h1
theorem w_low_loop {a : AbT} {x : SlC} (ho : aOk a) (hv : sV a x) {w : Nat} (hw : 1 ≤ w) (hw2 : w ≤ 64) : ∀ (fu i r : Nat), 64 - i < fu → i ≤ 64 → r ≤ i → r < w → (∀ c, i - r ≤ c → c < i → aFr a c) → (r < i → ¬ aFr a (i - r - 1)) → (∀ b, b + w ≤ i → ¬ aWin a w b) →
    ∃ res, f_X2_lowestFor_4 fu (nI w) (nI r) (nI i) x = some res ∧ aLow a w res := by
  intro fu
  induction fu with
  | zero => intro i r h1; omega
  | succ fu ih =>
    intro i r h1 h2 h3 h4 h5 h6 h7
    rw [f_X2_lowestFor_4.eq_2, li64]
    by_cases h8 : 64 ≤ i
    · rw [if_pos ((nI_leI (by omega) (by omega)).mpr h8)]
      have h9 : i = 64 := by omega
      subst h9
      exact ⟨_, rfl, Or.inr ⟨rfl, h7⟩⟩
    · rw [if_neg (fun h9 => h8 ((nI_leI (by omega) (by omega)).mp h9)), gi_in (by omega) (by decide), nI_clamp (by omega)]
      by_cases h9 : aFr a i
      · rw [if_pos ((w_owner_iff ho hv (by omega)).mpr h9), nI_1]
        have g1 : ∀ c, i + 1 - (r + 1) ≤ c → c < i + 1 → aFr a c := fun c q1 q2 => by
          by_cases q3 : c = i
          · rw [q3]; exact h9
          · exact h5 c (by omega) (by omega)
        have g2 : ¬ r + 1 = w → ∀ b, b + w ≤ i + 1 → ¬ aWin a w b := fun q1 b q2 q3 => by
          by_cases q4 : b + w ≤ i
          · exact h7 b q4 q3
          · have q5 : r < i := by omega
            exact h6 q5 (q3 _ (by omega) (by omega))
        refine w_low_27 hw2 (by omega) (by omega) g1 h7 g2 (fun q1 => ?_)
        exact ih (i + 1) (r + 1) (by omega) (by omega) (by omega) (by omega) g1 (fun q2 => by rw [show i + 1 - (r + 1) - 1 = i - r - 1 by omega]; exact h6 (by omega)) (g2 q1)
      · rw [if_neg (fun q1 => h9 ((w_owner_iff ho hv (by omega)).mp q1)), li0]
        have g2 : ∀ b, b + w ≤ i + 1 → ¬ aWin a w b := fun b q2 q3 => by
          by_cases q4 : b + w ≤ i
          · exact h7 b q4 q3
          · exact h9 (q3 i (by omega) (by omega))
        refine w_low_27 hw2 (by omega) (by omega) (fun c q1 q2 => by omega) h7 (fun _ => g2) (fun q1 => ?_)
        exact ih (i + 1) 0 (by omega) (by omega) (by omega) (by omega) (fun c q1 q2 => by omega) (fun _ => by rw [show i + 1 - 0 - 1 = i by omega]; exact h9) g2
/-- the class's lowest window -/
theorem w_lowestFor {a : AbT} {x : SlC} (ho : aOk a) (hv : sV a x) {w : Nat} (hw : 1 ≤ w) (hw2 : w ≤ 64) : ∃ res, f_X2_lowestFor (nI w) x = some res ∧ aLow a w res := by
  unfold f_X2_lowestFor
  rw [li0]
  exact w_low_loop ho hv hw hw2 FU 0 0 (by unfold FU; omega) (by omega) (by omega) (by omega) (fun c q1 q2 => by omega) (fun q1 => by omega) (fun b q1 q2 => by omega)
theorem aLow.det {a : AbT} {w : Nat} {r s : Int32} (h1 : aLow a w r) (h2 : aLow a w s) : r = s := by
  rcases h1 with ⟨b, e1, e2, e3, e4⟩ | ⟨e1, e2⟩ <;> rcases h2 with ⟨c, g1, g2, g3, g4⟩ | ⟨g1, g2⟩
  · rcases Nat.lt_trichotomy b c with q | q | q
    · exact absurd e3 (g4 b q)
    · rw [e1, g1, q]
    · exact absurd g3 (e4 c q)
  · exact absurd e3 (g2 b e2)
  · exact absurd g3 (e2 c g2)
  · rw [e1, g1]
