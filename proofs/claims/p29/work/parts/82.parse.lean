/-! A part of a text, both sides. -/
theorem it1 {α β : Type} {y : α} {p q : β} : (if ((1 : Int32), y).1 = 0 then p else q) = q := if_neg (by decide : ¬ (1 : Int32) = 0)
theorem it0 {α β : Type} {y : α} {p q : β} : (if ((0 : Int32), y).1 = 0 then p else q) = p := if_pos rfl
theorem m_number0 {len : Nat} {cd : Nat → Nat} {x : TxC} {o : MdC} (ht : tV len cd x o) {s tm : Nat} {td : Fn} (hs : s ≤ len) (htm : 3 * tm + 0 < 63) : (¬ dg len cd s ∧ f_X6_isNumber 0 0 999 (mS o s td tm) = some (0, mS o s td tm)) ∨ ∃ e v t, f_X6_isNumber 0 0 999 (mS o s td tm) = some (1, mS o e (upd td (3 * tm + 0) (nI v)) tm) ∧ s < e ∧ e ≤ len ∧ v ≤ 999 ∧ Rn x s 0 e t ∧ ((t = 1 ∨ t = 4) ∨ ((t = 2 ∨ t = 3) ∧ ¬ dg len cd e)) ∧ (∀ j, s ≤ j → j < e → 48 ≤ cd j) ∧ f_X4_numberIn (nI s) (nI e) x = some (nI v) := by
  have h0 := ht.1
  have e9 : f_X6_isNumber 0 0 999 (mS o s td tm) = f_X6_isNumber_19 (nI 0) (nI 999) (nI 48) 48 (nI 9) (mS o s td tm) := by
    unfold f_X6_isNumber
    rw [if_pos (by decide)]
    rfl
  obtain ⟨k0, k1⟩ := m_n19 (p := 0) (M := 999) (lo := 48) (hi := 9) (tm := tm) (td := td) ht hs (by omega) (by omega)
  rw [e9]
  by_cases h1 : dg len cd s
  · right
    have h1a := h1.1
    have h1b := h1.2
    rw [k1 h1 (by omega), show FU = 5996 + 1 + 1 + 1 + 1 from rfl]
    have s0 : f_X4_stateBehind (nI 0) (nI (cd s)) = some (if cd s = 48 then nI 1 else if 49 ≤ cd s ∧ cd s ≤ 57 then nI 2 else -1) := sb0 ⟨cd s, by omega⟩
    rw [m_num_step ht (by omega) htm (by omega) (by omega)]
    by_cases h2 : cd s = 48
    · rw [if_neg (by omega)]
      rw [if_pos h2] at s0
      refine ⟨s + 1, cd s - 48, 1, rfl, by omega, by omega, by omega, Rn.st ht h1a (by omega) s0, Or.inl (Or.inl rfl), fun j q1 q2 => by rw [show j = s by omega]; omega, ?_⟩
      show f_X4_numberIn_5 (5998 + 1 + 1) (nI (s + 1)) (nI 0) (nI s) x = _
      rw [w_num_step ht h1a (by omega) (by omega) (by omega), w_num_end (by omega)]
      congr 2
      omega
    · rw [if_neg h2, if_pos (by omega)] at s0
      have r1 := Rn.st ht h1a (by omega) s0
      by_cases h3 : dg len cd (s + 1)
      · have h3a := h3.1
        have h3b := h3.2
        have s1 : f_X4_stateBehind (nI 2) (nI (cd (s + 1))) = some (if cd (s + 1) = 42 then nI 5 else if 48 ≤ cd (s + 1) ∧ cd (s + 1) ≤ 57 then nI 3 else -1) := sb2 ⟨cd (s + 1), by omega⟩
        rw [if_neg (by omega), if_pos (by omega)] at s1
        have r2 := r1.tr (Rn.st ht h3a (by omega) s1)
        rw [if_pos ⟨by omega, h3, by omega⟩, m_num_step ht (by omega) htm (by omega) (by omega)]
        by_cases h4 : dg len cd (s + 1 + 1)
        · have h4a := h4.1
          have h4b := h4.2
          have s2 : f_X4_stateBehind (nI 3) (nI (cd (s + 1 + 1))) = some (if cd (s + 1 + 1) = 42 then nI 5 else if 48 ≤ cd (s + 1 + 1) ∧ cd (s + 1 + 1) ≤ 57 then nI 4 else -1) := sb3 ⟨cd (s + 1 + 1), by omega⟩
          rw [if_neg (by omega), if_pos (by omega)] at s2
          have r3 := r2.tr (Rn.st ht h4a (by omega) s2)
          rw [if_pos ⟨by omega, h4, by omega⟩, m_num_step ht (by omega) htm (by omega) (by omega), if_neg (by omega)]
          refine ⟨s + 1 + 1 + 1, 10 * (10 * (cd s - 48) + (cd (s + 1) - 48)) + (cd (s + 1 + 1) - 48), 4, rfl, by omega, by omega, by omega, r3, Or.inl (Or.inr rfl), fun j q1 q2 => ?_, ?_⟩
          · rcases (show j = s ∨ j = s + 1 ∨ j = s + 1 + 1 by omega) with q | q | q <;> rw [q] <;> omega
          · show f_X4_numberIn_5 (5996 + 1 + 1 + 1 + 1) (nI (s + 1 + 1 + 1)) (nI 0) (nI s) x = _
            rw [w_num_step ht h1a (by omega) (by omega) (by omega), w_num_step ht h3a (by omega) (by omega) (by omega), w_num_step ht h4a (by omega) (by omega) (by omega), w_num_end (by omega)]
            congr 2
            omega
        · rw [if_neg (fun h => h4 h.2.1)]
          refine ⟨s + 1 + 1, 10 * (cd s - 48) + (cd (s + 1) - 48), 3, rfl, by omega, by omega, by omega, r2, Or.inr ⟨Or.inr rfl, h4⟩, fun j q1 q2 => ?_, ?_⟩
          · rcases (show j = s ∨ j = s + 1 by omega) with q | q <;> rw [q] <;> omega
          · show f_X4_numberIn_5 (5997 + 1 + 1 + 1) (nI (s + 1 + 1)) (nI 0) (nI s) x = _
            rw [w_num_step ht h1a (by omega) (by omega) (by omega), w_num_step ht h3a (by omega) (by omega) (by omega), w_num_end (by omega)]
            congr 2
            omega
      · rw [if_neg (fun h => h3 h.2.1)]
        refine ⟨s + 1, cd s - 48, 2, rfl, by omega, by omega, by omega, r1, Or.inr ⟨Or.inl rfl, h3⟩, fun j q1 q2 => by rw [show j = s by omega]; omega, ?_⟩
        show f_X4_numberIn_5 (5998 + 1 + 1) (nI (s + 1)) (nI 0) (nI s) x = _
        rw [w_num_step ht h1a (by omega) (by omega) (by omega), w_num_end (by omega)]
        congr 2
        omega
  · exact Or.inl ⟨h1, k0 h1 (by omega)⟩
theorem m_number1 {len : Nat} {cd : Nat → Nat} {x : TxC} {o : MdC} (ht : tV len cd x o) {s tm : Nat} {td : Fn} (hs : s ≤ len) (htm : 3 * tm + 1 < 63) : f_X6_isNumber 1 1 4 (mS o s td tm) = if s < len ∧ 49 ≤ cd s ∧ cd s ≤ 52 then some (1, mS o (s + 1) (upd td (3 * tm + 1) (nI (cd s - 48))) tm) else some (0, mS o s td tm) := by
  have h0 := ht.1
  have e9 : f_X6_isNumber 1 1 4 (mS o s td tm) = f_X6_isNumber_19 (nI 1) (nI 4) (nI 49) 48 (nI 4) (mS o s td tm) := by
    unfold f_X6_isNumber
    rw [if_neg (by decide)]
    rfl
  obtain ⟨k0, k1⟩ := m_n19 (p := 1) (M := 4) (lo := 49) (hi := 4) (tm := tm) (td := td) ht hs (by omega) (by omega)
  rw [e9]
  by_cases h1 : s < len ∧ 49 ≤ cd s ∧ cd s ≤ 52
  · rw [if_pos h1, k1 h1 (by omega), show FU = 5999 + 1 from rfl, m_num_step ht (by omega) htm (by omega) (by omega), if_neg (by omega)]
  · rw [if_neg h1, k0 h1 (by omega)]
/-- what the class finds of a part -/
def Prt (cd : Nat → Nat) (x : TxC) (s e v w k : Nat) : Prop := (∀ j, s ≤ j → j < e → cd j ≠ 44) ∧ ∃ p, f_X4_indexOf 42 (nI s) x = some (nI p) ∧ f_X4_numberIn (nI s) (nI p) x = some (nI v) ∧ f_X4_numberIn (nI (p + 1)) (nI (p + 2)) x = some (nI w) ∧ f_X5_kindOfSign (nI (cd (e - 1))) = some (nI k)
theorem m_72 {o : MdC} {s k tm : Nat} {td : Fn} (hp : 3 * tm + 2 < 63) : f_X6_isThingTold_72 (3 * nI tm + 2) (nI k) (mS o s td tm) = some (1, mS o s (upd td (3 * tm + 2) (nI k)) tm) := by
  unfold f_X6_isThingTold_72
  rw [li3, nI_mul, li2, nI_add, gi_in hp (by decide), nI_clamp (by omega)]
theorem m_told {len : Nat} {cd : Nat → Nat} {x : TxC} {o : MdC} (ht : tV len cd x o) {s tm : Nat} {td : Fn} (hs : s ≤ len) (htm : 4 * tm ≤ s) : (∃ e td2 t, f_X6_isThingTold (mS o s td tm) = some (0, mS o e td2 tm) ∧ Rn x s 0 e t ∧ rnE len cd t e ∧ t < 6) ∨
    ∃ e td2 t v w k, f_X6_isThingTold (mS o s td tm) = some (1, mS o e td2 tm) ∧ s + 3 ≤ e ∧ e ≤ len ∧ Rn x s 0 e t ∧ (t = 7 ∨ (t = 6 ∧ (e < len → cd e ≠ 33 ∧ cd e ≠ 43))) ∧ td2 (3 * tm) = nI v ∧ td2 (3 * tm + 1) = nI w ∧ td2 (3 * tm + 2) = nI k ∧ v ≤ 999 ∧ 1 ≤ w ∧ w ≤ 4 ∧ k ≤ 2 ∧ (∀ c, c < 3 * tm → td2 c = td c) ∧ Prt cd x s e v w k := by
  have h0 := ht.1
  unfold f_X6_isThingTold
  rcases m_number0 (td := td) ht hs (tm := tm) (by omega) with ⟨g1, g2⟩ | ⟨e1, v, t1, g1, g2, g3, g4, g5, g6, g7, g8⟩
  · left
    rw [g2, Option.bind_some, it0]
    refine ⟨s, td, 0, rfl, Rn.rf, ⟨by omega, hs, ?_⟩, by omega⟩
    by_cases h1 : s = len
    · exact Or.inl h1
    · have h9 := ht.2.2.2 s (by omega)
      have s0 : f_X4_stateBehind (nI 0) (nI (cd s)) = some (if cd s = 48 then nI 1 else if 49 ≤ cd s ∧ cd s ≤ 57 then nI 2 else -1) := sb0 ⟨cd s, by omega⟩
      rw [if_neg (by omega), if_neg (by omega)] at s0
      exact Or.inr s0
  · rw [g1, Option.bind_some, it1, show (42 : Int32) = nI 42 from rfl, m_takes ht g3 (by omega)]
    by_cases h1 : e1 < len ∧ cd e1 = 42
    · have h1a := h1.1
      have h1b := h1.2
      have r2 : Rn x s 0 (e1 + 1) 5 := by
        refine g5.tr ?_
        rcases g6 with (q | q) | ⟨q | q, -⟩ <;> subst q
        · have s0 : f_X4_stateBehind (nI 1) (nI (cd e1)) = some (if cd e1 = 42 then nI 5 else -1) := sb1 ⟨cd e1, by omega⟩
          rw [if_pos h1b] at s0
          exact Rn.st ht h1a (by omega) s0
        · have s0 : f_X4_stateBehind (nI 4) (nI (cd e1)) = some (if cd e1 = 42 then nI 5 else -1) := sb4 ⟨cd e1, by omega⟩
          rw [if_pos h1b] at s0
          exact Rn.st ht h1a (by omega) s0
        · have s0 : f_X4_stateBehind (nI 2) (nI (cd e1)) = some (if cd e1 = 42 then nI 5 else if 48 ≤ cd e1 ∧ cd e1 ≤ 57 then nI 3 else -1) := sb2 ⟨cd e1, by omega⟩
          rw [if_pos h1b] at s0
          exact Rn.st ht h1a (by omega) s0
        · have s0 : f_X4_stateBehind (nI 3) (nI (cd e1)) = some (if cd e1 = 42 then nI 5 else if 48 ≤ cd e1 ∧ cd e1 ≤ 57 then nI 4 else -1) := sb3 ⟨cd e1, by omega⟩
          rw [if_pos h1b] at s0
          exact Rn.st ht h1a (by omega) s0
      rw [if_pos h1, Option.bind_some, it1, m_number1 ht (by omega) (by omega)]
      by_cases h2 : e1 + 1 < len ∧ 49 ≤ cd (e1 + 1) ∧ cd (e1 + 1) ≤ 52
      · have h2a := h2.1
        have h2b := h2.2
        have s5 : f_X4_stateBehind (nI 5) (nI (cd (e1 + 1))) = some (if 49 ≤ cd (e1 + 1) ∧ cd (e1 + 1) ≤ 52 then nI 6 else -1) := sb5 ⟨cd (e1 + 1), by omega⟩
        rw [if_pos h2b] at s5
        have r3 := r2.tr (Rn.st ht h2a (by omega) s5)
        have i1 : f_X4_indexOf 42 (nI s) x = some (nI e1) := w_indexOf_t ht (c := 42) (by omega) g3 (Or.inr h1b) (by omega) (fun j q1 q2 => by have := g7 j q1 q2; omega)
        have i2 : f_X4_numberIn (nI (e1 + 1)) (nI (e1 + 2)) x = some (nI (cd (e1 + 1) - 48)) := by
          show f_X4_numberIn_5 (5998 + 1 + 1) (nI (e1 + 2)) (nI 0) (nI (e1 + 1)) x = _
          rw [w_num_step ht h2a (by omega) (by omega) (by omega), w_num_end (by omega)]
          congr 2
          omega
        have nc : ∀ j, s ≤ j → j < e1 + 1 + 1 → cd j ≠ 44 := fun j q1 q2 => by
          rcases (show j < e1 ∨ j = e1 ∨ j = e1 + 1 by omega) with q | q | q
          · have := g7 j q1 q; omega
          · rw [q]; omega
          · rw [q]; omega
        rw [if_pos h2, Option.bind_some, it1, show (33 : Int32) = nI 33 from rfl, m_takes ht (by omega) (by omega)]
        have told : ∀ k, upd (upd (upd td (3 * tm + 0) (nI v)) (3 * tm + 1) (nI (cd (e1 + 1) - 48))) (3 * tm + 2) (nI k) (3 * tm) = nI v ∧ upd (upd (upd td (3 * tm + 0) (nI v)) (3 * tm + 1) (nI (cd (e1 + 1) - 48))) (3 * tm + 2) (nI k) (3 * tm + 1) = nI (cd (e1 + 1) - 48) ∧ upd (upd (upd td (3 * tm + 0) (nI v)) (3 * tm + 1) (nI (cd (e1 + 1) - 48))) (3 * tm + 2) (nI k) (3 * tm + 2) = nI k ∧ ∀ c, c < 3 * tm → upd (upd (upd td (3 * tm + 0) (nI v)) (3 * tm + 1) (nI (cd (e1 + 1) - 48))) (3 * tm + 2) (nI k) c = td c := fun k => by
          refine ⟨?_, ?_, ?_, fun c hc => ?_⟩
          · rw [up_ne _ _ (by omega), up_ne _ _ (by omega)]; exact up_eq _ _ _
          · rw [up_ne _ _ (by omega), up_eq]
          · rw [up_eq]
          · rw [up_ne _ _ (by omega), up_ne _ _ (by omega), up_ne _ _ (by omega)]
        right
        by_cases h3 : e1 + 1 + 1 < len ∧ cd (e1 + 1 + 1) = 33
        · have h3a := h3.1
          have h3b := h3.2
          have s6 : f_X4_stateBehind (nI 6) (nI (cd (e1 + 1 + 1))) = some (if cd (e1 + 1 + 1) = 44 then nI 0 else if cd (e1 + 1 + 1) = 33 ∨ cd (e1 + 1 + 1) = 43 then nI 7 else -1) := sb6 ⟨cd (e1 + 1 + 1), by omega⟩
          rw [if_neg (by omega), if_pos (by omega)] at s6
          rw [if_pos h3, Option.bind_some, it1]
          have told1 := told 1
          refine ⟨e1 + 1 + 1 + 1, _, 7, v, cd (e1 + 1) - 48, 1, m_72 (k := 1) (by omega), by omega, by omega, r3.tr (Rn.st ht h3a (by omega) s6), Or.inl rfl, told1.1, told1.2.1, told1.2.2.1, g4, by omega, by omega, by omega, told1.2.2.2, fun j q1 q2 => ?_, e1, i1, g8, i2, ?_⟩
          · by_cases q : j = e1 + 1 + 1
            · rw [q]; omega
            · exact nc j q1 (by omega)
          · have s9 : f_X5_kindOfSign (nI (cd (e1 + 1 + 1))) = some (nI (if cd (e1 + 1 + 1) = 33 then 1 else if cd (e1 + 1 + 1) = 43 then 2 else 0)) := sks ⟨cd (e1 + 1 + 1), by omega⟩
            rw [if_pos h3b] at s9
            exact s9
        · rw [if_neg h3, Option.bind_some, it0, show (43 : Int32) = nI 43 from rfl, m_takes ht (by omega) (by omega)]
          by_cases h4 : e1 + 1 + 1 < len ∧ cd (e1 + 1 + 1) = 43
          · have h4a := h4.1
            have h4b := h4.2
            have s6 : f_X4_stateBehind (nI 6) (nI (cd (e1 + 1 + 1))) = some (if cd (e1 + 1 + 1) = 44 then nI 0 else if cd (e1 + 1 + 1) = 33 ∨ cd (e1 + 1 + 1) = 43 then nI 7 else -1) := sb6 ⟨cd (e1 + 1 + 1), by omega⟩
            rw [if_neg (by omega), if_pos (by omega)] at s6
            rw [if_pos h4, Option.bind_some, it1]
            have told1 := told 2
            refine ⟨e1 + 1 + 1 + 1, _, 7, v, cd (e1 + 1) - 48, 2, m_72 (k := 2) (by omega), by omega, by omega, r3.tr (Rn.st ht h4a (by omega) s6), Or.inl rfl, told1.1, told1.2.1, told1.2.2.1, g4, by omega, by omega, by omega, told1.2.2.2, fun j q1 q2 => ?_, e1, i1, g8, i2, ?_⟩
            · by_cases q : j = e1 + 1 + 1
              · rw [q]; omega
              · exact nc j q1 (by omega)
            · have s9 : f_X5_kindOfSign (nI (cd (e1 + 1 + 1))) = some (nI (if cd (e1 + 1 + 1) = 33 then 1 else if cd (e1 + 1 + 1) = 43 then 2 else 0)) := sks ⟨cd (e1 + 1 + 1), by omega⟩
              rw [if_neg (by omega), if_pos h4b] at s9
              exact s9
          · rw [if_neg h4, Option.bind_some, it0]
            have told1 := told 0
            refine ⟨e1 + 1 + 1, _, 6, v, cd (e1 + 1) - 48, 0, m_72 (k := 0) (by omega), by omega, by omega, r3, Or.inr ⟨rfl, fun q => ⟨fun p => h3 ⟨q, p⟩, fun p => h4 ⟨q, p⟩⟩⟩, told1.1, told1.2.1, told1.2.2.1, g4, by omega, by omega, by omega, told1.2.2.2, nc, e1, i1, g8, i2, ?_⟩
            have s9 : f_X5_kindOfSign (nI (cd (e1 + 1))) = some (nI (if cd (e1 + 1) = 33 then 1 else if cd (e1 + 1) = 43 then 2 else 0)) := sks ⟨cd (e1 + 1), by omega⟩
            rw [if_neg (by omega), if_neg (by omega)] at s9
            exact s9
      · left
        rw [if_neg h2, Option.bind_some, it0]
        refine ⟨e1 + 1, _, 5, rfl, r2, ⟨by omega, by omega, ?_⟩, by omega⟩
        by_cases h3 : e1 + 1 = len
        · exact Or.inl h3
        · have h9 := ht.2.2.2 (e1 + 1) (by omega)
          have s5 : f_X4_stateBehind (nI 5) (nI (cd (e1 + 1))) = some (if 49 ≤ cd (e1 + 1) ∧ cd (e1 + 1) ≤ 52 then nI 6 else -1) := sb5 ⟨cd (e1 + 1), by omega⟩
          rw [if_neg (by omega)] at s5
          exact Or.inr s5
    · left
      rw [if_neg h1, Option.bind_some, it0]
      refine ⟨e1, _, t1, rfl, g5, ⟨by omega, g3, ?_⟩, by omega⟩
      by_cases h3 : e1 = len
      · exact Or.inl h3
      · have h9 := ht.2.2.2 e1 (by omega)
        right
        rcases g6 with (q | q) | ⟨q | q, q2⟩ <;> subst q
        · have s0 : f_X4_stateBehind (nI 1) (nI (cd e1)) = some (if cd e1 = 42 then nI 5 else -1) := sb1 ⟨cd e1, by omega⟩
          rw [if_neg (by omega)] at s0
          exact s0
        · have s0 : f_X4_stateBehind (nI 4) (nI (cd e1)) = some (if cd e1 = 42 then nI 5 else -1) := sb4 ⟨cd e1, by omega⟩
          rw [if_neg (by omega)] at s0
          exact s0
        · have s0 : f_X4_stateBehind (nI 2) (nI (cd e1)) = some (if cd e1 = 42 then nI 5 else if 48 ≤ cd e1 ∧ cd e1 ≤ 57 then nI 3 else -1) := sb2 ⟨cd e1, by omega⟩
          rw [if_neg (by omega), if_neg (by omega)] at s0
          exact s0
        · have s0 : f_X4_stateBehind (nI 3) (nI (cd e1)) = some (if cd e1 = 42 then nI 5 else if 48 ≤ cd e1 ∧ cd e1 ≤ 57 then nI 4 else -1) := sb3 ⟨cd e1, by omega⟩
          rw [if_neg (by omega), if_neg (by omega)] at s0
          exact s0
