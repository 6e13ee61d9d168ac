/-! A thing comes: the class's slots and row. -/
theorem c_isCell1 {x : SlC} {C c : Nat} (hx : x.1 = nI C) (hC : C ≤ 64) (hc : c < C) : f_X2_isCell (nI c) x = some 1 := by
  unfold f_X2_isCell
  rw [hx, li0, li64, if_neg (nI_neg (by omega)), if_neg (nI_ge hc (by omega)), if_neg (nI_ge (by omega) (by omega))]
theorem w_give_loop {b w C : Nat} {v3 : Int32} (hb : b + w ≤ C) (hC : C ≤ 64) : ∀ (fu i : Nat) (x : SlC), x.1 = nI C → b + w - i < fu → i ≤ b + w → f_X2_giveCells_3 fu (nI b) (nI w) v3 (nI i) x = some (x.1, x.2.1, (fun c => if i ≤ c ∧ c < b + w then v3 else x.2.2.1 c), x.2.2.2) := by
  intro fu
  induction fu with
  | zero => intro i x h1 h2; omega
  | succ fu ih =>
    intro i x h1 h2 h3
    rw [f_X2_giveCells_3.eq_2, nI_add, nI_1]
    by_cases h4 : b + w ≤ i
    · rw [if_pos (nI_le h4 (by omega))]
      have h5 : (fun c => if i ≤ c ∧ c < b + w then v3 else x.2.2.1 c) = x.2.2.1 := by
        funext c
        rw [if_neg (by omega)]
      rw [h5]
    · rw [if_neg (nI_ge (by omega) (by omega)), c_isCell1 h1 hC (by omega), Option.bind_some, if_neg (by decide), gi_in (by omega) (by decide), nI_clamp (by omega), ih (i + 1) (x.1, x.2.1, upd x.2.2.1 i v3, x.2.2.2) h1 (by omega) (by omega)]
      show some (x.1, x.2.1, (fun c => if i + 1 ≤ c ∧ c < b + w then v3 else upd x.2.2.1 i v3 c), x.2.2.2) = _
      have h5 : (fun c => if i + 1 ≤ c ∧ c < b + w then v3 else upd x.2.2.1 i v3 c) = (fun c => if i ≤ c ∧ c < b + w then v3 else x.2.2.1 c) := by
        funext c
        by_cases h6 : c = i
        · subst h6
          rw [if_neg (by omega), if_pos (by omega), up_eq]
        · by_cases h7 : i ≤ c ∧ c < b + w
          · rw [if_pos (by omega), if_pos h7]
          · rw [if_neg (by omega), if_neg h7, up_ne _ _ h6]
      rw [h5]
theorem w_giveCells {b w C : Nat} {v3 : Int32} (hb : b + w ≤ C) (hC : C ≤ 64) {x : SlC} (hx : x.1 = nI C) : f_X2_giveCells (nI b) (nI w) v3 x = some (x.1, x.2.1, (fun c => if b ≤ c ∧ c < b + w then v3 else x.2.2.1 c), x.2.2.2) := by
  unfold f_X2_giveCells
  exact w_give_loop hb hC FU b x hx (by unfold FU; omega) (by omega)
theorem w_occupy {a : AbT} {x : SlC} (ho : aOk a) (hv : sV a x) {b w v k : Nat} (hb : b + w ≤ 64) (hw : 1 ≤ w) : f_X2_occupy (nI b) (nI v) (nI w) (nI k) x = some (nI (aGr (aC a) (b + w)), x.2.1, (fun c => if b ≤ c ∧ c < b + w then nI b else x.2.2.1 c), upd x.2.2.2.1 b (nI w), upd x.2.2.2.2.1 b (nI v), upd x.2.2.2.2.2.1 b (nI k), upd x.2.2.2.2.2.2 b 0) := by
  have hG := aGr.ok ho hb
  unfold f_X2_occupy
  rw [nI_add, w_growTo ho hv hb, Option.bind_some, c_isCell1 (C := aGr (aC a) (b + w)) rfl (by omega) (by omega), Option.bind_some, if_neg (by decide), gi_in (by omega) (by decide), gi_in (by omega) (by decide), gi_in (by omega) (by decide), gi_in (by omega) (by decide), nI_clamp (by omega), w_giveCells (C := aGr (aC a) (b + w)) (by omega) (by omega) rfl, Option.bind_some]
theorem w_put_s {a : AbT} {x : SlC} (ho : aOk a) (hv : sV a x) {p b w v k : Nat} (hp : p ≤ aN a) (hb : b + w ≤ 64) (hw : 1 ≤ w) (hf : aWin a w b) : sV (aPut a p v w k b) (nI (aGr (aC a) (b + w)), x.2.1, (fun c => if b ≤ c ∧ c < b + w then nI b else x.2.2.1 c), upd x.2.2.2.1 b (nI w), upd x.2.2.2.2.1 b (nI v), upd x.2.2.2.2.2.1 b (nI k), upd x.2.2.2.2.2.2 b 0) := by
  have hne : ∀ i, i < aN a → 0 < aW a i → aB a i ≠ b := fun i h1 h2 h3 => hf b (by omega) (by omega) i h1 (by unfold aCov; omega)
  refine ⟨rfl, hv.2.1, fun j c hj hc h1 => ?_, fun c hc h1 => ?_, fun j hj hj2 => ?_, fun c hc h1 => ?_⟩
  · show (if b ≤ c ∧ c < b + w then nI b else x.2.2.1 c) = nI (aIns p (aB a) b j)
    rcases aIns.old hp hj with q | ⟨i, q1, q2, q3⟩
    · subst q
      rw [if_pos (aPut.covp.mp h1), aIns.eq]
    · rw [q2] at h1
      have h2 := aPut.cov.mp h1
      rw [q3, if_neg (fun h3 => hf c h3.1 h3.2 i q1 h2)]
      exact hv.2.2.1 i c q1 hc h2
  · show (if b ≤ c ∧ c < b + w then nI b else x.2.2.1 c) = -1
    have h2 : ¬ (b ≤ c ∧ c < b + w) := fun h3 => h1 p (by show p < aN a + 1; omega) (aPut.covp.mpr h3)
    rw [if_neg h2]
    refine hv.2.2.2.1 c hc (fun i hi h3 => ?_)
    exact h1 (if i < p then i else i + 1) (by show (if i < p then i else i + 1) < aN a + 1; by_cases q : i < p <;> simp only [q, if_true, if_false] <;> omega) (aPut.cov.mpr h3)
  · show upd x.2.2.2.1 b (nI w) (aIns p (aB a) b j) = nI (aIns p (aW a) w j) ∧ upd x.2.2.2.2.1 b (nI v) (aIns p (aB a) b j) = nI (aIns p (aV a) v j) ∧ upd x.2.2.2.2.2.1 b (nI k) (aIns p (aB a) b j) = nI (aIns p (aK a) k j) ∧ upd x.2.2.2.2.2.2 b 0 (aIns p (aB a) b j) = aIns p (aF a) 0 j
    have h2 : 0 < aIns p (aW a) w j := hj2
    rcases aIns.old hp hj with q | ⟨i, q1, q2, q3⟩
    · subst q
      simp only [aIns.eq, up_eq, and_self]
    · rw [q3] at h2
      simp only [q3]
      rw [up_ne _ _ (hne i q1 h2), up_ne _ _ (hne i q1 h2), up_ne _ _ (hne i q1 h2), up_ne _ _ (hne i q1 h2)]
      exact hv.2.2.2.2.1 i q1 h2
  · show upd x.2.2.2.1 b (nI w) c = 0
    have h2 : c ≠ b := fun h3 => h1 p (by show p < aN a + 1; omega) (by show 0 < aIns p (aW a) w p; rw [aIns.eq]; omega) (by show aIns p (aB a) b p = c; rw [aIns.eq, h3])
    rw [up_ne _ _ h2]
    refine hv.2.2.2.2.2 c hc (fun i hi h3 h4 => ?_)
    exact h1 (if i < p then i else i + 1) (by show (if i < p then i else i + 1) < aN a + 1; by_cases q : i < p <;> simp only [q, if_true, if_false] <;> omega) (by show 0 < aIns p (aW a) w _; rw [aIns.new]; exact h3) (by show aIns p (aB a) b _ = c; rw [aIns.new]; exact h4)
