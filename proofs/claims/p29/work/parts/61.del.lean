/-! An entry goes. -/
def aDl {α : Type} (q : Nat) (g : Nat → α) : Nat → α := fun j => if j < q then g j else g (j + 1)
theorem aDl.at {α : Type} {q j : Nat} (g : Nat → α) : aDl q g j = g (if j < q then j else j + 1) := by
  unfold aDl
  by_cases h1 : j < q
  · rw [if_pos h1, if_pos h1]
  · rw [if_neg h1, if_neg h1]
/-- the entry q, on which no walker stands, is taken out of the row -/
def aDel (a : AbT) (q : Nat) : AbT :=
  (aC a, aN a - 1, aS a, (aDl q (aB a), aDl q (aW a), aDl q (aV a), aDl q (aK a), aDl q (aF a)), (fun i => if aP a i < q + 2 then aP a i else aP a i - 1), aT a)
/-- all but: a walker stands on the tombstone q -/
def aOq (a : AbT) (q : Nat) : Prop := (aC a = 16 ∨ aC a = 32 ∨ aC a = 64) ∧ aN a ≤ 68 ∧ (∀ j, j < aN a → 0 < aW a j → aW a j ≤ 4 ∧ aB a j + aW a j ≤ aC a ∧ aV a j ≤ 999 ∧ aK a j ≤ 2) ∧
  (∀ i j c, i < aN a → j < aN a → aCov a i c → aCov a j c → i = j) ∧ (∀ j, j < aN a → aW a j = 0 → j ≠ q → ∃ i, i < 4 ∧ aP a i = j + 2) ∧ (∀ i, i < 4 → aP a i < aN a + 2) ∧ ∀ c, aS a c < 1000
theorem aOk.q {a : AbT} (ho : aOk a) (q : Nat) : aOq a q := ⟨ho.1, ho.2.1, ho.2.2.1, ho.2.2.2.1, fun j h1 h2 _ => ho.2.2.2.2.1 j h1 h2, ho.2.2.2.2.2⟩
theorem aOq.ok {a : AbT} {q : Nat} (ho : aOq a q) (hq : aW a q = 0 → ∃ i, i < 4 ∧ aP a i = q + 2) : aOk a :=
  ⟨ho.1, ho.2.1, ho.2.2.1, ho.2.2.2.1, fun j h1 h2 => by
    by_cases h3 : j = q
    · subst h3; exact hq h2
    · exact ho.2.2.2.2.1 j h1 h2 h3, ho.2.2.2.2.2⟩
theorem aDel.cov {a : AbT} {q j c : Nat} : aCov (aDel a q) j c ↔ aCov a (if j < q then j else j + 1) c := by
  show (aDl q (aB a) j ≤ c ∧ c < aDl q (aB a) j + aDl q (aW a) j) ↔ _
  rw [aDl.at, aDl.at]
  exact Iff.rfl
theorem aDel.ok {a : AbT} {q : Nat} (ho : aOq a q) (hq : q < aN a) (hn : ∀ i, i < 4 → aP a i ≠ q + 2) : aOk (aDel a q) := by
  have hi : ∀ j, j < aN a - 1 → (if j < q then j else j + 1) < aN a := fun j h1 => by
    by_cases h2 : j < q
    · rw [if_pos h2]; omega
    · rw [if_neg h2]; omega
  refine ⟨ho.1, (by show aN a - 1 ≤ 68; have := ho.2.1; omega), fun j hj hj2 => ?_, fun i j c h1 h2 h3 h4 => ?_, fun j hj hj2 => ?_, fun i h1 => ?_, fun c => ho.2.2.2.2.2.2 c⟩
  · have h1 : 0 < aDl q (aW a) j := hj2
    show aDl q (aW a) j ≤ 4 ∧ aDl q (aB a) j + aDl q (aW a) j ≤ aC a ∧ aDl q (aV a) j ≤ 999 ∧ aDl q (aK a) j ≤ 2
    rw [aDl.at] at h1
    simp only [aDl.at]
    exact ho.2.2.1 _ (hi j hj) h1
  · have h5 := ho.2.2.2.1 _ _ c (hi i h1) (hi j h2) (aDel.cov.mp h3) (aDel.cov.mp h4)
    by_cases h6 : i < q <;> by_cases h7 : j < q <;> simp only [h6, h7, if_true, if_false] at h5 <;> omega
  · have h1 : aDl q (aW a) j = 0 := hj2
    rw [aDl.at] at h1
    obtain ⟨i, g1, g2⟩ := ho.2.2.2.2.1 _ (hi j hj) h1 (by by_cases h2 : j < q <;> simp only [h2, if_true, if_false] <;> omega)
    refine ⟨i, g1, ?_⟩
    show (if aP a i < q + 2 then aP a i else aP a i - 1) = j + 2
    by_cases h2 : j < q
    · rw [if_pos h2] at g2; rw [if_pos (by omega), g2]
    · rw [if_neg h2] at g2; rw [if_neg (by omega)]; omega
  · show (if aP a i < q + 2 then aP a i else aP a i - 1) < aN a - 1 + 2
    have h2 := ho.2.2.2.2.2.1 i h1
    by_cases h3 : aP a i < q + 2
    · rw [if_pos h3]; omega
    · rw [if_neg h3]; omega
theorem pC_le {q k n : Nat} (hq : q < n) (hn : n ≤ 68) (hk : k < n + 2) (h2 : k ≠ q + 2) : pC k ≤ nI q ↔ k < q + 2 := by
  unfold pC
  by_cases h0 : k = 0
  · rw [if_pos h0]
    refine ⟨fun _ => by omega, fun _ => ?_⟩
    rw [Int32.le_iff_toInt_le, nI_toInt (by omega), show (-1 : Int32).toInt = -1 by decide]
    omega
  · by_cases h1 : k = 1
    · rw [if_neg h0, if_pos h1]
      refine ⟨fun _ => by omega, fun _ => ?_⟩
      rw [Int32.le_iff_toInt_le, nI_toInt (by omega), show (-2 : Int32).toInt = -2 by decide]
      omega
    · rw [if_neg h0, if_neg h1, nI_leI (by omega) (by omega)]
      omega
theorem pC_dn {q k n : Nat} (hq : q < n) (hn : n ≤ 68) (hk : k < n + 2) (h2 : k ≠ q + 2) : pC (if k < q + 2 then k else k - 1) = if pC k ≤ nI q then pC k else pC k - 1 := by
  by_cases h1 : k < q + 2
  · rw [if_pos h1, if_pos ((pC_le hq hn hk h2).mpr h1)]
  · rw [if_neg h1, if_neg (fun h3 => h1 ((pC_le hq hn hk h2).mp h3))]
    unfold pC
    rw [if_neg (by omega), if_neg (by omega), if_neg (by omega), if_neg (by omega)]
    have h4 := nI_pred (k - 1 - 2)
    rw [show k - 1 - 2 + 1 = k - 2 by omega] at h4
    exact h4.symm
theorem w_del_loop {q : Nat} : ∀ (fu i : Nat) (x : RwC), 4 - i < fu → i ≤ 4 → ∃ st, f_X1_sweep_62 fu (nI q) (nI i) x = some (x.1, x.2.1, st) ∧ (∀ c, c < i → st c = x.2.2 c) ∧ ∀ c, i ≤ c → c < 4 → st c = if x.2.2 c ≤ nI q then x.2.2 c else x.2.2 c - 1 := by
  intro fu
  induction fu with
  | zero => intro i x h1; omega
  | succ fu ih =>
    intro i x h1 h2
    rw [f_X1_sweep_62.eq_2, li4]
    by_cases h3 : i = 4
    · rw [if_pos (nI_le (by omega) (by omega))]
      exact ⟨x.2.2, rfl, fun c _ => rfl, fun c q1 q2 => by omega⟩
    · rw [if_neg (nI_ge (by omega) (by omega)), gi_in (by omega) (by decide), nI_clamp (by omega), nI_1, gi_in (by omega) (by decide), gi_in (by omega) (by decide)]
      by_cases h4 : x.2.2 i ≤ nI q
      · rw [if_pos h4]
        obtain ⟨st, g1, g2, g3⟩ := ih (i + 1) x (by omega) (by omega)
        refine ⟨st, g1, fun c q => g2 c (by omega), fun c q1 q2 => ?_⟩
        by_cases q3 : c = i
        · subst q3; rw [g2 c (by omega), if_pos h4]
        · exact g3 c (by omega) q2
      · rw [if_neg h4]
        obtain ⟨st, g1, g2, g3⟩ := ih (i + 1) (x.1, x.2.1, upd x.2.2 i (x.2.2 i - 1)) (by omega) (by omega)
        refine ⟨st, g1, fun c q => ?_, fun c q1 q2 => ?_⟩
        · rw [g2 c (by omega)]
          show upd x.2.2 i (x.2.2 i - 1) c = _
          rw [up_ne _ _ (by omega)]
        · by_cases q3 : c = i
          · subst q3; rw [g2 c (by omega), if_neg h4]
            show upd x.2.2 c (x.2.2 c - 1) c = _
            rw [up_eq]
          · rw [g3 c (by omega) q2]
            show (if upd x.2.2 i (x.2.2 i - 1) c ≤ nI q then upd x.2.2 i (x.2.2 i - 1) c else upd x.2.2 i (x.2.2 i - 1) c - 1) = _
            rw [up_ne _ _ q3]
theorem w_isEntry1 {x : RwC} {n q : Nat} (hx : x.1 = nI n) (hq : q < n) (hn : n ≤ 68) : f_X1_isEntry (nI q) x = some 1 := by
  unfold f_X1_isEntry
  rw [hx, if_neg (nI_pos (by omega)), if_neg (nI_ge hq (by omega)), li68, if_neg (nI_ge (by omega) (by omega))]
theorem w_thI {x : RwC} {n q : Nat} (hx : x.1 = nI n) (hq : q < n) (hn : n ≤ 68) : f_X1_thingIn (nI q) x = some (x.2.1 q) := by
  unfold f_X1_thingIn
  rw [w_isEntry1 hx hq hn, Option.bind_some, if_neg (by decide), gi_in (by omega) (by decide), nI_clamp (by omega)]
theorem w_rsz (x : RwC) : f_X1_size x = some x.1 := rfl
theorem w_delete {a : AbT} {x : RwC} (hN : aN a ≤ 68) (hP : ∀ i, i < 4 → aP a i < aN a + 2) (hr : rV a x) {q : Nat} (hq : q < aN a) (hn : ∀ i, i < 4 → aP a i ≠ q + 2) : ∃ y, gcp (nI q + 1) (nI q) ((x.1 - nI q) - 1) 68 68 (f_X1_sweep_62 FU (nI q) 0 (x.1 - 1, (va_cpy x.2.1 x.2.1 (nI q + 1).toNatClampNeg q ((x.1 - nI q) - 1).toNatClampNeg), x.2.2)) = some y ∧ rV (aDel a q) y := by
  rw [hr.1, nI_1, nI_sub (by omega), li1, nI_sub (by omega), nI_sub (by omega), gcp_in (by omega) (by omega) (by decide) (by decide), nI_clamp (by omega), nI_clamp (by omega)]
  obtain ⟨st, g1, g2, g3⟩ := w_del_loop (q := q) FU 0 (nI (aN a - 1), va_cpy x.2.1 x.2.1 (q + 1) q (aN a - q - 1), x.2.2) (by unfold FU; omega) (by omega)
  refine ⟨_, g1, rfl, fun j hj => ?_, fun i hi => ?_⟩
  · have hj9 : j < aN a - 1 := hj
    show va_cpy x.2.1 x.2.1 (q + 1) q (aN a - q - 1) j = if aDl q (aW a) j = 0 then -1 else nI (aDl q (aB a) j)
    rw [aDl.at, aDl.at]
    unfold va_cpy
    by_cases h1 : j < q
    · rw [if_pos h1, if_neg (by omega)]
      exact hr.2.1 j (by omega)
    · rw [if_neg h1, if_pos (by omega), show q + 1 + (j - q) = j + 1 by omega]
      exact hr.2.1 (j + 1) (by omega)
  · show st i = _
    rw [g3 i (by omega) hi]
    show (if x.2.2 i ≤ nI q then x.2.2 i else x.2.2 i - 1) = pC (if aP a i < q + 2 then aP a i else aP a i - 1)
    rw [pC_dn hq hN (hP i hi) (hn i hi), hr.2.2 i hi]
/-- the slots don't see that a tombstone goes -/
theorem aDel.s {a : AbT} {x : SlC} {q : Nat} (hq : q < aN a) (hw : aW a q = 0) (hv : sV a x) : sV (aDel a q) x := by
  have hi : ∀ j, j < aN a - 1 → (if j < q then j else j + 1) < aN a := fun j h1 => by
    by_cases h2 : j < q
    · rw [if_pos h2]; omega
    · rw [if_neg h2]; omega
  have hb : ∀ j, j < aN a → j ≠ q → ∃ i, i < aN a - 1 ∧ (if i < q then i else i + 1) = j := fun j h1 h2 => by
    by_cases h3 : j < q
    · exact ⟨j, by omega, if_pos h3⟩
    · exact ⟨j - 1, by omega, by rw [if_neg (by omega)]; omega⟩
  refine ⟨hv.1, hv.2.1, fun j c hj hc h1 => ?_, fun c hc h1 => ?_, fun j hj h1 => ?_, fun c hc h1 => ?_⟩
  · show x.2.2.1 c = nI (aDl q (aB a) j)
    rw [aDl.at]
    exact hv.2.2.1 _ c (hi j hj) hc (aDel.cov.mp h1)
  · refine hv.2.2.2.1 c hc (fun j hj h2 => ?_)
    by_cases h3 : j = q
    · subst h3; unfold aCov at h2; omega
    · obtain ⟨i, g1, g2⟩ := hb j hj h3
      exact h1 i g1 (aDel.cov.mpr (by rw [g2]; exact h2))
  · have h2 : 0 < aDl q (aW a) j := h1
    show x.2.2.2.1 (aDl q (aB a) j) = nI (aDl q (aW a) j) ∧ x.2.2.2.2.1 (aDl q (aB a) j) = nI (aDl q (aV a) j) ∧ x.2.2.2.2.2.1 (aDl q (aB a) j) = nI (aDl q (aK a) j) ∧ x.2.2.2.2.2.2 (aDl q (aB a) j) = aDl q (aF a) j
    rw [aDl.at] at h2
    simp only [aDl.at]
    exact hv.2.2.2.2.1 _ (hi j hj) h2
  · refine hv.2.2.2.2.2 c hc (fun j hj h2 h3 => ?_)
    obtain ⟨i, g1, g2⟩ := hb j hj (fun h4 => by subst h4; omega)
    exact h1 i g1 (by show 0 < aDl q (aW a) i; rw [aDl.at, g2]; exact h2) (by show aDl q (aB a) i = c; rw [aDl.at, g2]; exact h3)
