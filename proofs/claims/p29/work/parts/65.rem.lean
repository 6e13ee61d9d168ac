/-! A thing is removed. -/
def aRem (a : AbT) (q : Nat) : AbT := if aOn a q = 0 then aDel (aKill a q) q else aKill a q
theorem aOn.some {a : AbT} {q : Nat} (hq : ¬ aOn a q = 0) : ∃ i, i < 4 ∧ aP a i = q + 2 :=
  Classical.byContradiction fun h1 => hq (aOn.zero.mpr fun i h2 h3 => h1 ⟨i, h2, h3⟩)
theorem aRem.ok {a : AbT} {q : Nat} (ho : aOk a) (hq : q < aN a) : aOk (aRem a q) := by
  unfold aRem
  by_cases h1 : aOn a q = 0
  · rw [if_pos h1]
    exact aDel.ok (aKill.ok ho) hq (aOn.zero.mp h1)
  · rw [if_neg h1]
    exact (aKill.ok ho).ok (fun _ => aOn.some h1)
theorem aB.inj {a : AbT} (ho : aOk a) {i j : Nat} (hi : i < aN a) (hj : j < aN a) (wi : 0 < aW a i) (wj : 0 < aW a j) (hq : aB a i = aB a j) : i = j :=
  ho.2.2.2.1 i j (aB a i) hi hj (by unfold aCov; omega) (by unfold aCov; omega)
theorem w_index_loop {a : AbT} {x : RwC} (ho : aOk a) (hr : rV a x) {q : Nat} (hq : q < aN a) (hw : 0 < aW a q) : ∀ (fu i : Nat), aN a - i < fu → i ≤ q → f_X1_indexOf_2 fu (nI (aB a q)) (nI i) x = some (nI q) := by
  have hN := ho.2.1
  have hC := aOk.C a ho
  have h9 := ho.2.2.1 q hq hw
  intro fu
  induction fu with
  | zero => intro i h1; omega
  | succ fu ih =>
    intro i h1 h2
    rw [f_X1_indexOf_2.eq_2, hr.1, if_neg (nI_ge (by omega) (by omega)), w_thI hr.1 (by omega) hN, Option.bind_some, hr.2.1 i (by omega), nI_1]
    by_cases h3 : i = q
    · subst h3
      rw [if_neg (show ¬ aW a i = 0 by omega), if_pos rfl]
    · have h4 : ¬ (if aW a i = 0 then (-1 : Int32) else nI (aB a i)) = nI (aB a q) := by
        by_cases h5 : aW a i = 0
        · rw [if_pos h5]; exact fun h6 => nI_m1 (by omega) h6.symm
        · rw [if_neg h5]
          have h6 := ho.2.2.1 i (by omega) (by omega)
          intro h7
          exact h3 (aB.inj ho (by omega) hq (by omega) hw ((nI_eq (by omega) (by omega)).mp h7))
      rw [if_neg h4]
      exact ih (i + 1) (by omega) (by omega)
theorem w_indexOf {a : AbT} {x : RwC} (ho : aOk a) (hr : rV a x) {q : Nat} (hq : q < aN a) (hw : 0 < aW a q) : f_X1_indexOf (nI (aB a q)) x = some (nI q) := by
  have hN := ho.2.1
  unfold f_X1_indexOf
  rw [li0]
  exact w_index_loop ho hr hq hw FU 0 (by unfold FU; omega) (by omega)
/-- a tombstone without a walker is swept off -/
theorem w_sweep {a : AbT} {x : RwC} (hN : aN a ≤ 68) (hP : ∀ i, i < 4 → aP a i < aN a + 2) (hr : rV a x) {q : Nat} (hq : q < aN a) (hw : aW a q = 0) : ∃ y, f_X1_sweep (nI q) x = some y ∧ rV (if aOn a q = 0 then aDel a q else a) y := by
  unfold f_X1_sweep
  rw [w_isEntry1 hr.1 hq hN, Option.bind_some, if_neg (by decide), gi_in (by omega) (by decide), nI_clamp (by omega), hr.2.1 q hq, if_pos hw, if_pos rfl, w_walkersOn hN hP hr.2.2 hq, Option.bind_some]
  have h4 := aOn.le (a := a) (q := q)
  by_cases h1 : aOn a q = 0
  · rw [h1, if_pos (show nI 0 ≤ 0 by decide), if_pos rfl]
    obtain ⟨y, g1, g2⟩ := w_delete hN hP hr hq (aOn.zero.mp h1)
    exact ⟨y, g1, g2⟩
  · rw [if_neg (show ¬ nI (aOn a q) ≤ 0 by rw [li0]; exact nI_ge (by omega) (by omega)), if_neg h1]
    exact ⟨x, rfl, hr⟩
theorem w_bury {a : AbT} {x : RwC} (ho : aOk a) (hr : rV a x) {q : Nat} (hq : q < aN a) (hw : 0 < aW a q) : ∃ y, f_X1_bury (nI (aB a q)) x = some y ∧ rV (aRem a q) y := by
  have hN := ho.2.1
  unfold f_X1_bury
  rw [w_indexOf ho hr hq hw, Option.bind_some, w_isEntry1 hr.1 hq hN, Option.bind_some, if_neg (by decide), gi_in (by omega) (by decide), nI_clamp (by omega)]
  have h1 : rV (aKill a q) (x.1, upd x.2.1 q (-1), x.2.2) := by
    refine ⟨hr.1, fun j hj => ?_, hr.2.2⟩
    show upd x.2.1 q (-1) j = if (if j = q then 0 else aW a j) = 0 then -1 else nI (aB a j)
    by_cases h2 : j = q
    · rw [h2, up_eq, if_pos rfl, if_pos rfl]
    · rw [up_ne _ _ h2, if_neg h2]
      exact hr.2.1 j hj
  obtain ⟨y, g1, g2⟩ := w_sweep (a := aKill a q) hN ho.2.2.2.2.2.1 h1 hq aKill.w0
  rw [g1]
  exact ⟨y, rfl, g2⟩
/-- the class removes -/
theorem w_drop {a : AbT} {x : StC} (ho : aOk a) (hx : cV a x) {q : Nat} (hq : q < aN a) (hw : 0 < aW a q) : ∃ y, f_X3_drop (nI (aB a q)) x = some y ∧ cV (aRem a q) y := by
  unfold f_X3_drop
  obtain ⟨y1, g1, g2⟩ := w_release ho hx.1 hq hw
  obtain ⟨y2, g3, g4⟩ := w_bury ho hx.2.1 hq hw
  rw [g1, Option.bind_some, g3, Option.bind_some]
  refine ⟨_, rfl, ?_, g4, ?_, ?_, ?_, ?_⟩
  · show sV (aRem a q) y1
    unfold aRem
    by_cases h1 : aOn a q = 0
    · rw [if_pos h1]; exact aDel.s (a := aKill a q) hq aKill.w0 g2
    · rw [if_neg h1]; exact g2
  · show x.2.2.2.1 = aT (aRem a q) 0
    unfold aRem
    by_cases h1 : aOn a q = 0
    · rw [if_pos h1]; exact hx.2.2.1
    · rw [if_neg h1]; exact hx.2.2.1
  · show x.2.2.2.2.1 = aT (aRem a q) 1
    unfold aRem
    by_cases h1 : aOn a q = 0
    · rw [if_pos h1]; exact hx.2.2.2.1
    · rw [if_neg h1]; exact hx.2.2.2.1
  · show x.2.2.2.2.2.1 + 1 = aT (aRem a q) 2
    rw [hx.2.2.2.2.1]
    unfold aRem
    by_cases h1 : aOn a q = 0
    · rw [if_pos h1]; rfl
    · rw [if_neg h1]; rfl
  · show x.2.2.2.2.2.2 = aT (aRem a q) 3
    unfold aRem
    by_cases h1 : aOn a q = 0
    · rw [if_pos h1]; exact hx.2.2.2.2.2
    · rw [if_neg h1]; exact hx.2.2.2.2.2
