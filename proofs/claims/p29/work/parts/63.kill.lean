/-! A thing is removed: its cells are free, its stamp is on, its entry is a tombstone. -/
def aKill (a : AbT) (q : Nat) : AbT :=
  (aC a, aN a, (fun c => if c = aB a q then (aS a c + 1) % 1000 else aS a c), (aB a, (fun j => if j = q then 0 else aW a j), aV a, aK a, aF a), aP a, fun i => if i = 2 then aT a 2 + 1 else aT a i)
theorem aKill.cov {a : AbT} {q j c : Nat} : aCov (aKill a q) j c ↔ j ≠ q ∧ aCov a j c := by
  show (aB a j ≤ c ∧ c < aB a j + (if j = q then 0 else aW a j)) ↔ j ≠ q ∧ (aB a j ≤ c ∧ c < aB a j + aW a j)
  by_cases h1 : j = q
  · rw [if_pos h1]; omega
  · rw [if_neg h1]; omega
theorem aKill.w0 {a : AbT} {q : Nat} : aW (aKill a q) q = 0 := if_pos rfl
theorem aKill.wne {a : AbT} {q j : Nat} (h : j ≠ q) : aW (aKill a q) j = aW a j := if_neg h
theorem aKill.ok {a : AbT} {q : Nat} (ho : aOk a) : aOq (aKill a q) q := by
  refine ⟨ho.1, ho.2.1, fun j hj h1 => ?_, fun i j c hi hj h1 h2 => ?_, fun j hj h1 h2 => ?_, ho.2.2.2.2.2.1, fun c => ?_⟩
  · have h2 : j ≠ q := fun h3 => by subst h3; rw [aKill.w0] at h1; omega
    rw [aKill.wne h2] at h1 ⊢
    exact ho.2.2.1 j hj h1
  · exact ho.2.2.2.1 i j c hi hj (aKill.cov.mp h1).2 (aKill.cov.mp h2).2
  · rw [aKill.wne h2] at h1
    exact ho.2.2.2.2.1 j hj h1
  · show (if c = aB a q then (aS a c + 1) % 1000 else aS a c) < 1000
    by_cases h1 : c = aB a q
    · rw [if_pos h1]; omega
    · rw [if_neg h1]; exact ho.2.2.2.2.2.2 c
/-- the class's slots let it go -/
theorem w_release {a : AbT} {x : SlC} (ho : aOk a) (hv : sV a x) {q : Nat} (hq : q < aN a) (hw : 0 < aW a q) : ∃ y, f_X2_release (nI (aB a q)) x = some y ∧ sV (aKill a q) y := by
  have hC := aOk.C a ho
  have h1 := ho.2.2.1 q hq hw
  have h2 := hv.2.2.2.2.1 q hq hw
  have hs := hv.2.1 (aB a q) (by omega)
  have hs2 := ho.2.2.2.2.2.2 (aB a q)
  unfold f_X2_release
  rw [c_isCell1 hv.1 (by omega) (by omega), Option.bind_some, if_neg (by decide), gi_in (by omega) (by decide), nI_clamp (by omega), h2.1, w_giveCells (C := aC a) (by omega) (by omega) hv.1, Option.bind_some, gi_in (by omega) (by decide), gi_in (by omega) (by decide), gi_in (by omega) (by decide), hs, nI_1, li1000, nI_mod (by omega) (by omega)]
  have hbe : ∀ j, j < aN a → j ≠ q → 0 < aW a j → aB a j ≠ aB a q := fun j g1 g2 g3 g4 => g2 (ho.2.2.2.1 j q (aB a j) g1 hq (by unfold aCov; omega) (by unfold aCov; omega))
  refine ⟨_, rfl, hv.1, fun c hc => ?_, fun j c hj hc g1 => ?_, fun c hc g1 => ?_, fun j hj g1 => ?_, fun c hc g1 => ?_⟩
  · show upd x.2.1 (aB a q) (nI ((aS a (aB a q) + 1) % 1000)) c = nI (if c = aB a q then (aS a c + 1) % 1000 else aS a c)
    by_cases g2 : c = aB a q
    · rw [if_pos g2, g2, up_eq]
    · rw [if_neg g2, up_ne _ _ g2]; exact hv.2.1 c hc
  · show (if aB a q ≤ c ∧ c < aB a q + aW a q then -1 else x.2.2.1 c) = nI (aB a j)
    have g2 := aKill.cov.mp g1
    rw [if_neg (show ¬ (aB a q ≤ c ∧ c < aB a q + aW a q) from fun g3 => g2.1 (ho.2.2.2.1 j q c hj hq g2.2 g3))]
    exact hv.2.2.1 j c hj hc g2.2
  · show (if aB a q ≤ c ∧ c < aB a q + aW a q then -1 else x.2.2.1 c) = -1
    by_cases g2 : aB a q ≤ c ∧ c < aB a q + aW a q
    · rw [if_pos g2]
    · rw [if_neg g2]
      refine hv.2.2.2.1 c hc (fun j hj g3 => ?_)
      exact g1 j hj (aKill.cov.mpr ⟨fun g4 => g2 (by subst g4; exact g3), g3⟩)
  · have g2 : j ≠ q := fun h3 => by subst h3; rw [aKill.w0] at g1; omega
    rw [aKill.wne g2] at g1 ⊢
    have g3 := hv.2.2.2.2.1 j hj g1
    have g4 := hbe j hj g2 g1
    refine ⟨?_, g3.2⟩
    show upd x.2.2.2.1 (aB a q) (nI 0) (aB a j) = nI (aW a j)
    rw [up_ne _ _ g4]
    exact g3.1
  · show upd x.2.2.2.1 (aB a q) 0 c = 0
    by_cases g2 : c = aB a q
    · rw [g2, up_eq]
    · rw [up_ne _ _ g2]
      refine hv.2.2.2.2.2 c hc (fun j hj g3 g4 => ?_)
      have g5 : j ≠ q := fun g6 => g2 (by subst g6; exact g4.symm)
      exact g1 j hj (by rw [aKill.wne g5]; exact g3) g4
