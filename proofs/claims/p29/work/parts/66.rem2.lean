/-! A thing is removed: the model. -/
theorem m_rm_step {q i fu : Nat} {m : Fn} (hq : q ≤ 67) (hi : i < 5) : f_X6_removes_34 (fu + 1) (nI q) (nI i) m = f_X6_removes_34 fu (nI q) (nI (i + 1)) (upd m (70 + 5 * q + i) (if i = 0 then -1 else 0)) := by
  rw [f_X6_removes_34.eq_2, if_neg (show ¬ (5 : Int32) ≤ nI i from by rw [li5]; exact nI_ge (by omega) (by omega))]
  unfold f_X6_removes_57
  rw [nI_1]
  have e0 : (70 + 5 * nI q) + nI i = nI (70 + 5 * q + i) := by rw [li70, li5, nI_mul, nI_add, nI_add]
  rw [e0, gi_in (by omega) (by decide), gi_in (by omega) (by decide), nI_clamp (by omega)]
  by_cases h1 : i = 0
  · rw [if_pos (show nI i = 0 by rw [h1]; rfl), if_pos h1]
  · rw [if_neg (nI_ne0 (by omega) (by omega)), if_neg h1]
theorem m_rm {q : Nat} {m : Fn} (hq : q ≤ 67) : f_X6_removes_34 FU (nI q) 0 m = some (1, upd (upd (upd (upd (upd m (70 + 5 * q) (-1)) (70 + 5 * q + 1) 0) (70 + 5 * q + 2) 0) (70 + 5 * q + 3) 0) (70 + 5 * q + 4) 0) := by
  show f_X6_removes_34 (5994 + 1 + 1 + 1 + 1 + 1 + 1) (nI q) (nI 0) m = _
  rw [m_rm_step hq (by omega), m_rm_step hq (by omega), m_rm_step hq (by omega), m_rm_step hq (by omega), m_rm_step hq (by omega), f_X6_removes_34.eq_2, if_pos (show (5 : Int32) ≤ nI (0 + 1 + 1 + 1 + 1 + 1) from by decide), if_pos rfl, if_neg (by omega), if_neg (by omega), if_neg (by omega), if_neg (by omega)]
  rfl
/-- the model removes, as the class does -/
theorem m_removes {a : AbT} {m : Fn} (ho : aOk a) (hm : mV a m) {q : Nat} (hq : q < aN a) (hw : 0 < aW a q) : ∃ r m2, f_X6_removes (nI q) m = some (r, m2) ∧ mV (aRem a q) m2 ∧ r = (if aOn a q = 0 then 0 else 1) := by
  have hN := ho.2.1
  have hC := aOk.C a ho
  have h1 := ho.2.2.1 q hq hw
  have hE := hm.2.2.2.2.1 q hq
  have hs := hm.2.2.2.1 (aB a q) (by omega)
  have hs2 := ho.2.2.2.2.2.2 (aB a q)
  have i4 : ∀ (kk : Option (Int32 × Fn)), gi 4 414 kk = kk := fun kk => gi_in (c := 4) (by omega) (by decide)
  have c4 : (4 : Int32).toNatClampNeg = 4 := by decide
  have hL : f_X6_leaves (nI (aB a q)) m = some (upd m (6 + aB a q) (nI ((aS a (aB a q) + 1) % 1000))) := by
    unfold f_X6_leaves
    rw [li6, nI_add, gi_in (by omega) (by decide), gi_in (by omega) (by decide), nI_clamp (by omega), hs, nI_1, li1000, nI_mod (by omega) (by omega)]
  unfold f_X6_removes
  rw [li0, m_of (by omega), Option.bind_some, Nat.add_zero, hE.1, if_neg (by omega), hL, Option.bind_some, i4, i4, c4, up_ne _ _ (show (4 : Nat) ≠ 6 + aB a q by omega)]
  obtain ⟨M, hM⟩ : ∃ M : Fn, M = upd (upd m (6 + aB a q) (nI ((aS a (aB a q) + 1) % 1000))) 4 (m 4 + 1) := ⟨_, rfl⟩
  rw [← hM]
  have hMo : ∀ c, c ≠ 4 → c ≠ 6 + aB a q → M c = m c := fun c g1 g2 => by rw [hM, up_ne _ _ g1, up_ne _ _ g2]
  have hMw : ∀ i, i < 4 → M (410 + i) = pM (aP a i) := fun i hi => by rw [hMo _ (by omega) (by omega)]; exact hm.2.2.2.2.2 i hi
  have hMc : ∀ i, i < 4 → M (2 + i) = aT (aKill a q) i := fun i hi => by
    show M (2 + i) = if i = 2 then aT a 2 + 1 else aT a i
    by_cases g1 : i = 2
    · subst g1; rw [if_pos rfl, hM, up_eq, ← hm.2.2.1 2 (by omega)]
    · rw [if_neg g1, hMo _ (by omega) (by omega)]; exact hm.2.2.1 i hi
  have hMs : ∀ c, c < 64 → M (6 + c) = nI (aS (aKill a q) c) := fun c hc => by
    show M (6 + c) = nI (if c = aB a q then (aS a c + 1) % 1000 else aS a c)
    by_cases g1 : c = aB a q
    · rw [if_pos g1, hM, up_ne _ _ (by omega), g1, up_eq]
    · rw [if_neg g1, hMo _ (by omega) (by omega)]; exact hm.2.2.2.1 c hc
  have hMq : mVq (aKill a q) q M := ⟨by rw [hMo 0 (by omega) (by omega)]; exact hm.1, by rw [hMo 1 (by omega) (by omega)]; exact hm.2.1, hMc, hMs, fun j hj g1 => by
    rw [aKill.wne g1, hMo _ (by omega) (by omega), hMo _ (by omega) (by omega), hMo _ (by omega) (by omega), hMo _ (by omega) (by omega), hMo _ (by omega) (by omega)]
    exact hm.2.2.2.2.1 j hj, hMw⟩
  rw [m_standing hN ho.2.2.2.2.2.1 hMw hq, Option.bind_some]
  have h4 := aOn.le (a := a) (q := q)
  unfold aRem
  by_cases g1 : aOn a q = 0
  · obtain ⟨m2, r1, r2⟩ := m_drops (a := aKill a q) hN ho.2.2.2.2.2.1 hMq hq (aOn.zero.mp g1)
    rw [g1, if_pos rfl, r1, Option.bind_some, if_pos rfl]
    exact ⟨_, m2, rfl, r2, rfl⟩
  · rw [if_neg (show ¬ nI (aOn a q) = nI 0 from fun g2 => g1 ((nI_eq (by omega) (by omega)).mp g2)), if_neg g1, if_neg g1]
    have e9 := m_rm (q := q) (m := M) (by omega)
    rw [li0] at e9
    rw [e9]
    refine ⟨_, _, rfl, ⟨?_, ?_, fun i hi => ?_, fun c hc => ?_, fun j hj => ?_, fun i hi => ?_⟩, rfl⟩
    · rw [up_ne _ _ (by omega), up_ne _ _ (by omega), up_ne _ _ (by omega), up_ne _ _ (by omega), up_ne _ _ (by omega)]; exact hMq.1
    · rw [up_ne _ _ (by omega), up_ne _ _ (by omega), up_ne _ _ (by omega), up_ne _ _ (by omega), up_ne _ _ (by omega)]; exact hMq.2.1
    · rw [up_ne _ _ (by omega), up_ne _ _ (by omega), up_ne _ _ (by omega), up_ne _ _ (by omega), up_ne _ _ (by omega)]; exact hMc i hi
    · rw [up_ne _ _ (by omega), up_ne _ _ (by omega), up_ne _ _ (by omega), up_ne _ _ (by omega), up_ne _ _ (by omega)]; exact hMs c hc
    · have hj9 : j < aN a := hj
      by_cases g2 : j = q
      · subst g2
        rw [aKill.w0, if_pos rfl, if_pos rfl, if_pos rfl, if_pos rfl]
        refine ⟨?_, ?_, ?_, ?_, ?_⟩
        · rw [up_ne _ _ (by omega), up_ne _ _ (by omega), up_ne _ _ (by omega), up_ne _ _ (by omega), up_eq]
        · rw [up_ne _ _ (by omega), up_ne _ _ (by omega), up_ne _ _ (by omega), up_eq]
        · rw [up_ne _ _ (by omega), up_ne _ _ (by omega), up_eq]
        · rw [up_ne _ _ (by omega), up_eq]
        · rw [up_eq]; rfl
      · have hE2 := hMq.2.2.2.2.1 j hj9 g2
        have gen : ∀ c, c < 70 + 5 * q ∨ 75 + 5 * q ≤ c → upd (upd (upd (upd (upd M (70 + 5 * q) (-1)) (70 + 5 * q + 1) (nI 0)) (70 + 5 * q + 2) (nI 0)) (70 + 5 * q + 3) (nI 0)) (70 + 5 * q + 4) (nI 0) c = M c := fun c g3 => by
          rw [up_ne _ _ (by omega), up_ne _ _ (by omega), up_ne _ _ (by omega), up_ne _ _ (by omega), up_ne _ _ (by omega)]
        rw [gen _ (by omega), gen _ (by omega), gen _ (by omega), gen _ (by omega), gen _ (by omega)]
        exact hE2
    · rw [up_ne _ _ (by omega), up_ne _ _ (by omega), up_ne _ _ (by omega), up_ne _ _ (by omega), up_ne _ _ (by omega)]; exact hMw i hi
