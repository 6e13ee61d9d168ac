/-! A thing comes: the class's row. -/
theorem pC_lt {p k n : Nat} (hp : p ≤ n) (hn : n ≤ 68) (hk : k < n + 2) : pC k < nI p ↔ k < p + 2 := by
  unfold pC
  by_cases h0 : k = 0
  · rw [if_pos h0]
    refine ⟨fun _ => by omega, fun _ => ?_⟩
    rw [Int32.lt_iff_toInt_lt, nI_toInt (by omega), show (-1 : Int32).toInt = -1 by decide]
    omega
  · by_cases h1 : k = 1
    · rw [if_neg h0, if_pos h1]
      refine ⟨fun _ => by omega, fun _ => ?_⟩
      rw [Int32.lt_iff_toInt_lt, nI_toInt (by omega), show (-2 : Int32).toInt = -2 by decide]
      omega
    · rw [if_neg h0, if_neg h1, nI_ltI (by omega) (by omega)]
      omega
theorem pC_up {p k n : Nat} (hp : p ≤ n) (hn : n ≤ 68) (hk : k < n + 2) : pC (if k < p + 2 then k else k + 1) = if pC k < nI p then pC k else pC k + 1 := by
  by_cases h1 : k < p + 2
  · rw [if_pos h1, if_pos ((pC_lt hp hn hk).mpr h1)]
  · rw [if_neg h1, if_neg (fun h2 => h1 ((pC_lt hp hn hk).mp h2))]
    unfold pC
    rw [if_neg (by omega), if_neg (by omega), if_neg (by omega), if_neg (by omega), nI_1]
    congr 1
    omega
theorem w_ins_loop {p : Nat} : ∀ (fu i : Nat) (x : RwC), 4 - i < fu → i ≤ 4 → ∃ st, f_X1_insert_62 fu (nI p) (nI i) x = some (x.1, x.2.1, st) ∧ (∀ c, c < i → st c = x.2.2 c) ∧ ∀ c, i ≤ c → c < 4 → st c = if x.2.2 c < nI p then x.2.2 c else x.2.2 c + 1 := by
  intro fu
  induction fu with
  | zero => intro i x h1; omega
  | succ fu ih =>
    intro i x h1 h2
    rw [f_X1_insert_62.eq_2, li4]
    by_cases h3 : i = 4
    · rw [if_pos (nI_le (by omega) (by omega))]
      exact ⟨x.2.2, rfl, fun c _ => rfl, fun c q1 q2 => by omega⟩
    · rw [if_neg (nI_ge (by omega) (by omega)), gi_in (by omega) (by decide), nI_clamp (by omega), nI_1, gi_in (by omega) (by decide), gi_in (by omega) (by decide)]
      by_cases h4 : x.2.2 i < nI p
      · rw [if_pos h4]
        obtain ⟨st, g1, g2, g3⟩ := ih (i + 1) x (by omega) (by omega)
        refine ⟨st, g1, fun c q => g2 c (by omega), fun c q1 q2 => ?_⟩
        by_cases q3 : c = i
        · subst q3; rw [g2 c (by omega), if_pos h4]
        · exact g3 c (by omega) q2
      · rw [if_neg h4]
        obtain ⟨st, g1, g2, g3⟩ := ih (i + 1) (x.1, x.2.1, upd x.2.2 i (x.2.2 i + 1)) (by omega) (by omega)
        refine ⟨st, g1, fun c q => ?_, fun c q1 q2 => ?_⟩
        · rw [g2 c (by omega)]
          show upd x.2.2 i (x.2.2 i + 1) c = _
          rw [up_ne _ _ (by omega)]
        · by_cases q3 : c = i
          · subst q3; rw [g2 c (by omega), if_neg h4]
            show upd x.2.2 c (x.2.2 c + 1) c = _
            rw [up_eq]
          · rw [g3 c (by omega) q2]
            show (if upd x.2.2 i (x.2.2 i + 1) c < nI p then upd x.2.2 i (x.2.2 i + 1) c else upd x.2.2 i (x.2.2 i + 1) c + 1) = _
            rw [up_ne _ _ q3]
theorem gcp_in {α : Type} {s d c n0 n1 : Nat} {k : Option α} (h1 : s + c ≤ n0) (h2 : d + c ≤ n1) (h3 : n0 < 2 ^ 31) (h4 : n1 < 2 ^ 31) : gcp (nI s) (nI d) (nI c) n0 n1 k = k := by
  unfold gcp
  rw [nI_clamp (by omega), nI_clamp (by omega), nI_clamp (by omega)]
  exact if_pos ⟨nI_pos (by omega), nI_pos (by omega), nI_pos (by omega), h1, h2⟩
theorem w_insert {a : AbT} {x : RwC} (ho : aOk a) (hr : rV a x) {p b w v k : Nat} (hp : p ≤ aN a) (hn : aN a ≤ 67) (hw : 1 ≤ w) : ∃ y, f_X1_insert (nI p) (nI b) x = some y ∧ rV (aPut a p v w k b) y := by
  unfold f_X1_insert
  rw [hr.1, if_neg (nI_pos (by omega)), if_neg (nI_nlt hp (by omega)), li68, if_pos (nI_lt (by omega) (by omega)), nI_1, nI_1, nI_sub hp, gcp_in (by omega) (by omega) (by decide) (by decide), gi_in (by omega) (by decide), nI_clamp (by omega), nI_clamp (by omega), nI_clamp (by omega)]
  obtain ⟨st, g1, g2, g3⟩ := w_ins_loop (p := p) FU 0 (nI (aN a + 1), upd (va_cpy x.2.1 x.2.1 p (p + 1) (aN a - p)) p (nI b), x.2.2) (by unfold FU; omega) (by omega)
  refine ⟨_, g1, rfl, fun j hj => ?_, fun i hi => ?_⟩
  · have hj9 : j < aN a + 1 := hj
    show upd (va_cpy x.2.1 x.2.1 p (p + 1) (aN a - p)) p (nI b) j = if aIns p (aW a) w j = 0 then -1 else nI (aIns p (aB a) b j)
    rcases aIns.old hp hj with q | ⟨i, q1, q2, q3⟩
    · subst q
      rw [up_eq, aIns.eq, aIns.eq, if_neg (by omega)]
    · rw [q3, q3, ← hr.2.1 i q1]
      have h1 : j ≠ p := by by_cases q : i < p <;> simp only [q, if_true, if_false] at q2 <;> omega
      rw [up_ne _ _ h1]
      unfold va_cpy
      by_cases q : i < p
      · rw [if_pos q] at q2
        rw [if_neg (by omega), q2]
      · rw [if_neg q] at q2
        rw [if_pos (by omega), show p + (j - (p + 1)) = i by omega]
  · show st i = _
    rw [g3 i (by omega) hi]
    show (if x.2.2 i < nI p then x.2.2 i else x.2.2 i + 1) = pC (if aP a i < p + 2 then aP a i else aP a i + 1)
    rw [pC_up hp ho.2.1 (ho.2.2.2.2.2.1 i hi), hr.2.2 i hi]
/-- the class's state takes a thing in -/
theorem w_addAt {a : AbT} {x : StC} (ho : aOk a) (hx : cV a x) {p w v k : Nat} (hp : p ≤ aN a) (hv : v ≤ 999) (hw : 1 ≤ w) (hw4 : w ≤ 4) (hk : k ≤ 2) : ∃ low, aLow a w low ∧ ((low = -1 ∧ f_X3_addAt (nI p) (nI v) (nI w) (nI k) x = some (-1, x)) ∨ ∃ b y, low = nI b ∧ b + w ≤ 64 ∧ aWin a w b ∧ f_X3_addAt (nI p) (nI v) (nI w) (nI k) x = some (nI b, y) ∧ cV (aPut a p v w k b) y) := by
  obtain ⟨low, h1, h2⟩ := w_lowestFor ho hx.1 (w := w) hw (by omega)
  refine ⟨low, h2, ?_⟩
  unfold f_X3_addAt
  rw [h1, Option.bind_some]
  rcases id h2 with ⟨b, e1, e2, e3, e4⟩ | ⟨e1, e2⟩
  · right
    have hn := ho.room (c := b) (by omega) (e3 b (by omega) (by omega))
    subst e1
    obtain ⟨y, g1, g2⟩ := w_insert ho hx.2.1 (p := p) (b := b) (w := w) (v := v) (k := k) hp hn hw
    rw [if_neg (nI_m1 (by omega)), w_occupy ho hx.1 e2 hw, Option.bind_some, g1, Option.bind_some]
    refine ⟨b, _, rfl, e2, e3, rfl, w_put_s ho hx.1 hp e2 hw e3, g2, ?_, ?_, ?_, ?_⟩
    · exact hx.2.2.1
    · show x.2.2.2.2.1 + 1 = aT a 1 + 1
      rw [hx.2.2.2.1]
    · exact hx.2.2.2.2.1
    · exact hx.2.2.2.2.2
  · left
    rw [if_pos e1, e1]
    exact ⟨rfl, rfl⟩
