/-- what the new entry's writing leaves -/
theorem m_write {p v w k b n : Nat} {t : Int32} (hp : p ≤ n) (hn : n ≤ 67) (S : Fn) (h1 : S 1 = nI n) (h3 : S 3 = t) : ∃ m2, f_X6_comes_38 1 (nI p) (nI v) (nI w) (nI k) (nI b) (nI (5 * p) + (-1)) S = some (nI b, m2) ∧ m2 1 = nI (n + 1) ∧ m2 3 = t + 1 ∧ (∀ c, c < 410 → c ≠ 1 → c ≠ 3 → (c < 70 + 5 * p ∨ 75 + 5 * p ≤ c) → m2 c = S c) ∧ (m2 (70 + 5 * p) = nI b ∧ m2 (70 + 5 * p + 1) = nI w ∧ m2 (70 + 5 * p + 2) = nI v ∧ m2 (70 + 5 * p + 3) = nI k ∧ m2 (70 + 5 * p + 4) = 0) ∧
    ∀ c, c < 4 → m2 (410 + c) = if S (410 + c) < nI p ∨ S (410 + c) = 99 then S (410 + c) else S (410 + c) + 1 := by
  have h6 : nI (5 * p) + (-1) < 5 * nI p := by
    rw [li5, nI_mul]
    exact nI_dn_lt (by omega)
  show ∃ m2, f_X6_comes_38 (0 + 1) (nI p) (nI v) (nI w) (nI k) (nI b) (nI (5 * p) + (-1)) S = some (nI b, m2) ∧ _
  rw [f_X6_comes_38.eq_2, if_pos h6]
  have e0 : (70 + 5 * nI p) + 0 = nI (70 + 5 * p) := by rw [li70, li5, nI_mul, nI_add, li0, nI_add]; rfl
  have e1 : (70 + 5 * nI p) + 1 = nI (70 + 5 * p + 1) := by rw [li70, li5, nI_mul, nI_add, nI_1]
  have e2 : (70 + 5 * nI p) + 2 = nI (70 + 5 * p + 2) := by rw [li70, li5, nI_mul, nI_add, li2, nI_add]
  have e3 : (70 + 5 * nI p) + 3 = nI (70 + 5 * p + 3) := by rw [li70, li5, nI_mul, nI_add, li3, nI_add]
  have e4 : (70 + 5 * nI p) + 4 = nI (70 + 5 * p + 4) := by rw [li70, li5, nI_mul, nI_add, li4, nI_add]
  have c1 : (1 : Int32).toNatClampNeg = 1 := by decide
  have c3 : (3 : Int32).toNatClampNeg = 3 := by decide
  have i1 : ∀ (kk : Option (Int32 × Fn)), gi 1 414 kk = kk := fun kk => gi_in (c := 1) (by omega) (by decide)
  have i3 : ∀ (kk : Option (Int32 × Fn)), gi 3 414 kk = kk := fun kk => gi_in (c := 3) (by omega) (by decide)
  rw [e0, e1, e2, e3, e4, gi_in (by omega) (by decide), gi_in (by omega) (by decide), gi_in (by omega) (by decide), gi_in (by omega) (by decide), gi_in (by omega) (by decide), i1, i1, i3, i3, nI_clamp (by omega), nI_clamp (by omega), nI_clamp (by omega), nI_clamp (by omega), nI_clamp (by omega), c1, c3]
  obtain ⟨M5, hM5⟩ : ∃ M5 : Fn, M5 = upd (upd (upd (upd (upd S (70 + 5 * p) (nI b)) (70 + 5 * p + 1) (nI w)) (70 + 5 * p + 2) (nI v)) (70 + 5 * p + 3) (nI k)) (70 + 5 * p + 4) 0 := ⟨_, rfl⟩
  rw [← hM5]
  have g5 : ∀ c, c < 70 + 5 * p ∨ 75 + 5 * p ≤ c → M5 c = S c := fun c q => by
    rw [hM5, up_ne _ _ (by omega), up_ne _ _ (by omega), up_ne _ _ (by omega), up_ne _ _ (by omega), up_ne _ _ (by omega)]
  have g1 : M5 1 = nI n := by rw [g5 1 (by omega), h1]
  have g3 : M5 3 = t := by rw [g5 3 (by omega), h3]
  rw [g1, nI_1, up_ne M5 _ (show (3 : Nat) ≠ 1 by omega), g3, li0]
  obtain ⟨m2, r1, r2, r3⟩ := m_walk_loop (p := p) (v6 := nI b) FU 0 (upd (upd M5 1 (nI (n + 1))) 3 (t + 1)) (by unfold FU; omega) (by omega)
  have g0 : ∀ c, c ≠ 1 → c ≠ 3 → upd (upd M5 1 (nI (n + 1))) 3 (t + 1) c = M5 c := fun c q1 q2 => by rw [up_ne _ _ q2, up_ne _ _ q1]
  refine ⟨m2, r1, ?_, ?_, fun c q1 q2 q3 q4 => ?_, ⟨?_, ?_, ?_, ?_, ?_⟩, fun c q => ?_⟩
  · rw [r2 1 (by omega), up_ne _ _ (by omega), up_eq]
  · rw [r2 3 (by omega), up_eq]
  · rw [r2 c (by omega), g0 c q2 q3, g5 c q4]
  · rw [r2 _ (by omega), g0 _ (by omega) (by omega), hM5, up_ne _ _ (by omega), up_ne _ _ (by omega), up_ne _ _ (by omega), up_ne _ _ (by omega), up_eq]
  · rw [r2 _ (by omega), g0 _ (by omega) (by omega), hM5, up_ne _ _ (by omega), up_ne _ _ (by omega), up_ne _ _ (by omega), up_eq]
  · rw [r2 _ (by omega), g0 _ (by omega) (by omega), hM5, up_ne _ _ (by omega), up_ne _ _ (by omega), up_eq]
  · rw [r2 _ (by omega), g0 _ (by omega) (by omega), hM5, up_ne _ _ (by omega), up_eq]
  · rw [r2 _ (by omega), g0 _ (by omega) (by omega), hM5, up_eq]; rfl
  · rw [r3 c (by omega) q, g0 _ (by omega) (by omega), g5 _ (by omega)]
/-- the model takes a thing in, as the class does -/
theorem m_comes {a : AbT} {m : Fn} (ho : aOk a) (hm : mV a m) {p w v k : Nat} {low : Int32} (hp : p ≤ aN a) (hw : 1 ≤ w) (hw4 : w ≤ 4) (hl : aLow a w low) : (low = -1 → f_X6_comes (nI p) (nI v) (nI w) (nI k) m = some (-1, m)) ∧ ∀ b, low = nI b → b + w ≤ 64 → ∃ m2, f_X6_comes (nI p) (nI v) (nI w) (nI k) m = some (nI b, m2) ∧ mV (aPut a p v w k b) m2 := by
  unfold f_X6_comes
  rcases m_cellsFor ho hm hw (by omega) hl with ⟨b, e1, e2, e3, e4, e5, e6⟩ | ⟨e1, e2, e3⟩
  · refine ⟨fun q => by rw [e1] at q; exact absurd q (nI_m1 (by omega)), fun b2 q1 q2 => ?_⟩
    have hb2 : b2 = b := by
      rw [e1] at q1
      exact ((nI_eq (by omega) (by omega)).mp q1).symm
    subst hb2
    have hG := aGr.ok ho e2
    have hn := ho.room (c := b2) (by omega) (e3 b2 (by omega) (by omega))
    have i0 : ∀ (kk : Option (Int32 × Fn)), gi 0 414 kk = kk := fun kk => gi_in (c := 0) (by omega) (by decide)
    have i1 : ∀ (kk : Option (Int32 × Fn)), gi 1 414 kk = kk := fun kk => gi_in (c := 1) (by omega) (by decide)
    have c0 : (0 : Int32).toNatClampNeg = 0 := by decide
    have c1 : (1 : Int32).toNatClampNeg = 1 := by decide
    rw [e5, Option.bind_some, if_neg (nI_m1 (by omega)), e6, Option.bind_some, i0, i1, c0, c1, up_ne m _ (show (1 : Nat) ≠ 0 by omega), hm.2.1, li5, nI_mul, Int32.sub_eq_add_neg, m_shift (by omega) FU (5 * aN a) _ (by unfold FU; omega) (by omega) (by omega)]
    obtain ⟨S, hS⟩ : ∃ S : Fn, S = (fun c => if 75 + 5 * p ≤ c ∧ c < 75 + 5 * aN a then upd m 0 (nI (aGr (aC a) (b2 + w))) (c - 5) else upd m 0 (nI (aGr (aC a) (b2 + w))) c) := ⟨_, rfl⟩
    rw [← hS]
    have s0 : ∀ c, c ≠ 0 → c < 75 + 5 * p ∨ 75 + 5 * aN a ≤ c → S c = m c := fun c q1 q2 => by
      rw [hS]
      show (if 75 + 5 * p ≤ c ∧ c < 75 + 5 * aN a then upd m 0 (nI (aGr (aC a) (b2 + w))) (c - 5) else upd m 0 (nI (aGr (aC a) (b2 + w))) c) = _
      rw [if_neg (by omega), up_ne _ _ q1]
    have s5 : ∀ c, 75 + 5 * p ≤ c → c < 75 + 5 * aN a → S c = m (c - 5) := fun c q1 q2 => by
      rw [hS]
      show (if 75 + 5 * p ≤ c ∧ c < 75 + 5 * aN a then upd m 0 (nI (aGr (aC a) (b2 + w))) (c - 5) else upd m 0 (nI (aGr (aC a) (b2 + w))) c) = _
      rw [if_pos ⟨q1, q2⟩, up_ne _ _ (by omega)]
    have sz : S 0 = nI (aGr (aC a) (b2 + w)) := by
      rw [hS]
      show (if 75 + 5 * p ≤ 0 ∧ 0 < 75 + 5 * aN a then upd m 0 (nI (aGr (aC a) (b2 + w))) (0 - 5) else upd m 0 (nI (aGr (aC a) (b2 + w))) 0) = _
      rw [if_neg (by omega), up_eq]
    obtain ⟨m2, r1, r2, r3, r4, r5, r6⟩ := m_write (v := v) (w := w) (k := k) (b := b2) hp hn S (by rw [s0 1 (by omega) (by omega), hm.2.1]) (s0 3 (by omega) (by omega))
    refine ⟨m2, r1, ?_, r2, fun i hi => ?_, fun c hc => ?_, fun j hj => ?_, fun i hi => ?_⟩
    · rw [r4 0 (by omega) (by omega) (by omega) (by omega), sz]; rfl
    · show m2 (2 + i) = if i = 1 then aT a 1 + 1 else aT a i
      by_cases h1 : i = 1
      · subst h1
        rw [if_pos rfl, r3, ← hm.2.2.1 1 (by omega)]
      · rw [if_neg h1, r4 _ (by omega) (by omega) (by omega) (by omega), s0 _ (by omega) (by omega), hm.2.2.1 i hi]
    · rw [r4 _ (by omega) (by omega) (by omega) (by omega), s0 _ (by omega) (by omega), hm.2.2.2.1 c hc]; rfl
    · have hj9 : j < aN a + 1 := hj
      show m2 (70 + 5 * j) = (if aIns p (aW a) w j = 0 then -1 else nI (aIns p (aB a) b2 j)) ∧ m2 (70 + 5 * j + 1) = nI (aIns p (aW a) w j) ∧ m2 (70 + 5 * j + 2) = nI (if aIns p (aW a) w j = 0 then 0 else aIns p (aV a) v j) ∧ m2 (70 + 5 * j + 3) = nI (if aIns p (aW a) w j = 0 then 0 else aIns p (aK a) k j) ∧ m2 (70 + 5 * j + 4) = (if aIns p (aW a) w j = 0 then 0 else aIns p (aF a) 0 j)
      rcases aIns.old hp hj9 with q | ⟨i, q1, q2, q3⟩
      · subst q
        simp only [aIns.eq]
        rw [if_neg (by omega), if_neg (by omega), if_neg (by omega), if_neg (by omega)]
        exact r5
      · simp only [q3]
        have hE := hm.2.2.2.2.1 i q1
        by_cases h1 : i < p
        · rw [if_pos h1] at q2
          subst q2
          rw [r4 _ (by omega) (by omega) (by omega) (by omega), r4 _ (by omega) (by omega) (by omega) (by omega), r4 _ (by omega) (by omega) (by omega) (by omega), r4 _ (by omega) (by omega) (by omega) (by omega), r4 _ (by omega) (by omega) (by omega) (by omega), s0 _ (by omega) (by omega), s0 _ (by omega) (by omega), s0 _ (by omega) (by omega), s0 _ (by omega) (by omega), s0 _ (by omega) (by omega)]
          exact hE
        · rw [if_neg h1] at q2
          subst q2
          rw [r4 _ (by omega) (by omega) (by omega) (by omega), r4 _ (by omega) (by omega) (by omega) (by omega), r4 _ (by omega) (by omega) (by omega) (by omega), r4 _ (by omega) (by omega) (by omega) (by omega), r4 _ (by omega) (by omega) (by omega) (by omega), s5 _ (by omega) (by omega), s5 _ (by omega) (by omega), s5 _ (by omega) (by omega), s5 _ (by omega) (by omega), s5 _ (by omega) (by omega)]
          rw [show 70 + 5 * (i + 1) - 5 = 70 + 5 * i by omega, show 70 + 5 * (i + 1) + 1 - 5 = 70 + 5 * i + 1 by omega, show 70 + 5 * (i + 1) + 2 - 5 = 70 + 5 * i + 2 by omega, show 70 + 5 * (i + 1) + 3 - 5 = 70 + 5 * i + 3 by omega, show 70 + 5 * (i + 1) + 4 - 5 = 70 + 5 * i + 4 by omega]
          exact hE
    · show m2 (410 + i) = pM (if aP a i < p + 2 then aP a i else aP a i + 1)
      rw [r6 i hi, pM_up hp ho.2.1 (ho.2.2.2.2.2.1 i hi), s0 _ (by omega) (by omega), hm.2.2.2.2.2 i hi]
  · refine ⟨fun _ => by rw [e3, Option.bind_some, if_pos rfl], fun b q1 q2 => ?_⟩
    rw [e1] at q1
    exact absurd q1.symm (nI_m1 (by omega))
