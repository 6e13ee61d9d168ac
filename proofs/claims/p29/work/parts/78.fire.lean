/-! An event is fired. -/
theorem addAt_keep {p v w k : Int32} {x y : StC} {r : Int32} (hq : f_X3_addAt p v w k x = some (r, y)) : y.2.2.1 = x.2.2.1 := by
  unfold f_X3_addAt at hq
  obtain ⟨z1, h1, hq⟩ := bd_s hq
  by_cases h2 : z1 = -1
  · rw [if_pos h2] at hq
    cases hq
    rfl
  · rw [if_neg h2] at hq
    obtain ⟨z2, h3, hq⟩ := bd_s hq
    obtain ⟨z3, h4, hq⟩ := bd_s hq
    cases hq
    rfl
theorem drop_keep {p : Int32} {x y : StC} (hq : f_X3_drop p x = some y) : y.2.2.1 = x.2.2.1 := by
  unfold f_X3_drop at hq
  obtain ⟨z1, h1, hq⟩ := bd_s hq
  obtain ⟨z2, h2, hq⟩ := bd_s hq
  cases hq
  rfl
theorem w_addLast {a : AbT} {x : StC} (ho : aOk a) (hx : cV a x) {w v k : Nat} (hv : v ≤ 999) (hw : 1 ≤ w) (hw4 : w ≤ 4) (hk : k ≤ 2) : ∃ low, aLow a w low ∧ ((low = -1 ∧ f_X3_addAt x.2.1.1 (nI v) (nI w) (nI k) x = some (-1, x)) ∨ ∃ b y, low = nI b ∧ b + w ≤ 64 ∧ aWin a w b ∧ f_X3_addAt x.2.1.1 (nI v) (nI w) (nI k) x = some (nI b, y) ∧ y.2.2.1 = x.2.2.1 ∧ cV (aPut a (aN a) v w k b) y) := by
  obtain ⟨low, h1, h2⟩ := w_addAt ho hx (p := aN a) (Nat.le_refl _) hv hw hw4 hk
  refine ⟨low, h1, ?_⟩
  rw [hx.2.1.1]
  rcases h2 with ⟨e1, e2⟩ | ⟨b, y, e1, e2, e3, e4, e5⟩
  · exact Or.inl ⟨e1, e2⟩
  · exact Or.inr ⟨b, y, e1, e2, e3, e4, addAt_keep e4, e5⟩
theorem aRem.rest {a : AbT} {q : Nat} (hq : q < aN a) : ∃ d, d ≤ 1 ∧ d = (if aOn a q = 0 then 1 else 0) ∧ aN (aRem a q) = aN a - d ∧ ∀ j, q + 1 ≤ j → j < aN a → aB (aRem a q) (j - d) = aB a j ∧ aW (aRem a q) (j - d) = aW a j := by
  unfold aRem
  by_cases h1 : aOn a q = 0
  · rw [if_pos h1, if_pos h1]
    refine ⟨1, by omega, rfl, rfl, fun j h2 h3 => ?_⟩
    show aDl q (aB a) (j - 1) = aB a j ∧ aDl q (fun i => if i = q then 0 else aW a i) (j - 1) = aW a j
    rw [aDl.at, aDl.at, if_neg (by omega), show j - 1 + 1 = j by omega, if_neg (by omega)]
    exact ⟨rfl, rfl⟩
  · rw [if_neg h1, if_neg h1]
    refine ⟨0, by omega, rfl, rfl, fun j h2 h3 => ⟨rfl, ?_⟩⟩
    exact aKill.wne (by omega)
theorem m_one74 {q : Nat} {t : Int32} {m : Fn} (hq : -1 ≤ t) : f_X6_firesOne_74 (nI q) t m = some (nI (q + 1), m) := by
  unfold f_X6_firesOne_74
  rw [if_pos hq, nI_1]
/-- the model's firing, once the number is written -/
theorem m_fire1 {a : AbT} {m : Fn} (ho : aOk a) (hm : mV a m) {q : Nat} (hq : q < aN a) (hw : 0 < aW a q) : ∃ m1, mV (aSf a q (aF a q + 1)) m1 ∧ f_X6_firesOne (nI q) m = (if nI (aK a q) = 1 then
      Option.bind (f_X6_removes (nI q) m1) fun z6 => if z6.1 = 0 then some (nI q, z6.2) else some (nI q + 1, z6.2)
    else if nI (aK a q) = 2 then Option.bind (f_X6_comes (nI (aN a)) (nI (aV a q)) (nI (aW a q)) (nI 0) m1) fun z5 => f_X6_firesOne_74 (nI q) z5.1 z5.2
    else f_X6_firesOne_74 (nI q) 0 m1) := by
  have hN := ho.2.1
  have h2 := (hm.2.2.2.2.1 q hq).2.2.2.2
  rw [if_neg (by omega)] at h2
  have r1 := m_setF (f := aF a q + 1) ho hm hq hw
  have e4 : (70 + (5 * nI q)) + 4 = nI (70 + 5 * q + 4) := by rw [li70, li5, nI_mul, nI_add, li4, nI_add]
  obtain ⟨m1, hm1⟩ : ∃ m1, m1 = upd m (70 + 5 * q + 4) (aF a q + 1) := ⟨_, rfl⟩
  rw [← hm1] at r1
  refine ⟨m1, r1, ?_⟩
  have i1 : ∀ (kk : Option (Int32 × Fn)), gi 1 414 kk = kk := fun kk => gi_in (c := 1) (by omega) (by decide)
  have c1 : (1 : Int32).toNatClampNeg = 1 := by decide
  have hv : m1 (70 + 5 * q + 2) = nI (aV a q) := by
    have h3 := (r1.2.2.2.2.1 q hq).2.2.1
    rw [h3]
    show nI (if aW a q = 0 then 0 else aV a q) = _
    rw [if_neg (by omega)]
  have hk : m1 (70 + 5 * q + 3) = nI (aK a q) := by
    have h3 := (r1.2.2.2.2.1 q hq).2.2.2.1
    rw [h3]
    show nI (if aW a q = 0 then 0 else aK a q) = _
    rw [if_neg (by omega)]
  have hw9 : m1 (70 + 5 * q + 1) = nI (aW a q) := (r1.2.2.2.2.1 q hq).2.1
  unfold f_X6_firesOne
  rw [e4, gi_in (by omega) (by decide), gi_in (by omega) (by decide), nI_clamp (by omega), h2, ← hm1, i1, c1, r1.2.1, show f_X6_of (nI q) 3 m1 = some (nI (aK a q)) by rw [li3, m_of (by omega), hk], Option.bind_some, Option.bind_some, show f_X6_of (nI q) 2 m1 = some (nI (aV a q)) by rw [li2, m_of (by omega), hv], Option.bind_some, show f_X6_of (nI q) 1 m1 = some (nI (aW a q)) by rw [li1, m_of (by omega), hw9], Option.bind_some]
  rfl
theorem aRem.S1 {a : AbT} {q c : Nat} : aS (aRem a q) c ≤ aS a c + 1 ∧ (c ≠ aB a q → aS (aRem a q) c ≤ aS a c) := by
  have h1 : aS (aRem a q) c = if c = aB a q then (aS a c + 1) % 1000 else aS a c := by
    unfold aRem
    by_cases h : aOn a q = 0
    · rw [if_pos h]; rfl
    · rw [if_neg h]; rfl
  rw [h1]
  by_cases h : c = aB a q
  · rw [if_pos h]; exact ⟨by omega, fun h2 => absurd h h2⟩
  · rw [if_neg h]; exact ⟨by omega, fun _ => Nat.le_refl _⟩
/-- one thing is fired -/
theorem fire_one {a : AbT} {x : StC} (ho : aOk a) (hx : cV a x) {q : Nat} (hq : q < aN a) (hw : 0 < aW a q) : ∃ y a2 d, (∀ fu (v2 : Int32) tot t, t < tot → tot ≤ 64 → x.2.2.1 t = nI (aB a q) → f_X3_fireThings_16 (fu + 1) (nI tot) v2 (nI t) x = f_X3_fireThings_16 fu (nI tot) (v2 + nI (aV a q)) (nI (t + 1)) y) ∧ y.2.2.1 = x.2.2.1 ∧ aOk a2 ∧ cV a2 y ∧ d ≤ 1 ∧ (∀ m, mV a m → ∃ m2, f_X6_firesOne (nI q) m = some (nI (q + 1 - d), m2) ∧ mV a2 m2) ∧ aN a - d ≤ aN a2 ∧ (∀ j, q + 1 ≤ j → j < aN a → (aB a2 (j - d) = aB a j ∧ aW a2 (j - d) = aW a j)) ∧ ∀ c, aS a2 c ≤ aS a c + 1 ∧ (c ≠ aB a q → aS a2 c ≤ aS a c) := by
  have hN := ho.2.1
  have hC := aOk.C a ho
  have h1 := ho.2.2.1 q hq hw
  have hE := hx.1.2.2.2.2.1 q hq hw
  obtain ⟨z4, g1, g2⟩ := w_setFired (f := aF a q + 1) ho hx.1 hq hw
  have hx1 : cV (aSf a q (aF a q + 1)) (z4, x.2) := ⟨g2, hx.2⟩
  have ho1 : aOk (aSf a q (aF a q + 1)) := ho
  have st : ∀ fu (v2 : Int32) tot t, t < tot → tot ≤ 64 → x.2.2.1 t = nI (aB a q) → f_X3_fireThings_16 (fu + 1) (nI tot) v2 (nI t) x = if nI (aK a q) = 1 then Option.bind (f_X3_drop (nI (aB a q)) (z4, x.2)) fun z9 => f_X3_fireThings_16 fu (nI tot) (v2 + nI (aV a q)) (nI (t + 1)) z9 else if nI (aK a q) = 2 then Option.bind (f_X1_size x.2.1) fun z6 => Option.bind (f_X2_sizeAt (nI (aB a q)) z4) fun z7 => Option.bind (f_X3_addAt z6 (nI (aV a q)) z7 0 (z4, x.2)) fun z8 => f_X3_fireThings_16 fu (nI tot) (v2 + nI (aV a q)) (nI (t + 1)) z8.2 else f_X3_fireThings_16 fu (nI tot) (v2 + nI (aV a q)) (nI (t + 1)) (z4, x.2) := fun fu v2 tot t h2 h3 h4 => by
    rw [f_X3_fireThings_16.eq_2, if_neg (nI_ge h2 (by omega)), gi_in (by omega) (by decide), nI_clamp (by omega), h4, w_valueAt ho hx.1 (by omega), if_pos (by omega), Option.bind_some, w_kindAt ho hx.1 (by omega), if_pos (by omega), Option.bind_some, w_timesFired ho hx.1 (by omega), if_pos (by omega), Option.bind_some, hE.2.1, hE.2.2.1, hE.2.2.2, g1, Option.bind_some, nI_1]
  have hk3 : aK a q = 0 ∨ aK a q = 1 ∨ aK a q = 2 := by omega
  rcases hk3 with hk | hk | hk
  · refine ⟨(z4, x.2), aSf a q (aF a q + 1), 0, fun fu v2 tot t h2 h3 h4 => by rw [st fu v2 tot t h2 h3 h4, hk, if_neg (by decide), if_neg (by decide)], rfl, ho1, hx1, by omega, fun m hm => ?_, Nat.le_refl _, fun j q1 q2 => ⟨rfl, rfl⟩, fun c => ⟨Nat.le_succ _, fun _ => Nat.le_refl _⟩⟩
    obtain ⟨m1, r1, r2⟩ := m_fire1 ho hm hq hw
    rw [r2, hk, if_neg (by decide), if_neg (by decide), m_one74 (by decide)]
    exact ⟨m1, rfl, r1⟩
  · obtain ⟨y, s1, s2⟩ := w_drop ho1 hx1 (q := q) hq hw
    obtain ⟨d, d1, d2, d3, d4⟩ := aRem.rest (a := aSf a q (aF a q + 1)) hq
    have s1' : f_X3_drop (nI (aB a q)) (z4, x.2) = some y := s1
    refine ⟨y, aRem (aSf a q (aF a q + 1)) q, d, fun fu v2 tot t h2 h3 h4 => by rw [st fu v2 tot t h2 h3 h4, hk, if_pos (by decide), s1', Option.bind_some], (drop_keep s1').trans rfl, aRem.ok ho1 hq, s2, d1, fun m hm => ?_, by rw [d3]; exact Nat.le_refl _, d4, fun c => aRem.S1 (a := aSf a q (aF a q + 1))⟩
    obtain ⟨m1, r1, r2⟩ := m_fire1 ho hm hq hw
    obtain ⟨r, m2, t1, t2, t3⟩ := m_removes ho1 r1 (q := q) hq hw
    rw [r2, hk, if_pos (by decide), t1, Option.bind_some]
    refine ⟨m2, ?_, t2⟩
    by_cases h2 : aOn (aSf a q (aF a q + 1)) q = 0
    · rw [if_pos h2] at t3 d2
      rw [t3, d2, if_pos rfl]
      rfl
    · rw [if_neg h2] at t3 d2
      rw [t3, d2, if_neg (show ¬ ((1 : Int32), m2).1 = 0 from (by decide : ¬ (1 : Int32) = 0)), nI_1]
      rfl
  · have hsz : f_X2_sizeAt (nI (aB a q)) z4 = some (nI (aW a q)) := by
      rw [w_sizeAt ho1 g2 (by omega), if_pos (show aB a q < aC (aSf a q (aF a q + 1)) from (by omega : aB a q < aC a))]
      exact congrArg some (g2.2.2.2.2.1 q hq hw).1
    have st2 : ∀ fu (v2 : Int32) tot t, t < tot → tot ≤ 64 → x.2.2.1 t = nI (aB a q) → f_X3_fireThings_16 (fu + 1) (nI tot) v2 (nI t) x = Option.bind (f_X3_addAt x.2.1.1 (nI (aV a q)) (nI (aW a q)) (nI 0) (z4, x.2)) fun z8 => f_X3_fireThings_16 fu (nI tot) (v2 + nI (aV a q)) (nI (t + 1)) z8.2 := fun fu v2 tot t h2 h3 h4 => by
      rw [st fu v2 tot t h2 h3 h4, hk, if_neg (by decide), if_pos (by decide), w_rsz, Option.bind_some, hsz, Option.bind_some, li0]
    obtain ⟨low, l1, l2⟩ := w_addLast ho1 hx1 (v := aV a q) (w := aW a q) (k := 0) (by omega) (by omega) (by omega) (by omega)
    rcases l2 with ⟨l3, l4⟩ | ⟨b, y, l3, l4, l5, l6, l7, l8⟩
    · have l4' : f_X3_addAt x.2.1.1 (nI (aV a q)) (nI (aW a q)) (nI 0) (z4, x.2) = some (-1, (z4, x.2)) := l4
      refine ⟨(z4, x.2), aSf a q (aF a q + 1), 0, fun fu v2 tot t h2 h3 h4 => by rw [st2 fu v2 tot t h2 h3 h4, l4', Option.bind_some], rfl, ho1, hx1, by omega, fun m hm => ?_, Nat.le_refl _, fun j q1 q2 => ⟨rfl, rfl⟩, fun c => ⟨Nat.le_succ _, fun _ => Nat.le_refl _⟩⟩
      obtain ⟨m1, r1, r2⟩ := m_fire1 ho hm hq hw
      have hc : f_X6_comes (nI (aN a)) (nI (aV a q)) (nI (aW a q)) (nI 0) m1 = some (-1, m1) := (m_comes ho1 r1 (p := aN a) (v := aV a q) (k := 0) (Nat.le_refl _) (by omega) (by omega) l1).1 l3
      rw [r2, hk, if_neg (by decide), if_pos (by decide), hc, Option.bind_some, m_one74 (show (-1 : Int32) ≤ ((-1 : Int32), m1).1 from (by decide : (-1 : Int32) ≤ -1))]
      exact ⟨m1, rfl, r1⟩
    · have l6' : f_X3_addAt x.2.1.1 (nI (aV a q)) (nI (aW a q)) (nI 0) (z4, x.2) = some (nI b, y) := l6
      refine ⟨y, aPut (aSf a q (aF a q + 1)) (aN a) (aV a q) (aW a q) 0 b, 0, fun fu v2 tot t h2 h3 h4 => by rw [st2 fu v2 tot t h2 h3 h4, l6', Option.bind_some], l7, aPut.ok ho1 (Nat.le_refl _) (by omega) (by omega) (by omega) (by omega) l4 l5, l8, by omega, fun m hm => ?_, (by show aN a - 0 ≤ aN a + 1; omega), fun j q1 q2 => ⟨?_, ?_⟩, fun c => ⟨Nat.le_succ _, fun _ => Nat.le_refl _⟩⟩
      · obtain ⟨m1, r1, r2⟩ := m_fire1 ho hm hq hw
        obtain ⟨m2, t1, t2⟩ := (m_comes ho1 r1 (p := aN a) (v := aV a q) (k := 0) (Nat.le_refl _) (by omega) (by omega) l1).2 b l3 l4
        have t1' : f_X6_comes (nI (aN a)) (nI (aV a q)) (nI (aW a q)) (nI 0) m1 = some (nI b, m2) := t1
        rw [r2, hk, if_neg (by decide), if_pos (by decide), t1', Option.bind_some, m_one74 (by rw [Int32.le_iff_toInt_le, nI_toInt (by omega), show (-1 : Int32).toInt = -1 by decide]; omega)]
        exact ⟨m2, rfl, t2⟩
      · show aIns (aN a) (aB a) b j = aB a j
        exact aIns.lt q2
      · show aIns (aN a) (aW a) (aW a q) j = aW a j
        exact aIns.lt q2
/-- an event is counted -/
def aEv (a : AbT) : AbT := (aC a, aN a, aS a, aE a, aP a, fun i => if i = 0 then aT a 0 + 1 else aT a i)
theorem m_event {a : AbT} {m : Fn} (ho : aOk a) (hm : mV a m) : mV (aEv a) (upd m 2 (m 2 + 1)) := by
  have hN := ho.2.1
  refine ⟨by rw [up_ne _ _ (by omega)]; exact hm.1, by rw [up_ne _ _ (by omega)]; exact hm.2.1, fun k hk => ?_, fun c hc => by rw [up_ne _ _ (by omega)]; exact hm.2.2.2.1 c hc, fun j hj => ?_, fun k hk => by rw [up_ne _ _ (by omega)]; exact hm.2.2.2.2.2 k hk⟩
  · show upd m 2 (m 2 + 1) (2 + k) = if k = 0 then aT a 0 + 1 else aT a k
    by_cases h1 : k = 0
    · rw [if_pos h1, h1, up_eq, ← hm.2.2.1 0 (by omega)]
    · rw [if_neg h1, up_ne _ _ (by omega)]
      exact hm.2.2.1 k hk
  · rw [up_ne _ _ (by omega), up_ne _ _ (by omega), up_ne _ _ (by omega), up_ne _ _ (by omega), up_ne _ _ (by omega)]
    exact hm.2.2.2.2.1 j hj
/-- what is still to be fired: the things from the entry k on to the entry n, told by their begins -/
def aFq (a : AbT) (k n t tot : Nat) (lst : Fn) (ρ : Nat → Nat) : Prop := k ≤ n ∧ n ≤ aN a ∧ ρ k = t ∧ ρ n = tot ∧ (∀ j, k ≤ j → j < n → ρ (j + 1) = ρ j + if aW a j = 0 then 0 else 1) ∧ ∀ j, k ≤ j → j < n → ¬ aW a j = 0 → lst (ρ j) = nI (aB a j)
theorem aFq.mono {a : AbT} {k n t tot : Nat} {lst : Fn} {ρ : Nat → Nat} (hq : aFq a k n t tot lst ρ) {i : Nat} (hi : k ≤ i) : ∀ d, i + d ≤ n → ρ i ≤ ρ (i + d) := by
  intro d
  induction d with
  | zero => intro _; exact Nat.le_refl _
  | succ d ih =>
    intro h1
    have h2 := ih (by omega)
    have h3 := hq.2.2.2.2.1 (i + d) (by omega) (by omega)
    rw [show i + (d + 1) = i + d + 1 by omega]
    omega
theorem fire_end {a : AbT} {x : StC} {k t tot : Nat} {v2 : Int32} (ho : aOk a) (hx : cV a x) (ht : tot ≤ 64) (h2 : t = tot) : ∃ r y a2, aOk a2 ∧ cV a2 y ∧ (∀ fu, tot - t < fu → f_X3_fireThings_16 fu (nI tot) v2 (nI t) x = some (r, y)) ∧ (∀ m fu, mV a m → 0 < fu → ∃ m2, f_X6_fires_9 fu (nI (tot - t)) v2 (nI k) m = some (r, m2) ∧ mV a2 m2) ∧ (∀ c, aS a2 c ≤ aS a c) ∧ r = v2 := by
  refine ⟨v2, (x.1, x.2.1, x.2.2.1, x.2.2.2.1 + 1, x.2.2.2.2), aEv a, ho, ⟨hx.1, hx.2.1, by show x.2.2.2.1 + 1 = aT a 0 + 1; rw [hx.2.2.1], hx.2.2.2⟩, fun fu hf => ?_, fun m fu hm hf => ?_, fun c => Nat.le_refl _, rfl⟩
  · obtain ⟨f, rfl⟩ : ∃ f, fu = f + 1 := ⟨fu - 1, by omega⟩
    rw [f_X3_fireThings_16.eq_2, if_pos (nI_le (by omega) (by omega))]
  · obtain ⟨f, rfl⟩ : ∃ f, fu = f + 1 := ⟨fu - 1, by omega⟩
    have i2 : ∀ (kk : Option (Int32 × Fn)), gi 2 414 kk = kk := fun kk => gi_in (c := 2) (by omega) (by decide)
    have c2 : (2 : Int32).toNatClampNeg = 2 := by decide
    rw [f_X6_fires_9.eq_2, if_pos (by rw [li0]; exact nI_le (by omega) (by omega)), i2, i2, c2]
    exact ⟨_, rfl, m_event ho hm⟩
theorem fire_loop : ∀ (d : Nat) (a : AbT) (x : StC) (k n t tot : Nat) (ρ : Nat → Nat) (v2 : Int32), n - k = d → tot ≤ 64 → aOk a → cV a x → aFq a k n t tot x.2.2.1 ρ → ∃ r y a2, aOk a2 ∧ cV a2 y ∧ (∀ fu, tot - t < fu → f_X3_fireThings_16 fu (nI tot) v2 (nI t) x = some (r, y)) ∧ (∀ m fu, mV a m → d < fu → ∃ m2, f_X6_fires_9 fu (nI (tot - t)) v2 (nI k) m = some (r, m2) ∧ mV a2 m2) ∧ (∀ c, aS a2 c ≤ aS a c + 1 ∧ ((∀ j, k ≤ j → j < n → ¬ aW a j = 0 → aB a j ≠ c) → aS a2 c ≤ aS a c)) ∧ ∃ R, r = v2 + nI R ∧ R ≤ d * 999 := by
  intro d
  induction d with
  | zero =>
    intro a x k n t tot ρ v2 hd ht ho hx hq
    have h1 : k = n := by have := hq.1; omega
    have h2 : t = tot := by rw [← hq.2.2.1, ← hq.2.2.2.1, h1]
    obtain ⟨r, y, a2, r1, r2, r3, r4, r5, r6⟩ := fire_end (k := k) (v2 := v2) ho hx ht h2
    exact ⟨r, y, a2, r1, r2, r3, r4, fun c => ⟨Nat.le_succ_of_le (r5 c), fun _ => r5 c⟩, 0, by rw [r6, ← li0, Int32.add_zero], Nat.zero_le _⟩
  | succ d ih =>
    intro a x k n t tot ρ v2 hd ht ho hx hq
    have hN := ho.2.1
    have hC := aOk.C a ho
    obtain ⟨q1, q2, q3, q4, q5, q6⟩ := id hq
    have hle := hq.mono (i := k) (Nat.le_refl _) (n - k) (by omega)
    rw [show k + (n - k) = n by omega, q3, q4] at hle
    have hk := q5 k (Nat.le_refl _) (by omega)
    by_cases h1 : aW a k = 0
    · rw [if_pos h1] at hk
      obtain ⟨r, y, a2, r1, r2, r3, r4, r5, R, r6, r7⟩ := ih a x (k + 1) n t tot ρ v2 (by omega) ht ho hx ⟨by omega, q2, by omega, q4, fun j p1 p2 => q5 j (by omega) p2, fun j p1 p2 => q6 j (by omega) p2⟩
      by_cases h2 : t = tot
      · obtain ⟨s, z, a3, s1, s2, s3, s4, s5, s6⟩ := fire_end (k := k) (v2 := v2) ho hx ht h2
        exact ⟨s, z, a3, s1, s2, s3, fun m fu hm hf => s4 m fu hm (by omega), fun c => ⟨Nat.le_succ_of_le (s5 c), fun _ => s5 c⟩, 0, by rw [s6, ← li0, Int32.add_zero], Nat.zero_le _⟩
      · refine ⟨r, y, a2, r1, r2, r3, fun m fu hm hf => ?_, fun c => ⟨(r5 c).1, fun p => (r5 c).2 (fun j p1 p2 p3 => p j (by omega) p2 p3)⟩, R, r6, Nat.le_trans r7 (Nat.mul_le_mul_right _ (Nat.le_succ d))⟩
        obtain ⟨f, rfl⟩ : ∃ f, fu = f + 1 := ⟨fu - 1, by omega⟩
        rw [f_X6_fires_9.eq_2, if_neg (by rw [li0]; exact nI_ge (by omega) (by omega)), m_isThing ho hm (by omega), Option.bind_some, if_pos h1, if_pos rfl, nI_1]
        exact r4 m f hm (by omega)
    · rw [if_neg h1] at hk
      have hl2 := hq.mono (i := k + 1) (by omega) (n - (k + 1)) (by omega)
      rw [show k + 1 + (n - (k + 1)) = n by omega] at hl2
      obtain ⟨y, a2, e, s1, s2, s3, s4, s5, s6, s7, s8, s9⟩ := fire_one ho hx (q := k) (by omega) (by omega)
      have h9 := ho.2.2.1 k (by omega) (by omega)
      obtain ⟨r, y2, a3, r1, r2, r3, r4, r5, R, r6, r7⟩ := ih a2 y (k + 1 - e) (n - e) (t + 1) tot (fun j => ρ (j + e)) (v2 + nI (aV a k)) (by omega) ht s3 s4 ⟨by omega, by omega, by show ρ (k + 1 - e + e) = t + 1; rw [show k + 1 - e + e = k + 1 by omega]; omega, by show ρ (n - e + e) = tot; rw [show n - e + e = n by omega, q4], fun j p1 p2 => by
          have h3 := s8 (j + e) (by omega) (by omega)
          rw [show j + e - e = j by omega] at h3
          show ρ (j + 1 + e) = ρ (j + e) + _
          rw [h3.2, show j + 1 + e = j + e + 1 by omega]
          exact q5 (j + e) (by omega) (by omega), fun j p1 p2 p3 => by
          have h3 := s8 (j + e) (by omega) (by omega)
          rw [show j + e - e = j by omega] at h3
          show y.2.2.1 (ρ (j + e)) = _
          rw [h3.1, s2]
          exact q6 (j + e) (by omega) (by omega) (by rw [← h3.2]; exact p3)⟩
      have later : ∀ j, k + 1 - e ≤ j → j < n - e → aB a2 j = aB a (j + e) ∧ aW a2 j = aW a (j + e) := fun j p1 p2 => by
        have h3 := s8 (j + e) (by omega) (by omega)
        rw [show j + e - e = j by omega] at h3
        exact h3
      have st : ∀ c, aS a3 c ≤ aS a c + 1 ∧ ((∀ j, k ≤ j → j < n → ¬ aW a j = 0 → aB a j ≠ c) → aS a3 c ≤ aS a c) := fun c => by
        by_cases p : c = aB a k
        · have p1 := (r5 c).2 (fun j p1 p2 p3 p4 => by
            have h3 := later j p1 p2
            have p5 := aB.inj ho (show j + e < aN a by omega) (show k < aN a by omega) (by rw [← h3.2]; omega) (by omega) (by rw [← h3.1, p4, p])
            omega)
          have p2 := (s9 c).1
          exact ⟨by omega, fun p3 => absurd p.symm (p3 k (Nat.le_refl _) (by omega) h1)⟩
        · have p1 := (s9 c).2 p
          have p2 := (r5 c).1
          refine ⟨by omega, fun p3 => Nat.le_trans ((r5 c).2 (fun j p4 p5 p6 p7 => ?_)) p1⟩
          have h3 := later j p4 p5
          exact p3 (j + e) (by omega) (by omega) (by rw [← h3.2]; exact p6) (by rw [← h3.1, p7])
      refine ⟨r, y2, a3, r1, r2, fun fu hf => ?_, fun m fu hm hf => ?_, st, aV a k + R, by rw [r6, Int32.add_assoc, nI_add], by have h10 : (d + 1) * 999 = d * 999 + 999 := Nat.succ_mul d 999; have h11 := h9.2.2.1; omega⟩
      · obtain ⟨f, rfl⟩ : ∃ f, fu = f + 1 := ⟨fu - 1, by omega⟩
        have h3 := q6 k (Nat.le_refl _) (by omega) h1
        rw [q3] at h3
        rw [s1 f v2 tot t (by omega) ht h3]
        exact r3 f (by omega)
      · obtain ⟨f, rfl⟩ : ∃ f, fu = f + 1 := ⟨fu - 1, by omega⟩
        obtain ⟨m2, t1, t2⟩ := s6 m hm
        have hv := (hm.2.2.2.2.1 k (by omega)).2.2.1
        rw [if_neg h1] at hv
        rw [f_X6_fires_9.eq_2, if_neg (by rw [li0]; exact nI_ge (by omega) (by omega)), m_isThing ho hm (by omega), Option.bind_some, if_neg h1, if_neg (by decide), li2, m_of (by omega), hv, Option.bind_some, t1, Option.bind_some, nI_dn (by omega), show tot - t - 1 = tot - (t + 1) by omega]
        exact r4 m2 f t2 (by omega)
theorem aCnt.cells {a : AbT} (ho : aOk a) : aCnt a (aN a) ≤ 64 := by
  have hC := aOk.C a ho
  have h1 : ∀ n, n ≤ aN a → aCnt a n ≤ sm n (aW a) := by
    intro n
    induction n with
    | zero => intro _; exact Nat.le_refl 0
    | succ n ih =>
      intro h1
      have h2 := ih (by omega)
      show aCnt a n + (if aW a n = 0 then 0 else 1) ≤ sm n (aW a) + aW a n
      by_cases h3 : aW a n = 0
      · rw [if_pos h3]; omega
      · rw [if_neg h3]; omega
  have h2 := h1 (aN a) (Nat.le_refl _)
  have h3 := aUs.le ho
  unfold aUs at h3
  omega
theorem w_list_loop {a : AbT} {x : RwC} (ho : aOk a) (hr : rV a x) : ∀ (fu i : Nat) (o : Fn), aN a - i < fu → i ≤ aN a → ∃ lst, f_X1_list_4 fu (nI (aCnt a i)) (nI i) x o = some (nI (aCnt a (aN a)), lst) ∧ (∀ c, c < aCnt a i → lst c = o c) ∧ ∀ j, i ≤ j → j < aN a → ¬ aW a j = 0 → lst (aCnt a j) = nI (aB a j) := by
  have hN := ho.2.1
  have hc := aCnt.cells ho
  intro fu
  induction fu with
  | zero => intro i o h1; omega
  | succ fu ih =>
    intro i o h1 h2
    rw [f_X1_list_4.eq_2, hr.1]
    by_cases h4 : i = aN a
    · rw [if_pos (nI_le (by omega) (by omega)), h4]
      exact ⟨o, rfl, fun c _ => rfl, fun j q1 q2 => by omega⟩
    · rw [if_neg (nI_ge (by omega) (by omega)), w_thI hr.1 (by omega) hN, Option.bind_some, nI_1]
      by_cases h6 : aW a i = 0
      · rw [if_pos ((rV.m1 ho hr (by omega)).mpr h6), ← aCnt.t h6]
        obtain ⟨lst, g1, g2, g3⟩ := ih (i + 1) o (by omega) (by omega)
        refine ⟨lst, g1, g2, fun j q1 q2 q3 => g3 j ?_ q2 q3⟩
        rcases Nat.lt_or_ge i j with h | h
        · exact h
        · rw [show j = i by omega] at q3; exact absurd h6 q3
      · have h7 := aCnt.mono (a := a) (i := i + 1) (aN a) (by omega)
        have h8 := aCnt.f (a := a) h6
        rw [if_neg (fun h => h6 ((rV.m1 ho hr (by omega)).mp h)), li64, if_neg (nI_ge (by omega) (by omega)), gi_in (by omega) (by decide), nI_1, nI_clamp (by omega), hr.2.1 i (by omega), if_neg h6, ← h8]
        obtain ⟨lst, g1, g2, g3⟩ := ih (i + 1) (upd o (aCnt a i) (nI (aB a i))) (by omega) (by omega)
        refine ⟨lst, g1, fun c q1 => ?_, fun j q1 q2 q3 => ?_⟩
        · rw [g2 c (by omega), up_ne _ _ (by omega)]
        · by_cases h : i = j
          · subst h
            rw [g2 _ (by omega), up_eq]
          · exact g3 j (by omega) q2 q3
/-- an event, both sides -/
theorem fires2 {a : AbT} {x : StC} (ho : aOk a) (hx : cV a x) : ∃ r y a2, f_X3_fireThings x = some (r, y) ∧ aOk a2 ∧ cV a2 y ∧ (∀ m, mV a m → ∃ m2, f_X6_fires m = some (r, m2) ∧ mV a2 m2) ∧ (∀ c, aS a2 c ≤ aS a c + 1) ∧ ∃ R, r = nI R ∧ R ≤ 68 * 999 := by
  have hN := ho.2.1
  have hc := aCnt.cells ho
  obtain ⟨lst, g1, -, g3⟩ := w_list_loop ho hx.2.1 FU 0 x.2.2.1 (by unfold FU; omega) (by omega)
  have g1' : f_X1_list x.2.1 x.2.2.1 = some (nI (aCnt a (aN a)), lst) := g1
  obtain ⟨r, y, a2, r1, r2, r3, r4, r5, R, r6, r7⟩ := fire_loop (aN a) a (x.1, x.2.1, lst, x.2.2.2) 0 (aN a) 0 (aCnt a (aN a)) (aCnt a) 0 (by omega) hc ho hx ⟨by omega, Nat.le_refl _, rfl, rfl, fun j _ _ => rfl, fun j q1 q2 q3 => g3 j q1 q2 q3⟩
  refine ⟨r, y, a2, ?_, r1, r2, fun m hm => ?_, fun c => (r5 c).1, R, by rw [r6, Int32.zero_add], Nat.le_trans r7 (Nat.mul_le_mul_right _ hN)⟩
  · unfold f_X3_fireThings
    rw [g1', Option.bind_some]
    exact r3 FU (by unfold FU; omega)
  · unfold f_X6_fires
    rw [m_things ho hm, Option.bind_some]
    exact r4 m FU hm (by unfold FU; omega)
theorem fires {a : AbT} {x : StC} (ho : aOk a) (hx : cV a x) : ∃ r y a2, f_X3_fireThings x = some (r, y) ∧ aOk a2 ∧ cV a2 y ∧ ∀ m, mV a m → ∃ m2, f_X6_fires m = some (r, m2) ∧ mV a2 m2 := by
  obtain ⟨r, y, a2, r1, r2, r3, r4, -⟩ := fires2 ho hx
  exact ⟨r, y, a2, r1, r2, r3, r4⟩
