/-! The calls: put behind, removed, changed; walkers. -/
theorem putBehind_call {x : ClC} {o : MdC} (hR : Rel x o) (p0 p1 p2 p3 : Int32) : Ans [(3, 1), (1, 2), (2, 3)] x (f_X5_putBehind p0 p1 p2 p3 x) (f_X6_putBehind p0 p1 p2 p3 o) := by
  obtain ⟨a, h, len, cd, ho, hc, hm, hh, ht⟩ := hR
  have hN := ho.2.1
  unfold f_X5_putBehind f_X6_putBehind f_X6_putBehind_47
  obtain ⟨z, z1, z2, z3⟩ := why ho hc.1 hm p0
  rw [z1, z2, Option.bind_some, Option.bind_some]
  by_cases hz : z = 0
  · obtain ⟨q, q1, q2, q3⟩ := z3 hz
    have h9 := ho.2.2.1 q q1 q2
    rw [hz, if_pos rfl, if_pos rfl]
    obtain ⟨r, n1, n2, n3⟩ := w_new (p0 := p1) (p1 := p2) (p2 := p3)
    rw [n1, n3, Option.bind_some, Option.bind_some]
    rcases n2 with n2 | ⟨n2, v, w, k, e0, e1, e2, v1, w1, w2, k1⟩
    · rw [n2, if_pos rfl, if_pos rfl, rf2, Option.bind_some, it1]
      exact Or.inr ⟨1, 2, 0, (2, o.2), rfl, by decide, rfl, rfl, a, h, len, cd, ho, hc, hm, hh, ht⟩
    · subst e0; subst e1; subst e2
      obtain ⟨low, l1, l2⟩ := w_lowestFor ho hc.1 (w := w) w1 (by omega)
      obtain ⟨low2, l3, l4⟩ := w_addAt ho hc (p := q + 1) (v := v) (w := w) (k := k) (by omega) v1 w1 w2 k1
      have l5 := l3.det l2
      subst l5
      rw [n2, if_neg (by decide), if_neg (by decide), l1, Option.bind_some]
      rcases m_cellsFor ho hm w1 (by omega) l2 with ⟨b, b1, b2, b3, b4, b5, b6⟩ | ⟨b1, b2, b3⟩
      · rw [b5, Option.bind_some, b1, if_neg (nI_m1 (by omega)), if_neg (nI_m1 (by have := aGr.ok ho b2; omega)), rf0, Option.bind_some, it0]
        obtain ⟨h2, x2, r2, s1, s2, s3⟩ := save (o := (0, o.2)) ho hc hm hh
        rw [s1, s2, Option.bind_some, Option.bind_some, q3, w_indexOf ho hc.2.1 q1 q2, Option.bind_some, nI_1]
        rcases l4 with ⟨l6, -⟩ | ⟨b9, y, l6, l7, l8, l9, l11⟩
        · rw [b1] at l6; exact absurd l6 (nI_m1 (by omega))
        · have hb : b9 = b := by
            rw [b1] at l6
            exact ((nI_eq (by omega) (by omega)).mp l6).symm
          subst hb
          obtain ⟨m2, t1, t2⟩ := (m_comes ho hm (p := q + 1) (v := v) (k := k) (by omega) w1 w2 l2).2 b9 b1 b2
          have ho2 := aPut.ok ho (p := q + 1) (by omega) v1 w1 w2 k1 l7 l8
          have hg := aGr.ok ho l7
          obtain ⟨r, g1, g2⟩ := handles (b := b9) ho2 l11.1 t2 (show b9 < aGr (aC a) (b9 + w) by omega)
          have hE : f_X6_entryOf (nI (aB a q)) o.2.1 = some (nI q) := m_entryAt ho hm q1 q2
          show Ans _ _ (Option.bind (f_X3_addAt (nI (q + 1)) (nI v) (nI w) (nI k) x.1) fun z5 => Option.bind (f_X2_handleOf z5.1 z5.2.1) fun z6 => some (Sum.inr (z6, z5.2, x.2.1, x2, x.2.2.2))) (Option.bind (f_X6_entryOf (nI (aB a q)) o.2.1) fun z6 => Option.bind (f_X6_comes (z6 + 1) (nI v) (nI w) (nI k) o.2.1) fun z5 => gi (6 + z5.1) 414 <| some ((1000 * z5.1) + (z5.2 (6 + z5.1).toNatClampNeg), ((0 : Int32), z5.2, o.2.2.1, r2, nI h2, o.2.2.2.2.2)))
          rw [l9, hE, Option.bind_some, Option.bind_some, nI_1, t1, Option.bind_some, g1, Option.bind_some]
          exact Or.inl ⟨r, _, _, rfl, gi_map (f := fun v => (v, ((0 : Int32), m2, o.2.2.1, r2, nI h2, o.2.2.2.2.2))) g2, rfl, _, h2, len, cd, ho2, l11, t2, s3, ht⟩
      · rw [b3, Option.bind_some, b1, if_pos rfl, if_pos rfl, rf3, Option.bind_some, it1]
        exact Or.inr ⟨2, 3, 0, (3, o.2), rfl, by decide, rfl, rfl, a, h, len, cd, ho, hc, hm, hh, ht⟩
  · rw [if_neg hz, if_neg hz, rf1, Option.bind_some, it1]
    exact Or.inr ⟨3, 1, 0, (1, o.2), rfl, by decide, rfl, rfl, a, h, len, cd, ho, hc, hm, hh, ht⟩
theorem w_val {a : AbT} {x : SlC} (ho : aOk a) (hv : sV a x) {q : Nat} (hq : q < aN a) (hw : 0 < aW a q) : f_X2_valueAt (nI (aB a q)) x = some (nI (aV a q)) := by
  have hC := aOk.C a ho
  have h9 := ho.2.2.1 q hq hw
  rw [w_valueAt ho hv (by omega), if_pos (by omega), (hv.2.2.2.2.1 q hq hw).2.1]
theorem m_val {a : AbT} {m : Fn} (ho : aOk a) (hm : mV a m) {q : Nat} (hq : q < aN a) (hw : 0 < aW a q) : f_X6_of (nI q) 2 m = some (nI (aV a q)) := by
  have hN := ho.2.1
  have h2 := (hm.2.2.2.2.1 q hq).2.2.1
  rw [if_neg (by omega)] at h2
  rw [li2, m_of (by omega), h2]
theorem rm_tail {r : Int32} {v : Int32} {m2 : Fn} {f : Fn → MdC} : (if ((r, m2) : Int32 × Fn).1 = 0 then some (v, f ((r, m2) : Int32 × Fn).2) else some (v, f ((r, m2) : Int32 × Fn).2)) = some (v, f m2) := by
  by_cases h : r = 0
  · exact if_pos h
  · exact if_neg h
theorem remove_call {x : ClC} {o : MdC} (hR : Rel x o) (p0 : Int32) : Ans [(3, 1)] x (f_X5_remove p0 x) (f_X6_remove p0 o) := by
  obtain ⟨a, h, len, cd, ho, hc, hm, hh, ht⟩ := hR
  unfold f_X5_remove f_X6_remove f_X6_remove_17
  obtain ⟨z, z1, z2, z3⟩ := why ho hc.1 hm p0
  rw [z1, z2, Option.bind_some, Option.bind_some]
  by_cases hz : z = 0
  · obtain ⟨q, q1, q2, q3⟩ := z3 hz
    obtain ⟨h2, x2, r2, s1, s2, s3⟩ := save (o := (0, o.2)) ho hc hm hh
    obtain ⟨y, d1, d2⟩ := w_drop ho hc q1 q2
    obtain ⟨r, m2, e1, e2, -⟩ := m_removes ho hm q1 q2
    have hE : f_X6_entryOf (nI (aB a q)) o.2.1 = some (nI q) := m_entryAt ho hm q1 q2
    have hV : f_X6_of (nI q) 2 o.2.1 = some (nI (aV a q)) := m_val ho hm q1 q2
    rw [hz, if_pos rfl, if_pos rfl, q3, w_val ho hc.1 q1 q2, Option.bind_some, s1, Option.bind_some, d1, Option.bind_some, rf0, Option.bind_some, it0, s2, Option.bind_some]
    show Ans _ _ _ (Option.bind (f_X6_entryOf (nI (aB a q)) o.2.1) fun z4 => Option.bind (f_X6_of z4 2 o.2.1) fun z5 => Option.bind (f_X6_removes z4 o.2.1) fun z6 => if z6.1 = 0 then some (z5, ((0 : Int32), z6.2, o.2.2.1, r2, nI h2, o.2.2.2.2.2)) else some (z5, ((0 : Int32), z6.2, o.2.2.1, r2, nI h2, o.2.2.2.2.2)))
    rw [hE, Option.bind_some, hV, Option.bind_some, e1, Option.bind_some, rm_tail (f := fun z => ((0 : Int32), z, o.2.2.1, r2, nI h2, o.2.2.2.2.2))]
    exact Or.inl ⟨_, _, _, rfl, rfl, rfl, _, h2, len, cd, aRem.ok ho q1, d2, e2, s3, ht⟩
  · rw [if_neg hz, if_neg hz, rf1, Option.bind_some, it1]
    exact Or.inr ⟨3, 1, 0, (1, o.2), rfl, by decide, rfl, rfl, a, h, len, cd, ho, hc, hm, hh, ht⟩
theorem w_valok (p : Int32) : ∃ r, f_X5_isValue p = some r ∧ f_X6_in p 0 999 = some r ∧ (r = 0 ∨ r = 1 ∧ ∃ v : Nat, p = nI v ∧ v ≤ 999) := by
  unfold f_X5_isValue f_X6_in
  by_cases h1 : p < 0
  · rw [if_pos h1]; exact ⟨0, rfl, rfl, Or.inl rfl⟩
  · by_cases h2 : 999 < p
    · rw [if_neg h1, if_pos h2]; exact ⟨0, rfl, rfl, Or.inl rfl⟩
    · rw [if_neg h1, if_neg h2]
      obtain ⟨v, v1, v2⟩ := nI_of h1
      subst v2
      exact ⟨1, rfl, rfl, Or.inr ⟨rfl, v, rfl, Nat.not_lt.mp fun h => h2 (nI_lt h v1)⟩⟩
theorem change_call {x : ClC} {o : MdC} (hR : Rel x o) (p0 p1 : Int32) : Ans [(3, 1), (1, 2)] x (f_X5_change p0 p1 x) (f_X6_change p0 p1 o) := by
  obtain ⟨a, h, len, cd, ho, hc, hm, hh, ht⟩ := hR
  have hN := ho.2.1
  unfold f_X5_change f_X6_change f_X6_change_32
  obtain ⟨z, z1, z2, z3⟩ := why ho hc.1 hm p0
  rw [z1, z2, Option.bind_some, Option.bind_some]
  by_cases hz : z = 0
  · obtain ⟨q, q1, q2, q3⟩ := z3 hz
    obtain ⟨r, n1, n2, n3⟩ := w_valok p1
    rw [hz, if_pos rfl, if_pos rfl, n1, n2, Option.bind_some, Option.bind_some]
    rcases n3 with n3 | ⟨n3, v, rfl, v1⟩
    · rw [n3, if_pos rfl, if_pos rfl, rf2, Option.bind_some, it1]
      exact Or.inr ⟨1, 2, 0, (2, o.2), rfl, by decide, rfl, rfl, a, h, len, cd, ho, hc, hm, hh, ht⟩
    · obtain ⟨h2, x2, r2, s1, s2, s3⟩ := save (o := (0, o.2)) ho hc hm hh
      obtain ⟨y, d1, d2⟩ := w_setValue (v := v) ho hc.1 q1 q2
      have e2 := m_setV (v := v) ho hm q1 q2
      have hE : f_X6_entryOf (nI (aB a q)) o.2.1 = some (nI q) := m_entryAt ho hm q1 q2
      have hV := (hm.2.2.2.2.1 q q1).2.2.1
      rw [if_neg (by omega)] at hV
      have e4 : (70 + (5 * nI q)) + 2 = nI (70 + 5 * q + 2) := by rw [li70, li5, nI_mul, nI_add, li2, nI_add]
      rw [n3, if_neg (by decide), if_neg (by decide), q3, w_val ho hc.1 q1 q2, Option.bind_some, s1, Option.bind_some, d1, Option.bind_some, rf0, Option.bind_some, it0, s2, Option.bind_some]
      show Ans _ _ _ (Option.bind (f_X6_entryOf (nI (aB a q)) o.2.1) fun z5 => gi ((70 + (5 * z5)) + 2) 414 <| gi ((70 + (5 * z5)) + 2) 414 <| some (o.2.1 ((70 + (5 * z5)) + 2).toNatClampNeg, ((0 : Int32), (upd o.2.1 ((70 + (5 * z5)) + 2).toNatClampNeg (nI v)), o.2.2.1, r2, nI h2, o.2.2.2.2.2)))
      rw [hE, Option.bind_some, e4, gi_in (by omega) (by decide), gi_in (by omega) (by decide), nI_clamp (by omega), hV]
      exact Or.inl ⟨_, _, _, rfl, rfl, rfl, _, h2, len, cd, aSv.ok ho v1, ⟨d2, hc.2⟩, e2, s3, ht⟩
  · rw [if_neg hz, if_neg hz, rf1, Option.bind_some, it1]
    exact Or.inr ⟨3, 1, 0, (1, o.2), rfl, by decide, rfl, rfl, a, h, len, cd, ho, hc, hm, hh, ht⟩
theorem wk (p : Int32) : (f_X5_isWalker p = some 0 ∧ f_X6_isWalker p = some 0) ∨ ∃ i, i < 4 ∧ p = nI i ∧ f_X5_isWalker p = some 1 ∧ f_X6_isWalker p = some 1 := by
  rcases nI_neg_or p with h1 | ⟨k, k1, rfl⟩
  · left
    unfold f_X5_isWalker f_X6_isWalker f_X6_in
    rw [if_pos h1, if_pos h1]
    exact ⟨rfl, rfl⟩
  · unfold f_X6_isWalker
    rw [li0, show (3 : Int32) = nI 3 from rfl]
    by_cases h2 : k < 4
    · right
      rw [w_isWalker h2, m_in1 k1 (by omega) (by omega) (by omega)]
      exact ⟨k, h2, rfl, rfl, rfl⟩
    · left
      rw [m_in0 k1 (by omega) (by omega) (by omega)]
      refine ⟨?_, rfl⟩
      unfold f_X5_isWalker
      rw [if_neg (nI_pos k1), li4, if_pos (nI_le (by omega) k1)]
      rfl
theorem aGo.s {a : AbT} {x : SlC} (ho : aOk a) (hv : sV a x) {i t : Nat} (hi : i < 4) : sV (aGo a i t) x := by
  have h0 := ho.2.2.2.2.2.1 i hi
  unfold aGo
  by_cases h1 : 2 ≤ aP a i ∧ aW a (aP a i - 2) = 0 ∧ aOn (aSet a i t) (aP a i - 2) = 0
  · rw [if_pos h1]
    exact aDel.s (a := aSet a i t) (show aP a i - 2 < aN a by omega) h1.2.1 hv
  · rw [if_neg h1]
    exact hv
theorem aGo.T {a : AbT} {i t : Nat} : aT (aGo a i t) = aT a := by
  unfold aGo
  by_cases h1 : 2 ≤ aP a i ∧ aW a (aP a i - 2) = 0 ∧ aOn (aSet a i t) (aP a i - 2) = 0
  · rw [if_pos h1]; rfl
  · rw [if_neg h1]; rfl
theorem aGo.c {a : AbT} {x : StC} {y : RwC} (ho : aOk a) (hc : cV a x) {i t : Nat} (hi : i < 4) (hr : rV (aGo a i t) y) : cV (aGo a i t) (x.1, y, x.2.2) :=
  ⟨aGo.s ho hc.1 hi, hr, by rw [aGo.T]; exact hc.2.2⟩
theorem restart_call {x : ClC} {o : MdC} (hR : Rel x o) (p0 : Int32) : Ans [(3, 1)] x (f_X5_restart p0 x) (f_X6_restart p0 o) := by
  obtain ⟨a, h, len, cd, ho, hc, hm, hh, ht⟩ := hR
  unfold f_X5_restart f_X6_restart f_X6_restart_13
  rcases wk p0 with ⟨w1, w2⟩ | ⟨i, i1, rfl, w1, w2⟩
  · rw [w1, w2, Option.bind_some, Option.bind_some, if_pos rfl, if_pos rfl, rf1, Option.bind_some, it1]
    exact Or.inr ⟨3, 1, 0, (1, o.2), rfl, by decide, rfl, rfl, a, h, len, cd, ho, hc, hm, hh, ht⟩
  · obtain ⟨h2, x2, r2, s1, s2, s3⟩ := save (o := (0, o.2)) ho hc hm hh
    obtain ⟨y, d1, d2⟩ := w_send (t := 0) ho hc.2.1 i1 (by omega)
    obtain ⟨m2, e1, e2⟩ := m_walks (t := 0) ho hm i1 (by omega)
    have hS : f_X6_stands (nI i) o.2.1 = some (aStd a i) := m_stands ho hm i1
    have d1' : f_X1_send (nI i) (-1) x.1.2.1 = some y := d1
    have e1' : f_X6_walks (nI i) (-1) o.2.1 = some m2 := e1
    unfold f_X1_sendAhead
    rw [w1, w2, Option.bind_some, Option.bind_some, if_neg (by decide), if_neg (by decide), w_standOf ho hc.2.1 i1, Option.bind_some, s1, Option.bind_some, d1', Option.bind_some, Option.bind_some, rf0, Option.bind_some, it0, s2, Option.bind_some]
    show Ans _ _ _ (Option.bind (f_X6_stands (nI i) o.2.1) fun z4 => Option.bind (f_X6_walks (nI i) (-1) o.2.1) fun z5 => some (z4, ((0 : Int32), z5, o.2.2.1, r2, nI h2, o.2.2.2.2.2)))
    rw [hS, Option.bind_some, e1', Option.bind_some]
    exact Or.inl ⟨_, _, _, rfl, rfl, rfl, _, h2, len, cd, aGo.ok ho i1 (by omega), aGo.c ho hc i1 d2, e2, s3, ht⟩
theorem goOn_call {x : ClC} {o : MdC} (hR : Rel x o) (p0 : Int32) : Ans [(3, 1)] x (f_X5_goOn p0 x) (f_X6_goOn p0 o) := by
  obtain ⟨a, h, len, cd, ho, hc, hm, hh, ht⟩ := hR
  unfold f_X5_goOn f_X6_goOn f_X6_goOn_13
  rcases wk p0 with ⟨w1, w2⟩ | ⟨i, i1, rfl, w1, w2⟩
  · rw [w1, w2, Option.bind_some, Option.bind_some, if_pos rfl, if_pos rfl, rf1, Option.bind_some, it1]
    exact Or.inr ⟨3, 1, 0, (1, o.2), rfl, by decide, rfl, rfl, a, h, len, cd, ho, hc, hm, hh, ht⟩
  · obtain ⟨h2, x2, r2, s1, s2, s3⟩ := save (o := (0, o.2)) ho hc hm hh
    obtain ⟨t, y, d1, d2, d3, d4⟩ := w_sendOn ho hc.2.1 i1
    obtain ⟨m2, e1, e2⟩ := m_walks (t := t) ho hm i1 d2
    have ho2 := aGo.ok (t := t) ho i1 d2
    have hc2 := aGo.c (t := t) ho hc i1 d3
    have hU := w_under ho2 hc2 i1
    have hM := m_under (x := ((0 : Int32), m2, o.2.2.1, r2, nI h2, o.2.2.2.2.2)) ho2 e2 i1
    have e5 : (410 : Int32) + nI i = nI (410 + i) := by rw [li410, nI_add]
    have hNx : f_X6_nextThing (o.2.1 (410 + i)) o.2.1 = some (pM t) := d4 o.2.1 hm
    obtain ⟨u, u1, u2⟩ := bd_s hU
    have u1' : f_X1_thingUnder (nI i) y = some u := u1
    have u2' : f_X2_handleOf u x.1.1 = some (aUnd (aGo a i t) i) := u2
    rw [w1, w2, Option.bind_some, Option.bind_some, if_neg (by decide), if_neg (by decide), s1, Option.bind_some, d1, Option.bind_some, u1', Option.bind_some, u2', Option.bind_some, rf0, Option.bind_some, it0, s2, Option.bind_some]
    show Ans _ _ _ (gi (410 + nI i) 414 <| Option.bind (f_X6_nextThing (o.2.1 (410 + nI i).toNatClampNeg) o.2.1) fun z4 => Option.bind (f_X6_walks (nI i) z4 o.2.1) fun z5 => Option.bind (f_X6_underHandle (nI i) ((0 : Int32), z5, o.2.2.1, r2, nI h2, o.2.2.2.2.2)) fun z6 => some (z6, ((0 : Int32), z5, o.2.2.1, r2, nI h2, o.2.2.2.2.2)))
    rw [e5, gi_in (by omega) (by decide), nI_clamp (by omega), hNx, Option.bind_some, e1, Option.bind_some, hM, Option.bind_some]
    exact Or.inl ⟨_, _, _, rfl, rfl, rfl, _, h2, len, cd, ho2, hc2, e2, s3, ht⟩
theorem take_call {x : ClC} {o : MdC} (hR : Rel x o) (p0 : Int32) : Ans [(3, 1), (2, 2)] x (f_X5_take p0 x) (f_X6_take p0 o) := by
  obtain ⟨a, h, len, cd, ho, hc, hm, hh, ht⟩ := hR
  have hC := aOk.C a ho
  unfold f_X5_take f_X6_take f_X6_take_29
  rcases wk p0 with ⟨w1, w2⟩ | ⟨i, i1, rfl, w1, w2⟩
  · rw [w1, w2, Option.bind_some, Option.bind_some, if_pos rfl, if_pos rfl, rf1, Option.bind_some, it1]
    exact Or.inr ⟨3, 1, 0, (1, o.2), rfl, by decide, rfl, rfl, a, h, len, cd, ho, hc, hm, hh, ht⟩
  · have h0 := ho.2.2.2.2.2.1 i i1
    have hS : f_X6_stands (nI i) o.2.1 = some (aStd a i) := m_stands ho hm i1
    rw [w1, w2, Option.bind_some, Option.bind_some, if_neg (by decide), if_neg (by decide), w_thingUnder ho hc.2.1 i1, Option.bind_some, hS, Option.bind_some]
    by_cases h1 : 2 ≤ aP a i ∧ ¬ aW a (aP a i - 2) = 0
    · obtain ⟨q, hq⟩ : ∃ q, q = aP a i - 2 := ⟨_, rfl⟩
      have h9 := ho.2.2.1 q (by omega) (by rw [hq]; omega)
      have hst : aStd a i = 1 := by unfold aStd; rw [if_neg (by omega), if_neg (by omega), if_neg h1.2]
      obtain ⟨h2, x2, r2, s1, s2, s3⟩ := save (o := (0, o.2)) ho hc hm hh
      have q1 : q < aN a := by omega
      have q2 : 0 < aW a q := by rw [hq]; omega
      obtain ⟨y, d1, d2⟩ := w_drop ho hc q1 q2
      obtain ⟨r, m2, e1, e2, -⟩ := m_removes ho hm q1 q2
      have hV : f_X6_of (nI q) 2 o.2.1 = some (nI (aV a q)) := m_val ho hm q1 q2
      have e5 : (410 : Int32) + nI i = nI (410 + i) := by rw [li410, nI_add]
      have hw : o.2.1 (410 + i) = nI q := by
        have := hm.2.2.2.2.2 i i1
        rw [this, pM_at2 h1.1, hq]
      rw [if_pos h1, hst, ← hq, if_neg (nI_m1 (by omega)), w_val ho hc.1 q1 q2, Option.bind_some, s1, Option.bind_some, d1, Option.bind_some, if_pos rfl, rf0, Option.bind_some, it0, s2, Option.bind_some]
      show Ans _ _ _ (gi (410 + nI i) 414 <| Option.bind (f_X6_of (o.2.1 (410 + nI i).toNatClampNeg) 2 o.2.1) fun z5 => Option.bind (f_X6_removes (o.2.1 (410 + nI i).toNatClampNeg) o.2.1) fun z6 => if z6.1 = 0 then some (z5, ((0 : Int32), z6.2, o.2.2.1, r2, nI h2, o.2.2.2.2.2)) else some (z5, ((0 : Int32), z6.2, o.2.2.1, r2, nI h2, o.2.2.2.2.2)))
      rw [e5, gi_in (by omega) (by decide), nI_clamp (by omega), hw, hV, Option.bind_some, e1, Option.bind_some, rm_tail (f := fun z => ((0 : Int32), z, o.2.2.1, r2, nI h2, o.2.2.2.2.2))]
      exact Or.inl ⟨_, _, _, rfl, rfl, rfl, _, h2, len, cd, aRem.ok ho q1, d2, e2, s3, ht⟩
    · have hst : ¬ aStd a i = 1 := by
        unfold aStd
        by_cases g1 : aP a i = 0
        · rw [if_pos g1]; decide
        · by_cases g2 : aP a i = 1
          · rw [if_neg g1, if_pos g2]; decide
          · rw [if_neg g1, if_neg g2, if_pos (Classical.byContradiction fun g3 => h1 ⟨by omega, g3⟩)]; decide
      rw [if_neg h1, if_pos rfl, if_neg hst, rf2, Option.bind_some, it1]
      exact Or.inr ⟨2, 2, 0, (2, o.2), rfl, by decide, rfl, rfl, a, h, len, cd, ho, hc, hm, hh, ht⟩
