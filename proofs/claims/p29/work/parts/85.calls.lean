/-! The calls, both sides: things and walkers. -/
def Rel (x : ClC) (o : MdC) : Prop := ∃ a h len cd, aOk a ∧ cV a x.1 ∧ mV a o.2.1 ∧ hV h x.2.2.1 o.2.2.2.2.1 o.2.2.2.1 ∧ tV len cd x.2.2.2 o
/-- one call that may throw and may change: the class answers as the model -/
def Ans (cs : List (Nat × Int32)) (x : ClC) (cl : Option (Nat ⊕ (Int32 × ClC))) (md : Option (Int32 × MdC)) : Prop := (∃ r x2 o2, cl = some (.inr (r, x2)) ∧ md = some (r, o2) ∧ o2.1 = 0 ∧ Rel x2 o2) ∨ ∃ n c r o2, cl = some (.inl n) ∧ (n, c) ∈ cs ∧ md = some (r, o2) ∧ o2.1 = c ∧ Rel x o2
/-- .. that only looks -/
def AnL (cs : List (Nat × Int32)) (x : ClC) (cl : Option (Nat ⊕ Int32)) (md : Option (Int32 × MdC)) : Prop := (∃ r o2, cl = some (.inr r) ∧ md = some (r, o2) ∧ o2.1 = 0 ∧ Rel x o2) ∨ ∃ n c r o2, cl = some (.inl n) ∧ (n, c) ∈ cs ∧ md = some (r, o2) ∧ o2.1 = c ∧ Rel x o2
theorem rf0 {o : MdC} : f_X6_refuses 0 o = some (0, (0, o.2)) := by unfold f_X6_refuses; rw [if_pos (by decide)]
theorem rf1 {o : MdC} : f_X6_refuses 1 o = some (1, (1, o.2)) := by unfold f_X6_refuses; rw [if_neg (by decide)]
theorem rf2 {o : MdC} : f_X6_refuses 2 o = some (1, (2, o.2)) := by unfold f_X6_refuses; rw [if_neg (by decide)]
theorem rf3 {o : MdC} : f_X6_refuses 3 o = some (1, (3, o.2)) := by unfold f_X6_refuses; rw [if_neg (by decide)]
theorem nI_neg_or (p : Int32) : p < 0 ∨ ∃ k, k < 2 ^ 31 ∧ p = nI k := by
  by_cases h1 : p < 0
  · exact Or.inl h1
  · obtain ⟨k, k1, k2⟩ := nI_of h1
    exact Or.inr ⟨k, k1, k2.symm ▸ rfl⟩
theorem m_entryAt {a : AbT} {m : Fn} (ho : aOk a) (hm : mV a m) {q : Nat} (hq : q < aN a) (hw : 0 < aW a q) : f_X6_entryOf (nI (aB a q)) m = some (nI q) := by
  have hC := aOk.C a ho
  have h9 := ho.2.2.1 q hq hw
  obtain ⟨r, h1, h2⟩ := m_entryOf ho hm (c := aB a q) (by omega)
  rcases h2 with ⟨j, g1, g2, g3⟩ | ⟨g1, g2⟩
  · rw [h1, g3, ho.2.2.2.1 j q (aB a q) g1 hq g2 (by unfold aCov; omega)]
  · exact absurd (show aCov a q (aB a q) by unfold aCov; omega) (g1 q hq)
/-- why a handle is refused, both sides -/
theorem why {a : AbT} {x : SlC} {m : Fn} (ho : aOk a) (hv : sV a x) (hm : mV a m) (p : Int32) : ∃ r, f_X2_whyRefused p x = some r ∧ f_X6_whyNot p m = some r ∧ (r = 0 → ∃ q, q < aN a ∧ 0 < aW a q ∧ p / 1000 = nI (aB a q)) := by
  rcases nI_neg_or p with h1 | ⟨k, k1, rfl⟩
  · unfold f_X2_whyRefused f_X6_whyNot
    rw [if_pos h1, if_pos h1]
    exact ⟨1, rfl, rfl, fun h => absurd h (by decide)⟩
  · obtain ⟨r, g1, g2⟩ := w_whyRefused ho hv k1
    obtain ⟨s, e1, e2⟩ := m_whyNot ho hm k1
    refine ⟨r, g1, by rw [e1, aWhy.det e2 g2], fun h => ?_⟩
    rcases g2 with ⟨q1, q2, q3, q, q4, q5, q6⟩ | ⟨q1, -⟩ | ⟨q1, -⟩ | ⟨q1, -⟩
    · exact ⟨q, q4, q5, by rw [li1000, nI_div k1 (by omega), q6]⟩
    · rw [q1] at h; exact absurd h (by decide)
    · rw [q1] at h; exact absurd h (by decide)
    · rw [q1] at h; exact absurd h (by decide)
theorem handles {a : AbT} {x : SlC} {m : Fn} {b : Nat} (ho : aOk a) (hv : sV a x) (hm : mV a m) (hb : b < aC a) : ∃ r, f_X2_handleOf (nI b) x = some r ∧ (gi (6 + nI b) 414 <| some ((1000 * nI b) + (m (6 + nI b).toNatClampNeg))) = some r := by
  have hC := aOk.C a ho
  refine ⟨nI (1000 * b + aS a b), ?_, ?_⟩
  · rw [w_handleOf ho hv (by omega), if_pos hb]
  · rw [li6, nI_add, gi_in (by omega) (by decide), nI_clamp (by omega), hm.2.2.2.1 b (by omega), li1000, nI_mul, nI_add]
theorem gi_map {α β : Type} {i : Int32} {n : Nat} {v : α} {f : α → β} {r : α} (hq : gi i n (some v) = some r) : gi i n (some (f v)) = some (f r) := by
  obtain ⟨h1, h2⟩ := gi_s hq
  cases h2
  unfold gi
  exact if_pos h1
theorem put_call {x : ClC} {o : MdC} (hR : Rel x o) (p0 p1 p2 : Int32) : Ans [(1, 1), (2, 2)] x (f_X5_put p0 p1 p2 x) (f_X6_put p0 p1 p2 o) := by
  obtain ⟨a, h, len, cd, ho, hc, hm, hh, ht⟩ := hR
  unfold f_X5_put f_X6_put f_X6_put_31
  obtain ⟨r, n1, n2, n3⟩ := w_new (p0 := p0) (p1 := p1) (p2 := p2)
  rw [n1, n3, Option.bind_some, Option.bind_some]
  rcases n2 with n2 | ⟨n2, v, w, k, e0, e1, e2, v1, w1, w2, k1⟩
  · rw [n2, if_pos rfl, if_pos rfl, rf1, Option.bind_some, it1]
    exact Or.inr ⟨1, 1, 0, (1, o.2), rfl, by decide, rfl, rfl, a, h, len, cd, ho, hc, hm, hh, ht⟩
  · subst e0; subst e1; subst e2
    obtain ⟨low, l1, l2⟩ := w_lowestFor ho hc.1 (w := w) w1 (by omega)
    obtain ⟨low2, l3, l4⟩ := w_addLast ho hc (v := v) (w := w) (k := k) v1 w1 w2 k1
    have l5 := l3.det l2
    subst l5
    rw [n2, if_neg (by decide), if_neg (by decide), l1, Option.bind_some]
    rcases m_cellsFor ho hm w1 (by omega) l2 with ⟨b, b1, b2, b3, b4, b5, b6⟩ | ⟨b1, b2, b3⟩
    · rw [b5, Option.bind_some, b1, if_neg (nI_m1 (by omega)), if_neg (nI_m1 (by have := aGr.ok ho b2; omega)), rf0, Option.bind_some, it0]
      obtain ⟨h2, x2, q2, s1, s2, s3⟩ := save (o := (0, o.2)) ho hc hm hh
      have i1 : ∀ (kk : Option (Int32 × MdC)), gi 1 414 kk = kk := fun kk => gi_in (c := 1) (by omega) (by decide)
      have c1 : (1 : Int32).toNatClampNeg = 1 := by decide
      rw [s1, s2, Option.bind_some, Option.bind_some, i1, c1]
      rcases l4 with ⟨l6, -⟩ | ⟨b9, y, l6, l7, l8, l9, l10, l11⟩
      · rw [b1] at l6; exact absurd l6 (nI_m1 (by omega))
      · have hb : b9 = b := by
          rw [b1] at l6
          exact ((nI_eq (by omega) (by omega)).mp l6).symm
        subst hb
        obtain ⟨m2, t1, t2⟩ := (m_comes ho hm (p := aN a) (v := v) (k := k) (Nat.le_refl _) w1 w2 l2).2 b9 b1 b2
        have ho2 := aPut.ok ho (p := aN a) (Nat.le_refl _) v1 w1 w2 k1 l7 l8
        have hg := aGr.ok ho l7
        obtain ⟨r, g1, g2⟩ := handles (b := b9) ho2 l11.1 t2 (show b9 < aGr (aC a) (b9 + w) by omega)
        have hN1 : o.2.1 1 = nI (aN a) := hm.2.1
        show Ans _ _ (Option.bind (f_X3_addAt x.1.2.1.1 (nI v) (nI w) (nI k) x.1) fun z5 => Option.bind (f_X2_handleOf z5.1 z5.2.1) fun z6 => some (Sum.inr (z6, z5.2, x.2.1, x2, x.2.2.2))) (Option.bind (f_X6_comes (o.2.1 1) (nI v) (nI w) (nI k) o.2.1) fun z5 => gi (6 + z5.1) 414 <| some ((1000 * z5.1) + (z5.2 (6 + z5.1).toNatClampNeg), ((0 : Int32), z5.2, o.2.2.1, q2, nI h2, o.2.2.2.2.2)))
        rw [l9, hN1, t1, Option.bind_some, Option.bind_some, g1, Option.bind_some]
        exact Or.inl ⟨r, _, _, rfl, gi_map (f := fun v => (v, ((0 : Int32), m2, o.2.2.1, q2, nI h2, o.2.2.2.2.2))) g2, rfl, _, h2, len, cd, ho2, l11, t2, s3, ht⟩
    · rw [b3, Option.bind_some, b1, if_pos rfl, if_pos rfl, rf2, Option.bind_some, it1]
      exact Or.inr ⟨2, 2, 0, (2, o.2), rfl, by decide, rfl, rfl, a, h, len, cd, ho, hc, hm, hh, ht⟩
