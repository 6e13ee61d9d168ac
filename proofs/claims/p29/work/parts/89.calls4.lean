/-! The calls: looks, and what would be. -/
theorem rng (p : Int32) {hi : Nat} (hh : hi < 2 ^ 31) : (∃ k, k ≤ hi ∧ p = nI k ∧ f_X6_in p 0 (nI hi) = some 1) ∨ (f_X6_in p 0 (nI hi) = some 0 ∧ (p < 0 ∨ ∃ k, k < 2 ^ 31 ∧ p = nI k ∧ hi < k) ∧ ∀ k, k ≤ hi → ¬ p = nI k) := by
  rcases nI_neg_or p with h1 | ⟨k, k1, rfl⟩
  · refine Or.inr ⟨by unfold f_X6_in; rw [if_pos h1], Or.inl h1, fun k hk he => ?_⟩
    rw [he] at h1
    exact nI_pos (by omega) h1
  · rw [li0]
    by_cases h2 : k ≤ hi
    · exact Or.inl ⟨k, h2, rfl, m_in1 k1 (by omega) hh (by omega)⟩
    · exact Or.inr ⟨m_in0 k1 (by omega) hh (by omega), Or.inr ⟨k, k1, rfl, by omega⟩, fun j hj he => by have := (nI_eq k1 (by omega)).mp he; omega⟩
theorem thing_call {x : ClC} {o : MdC} (hR : Rel x o) (p0 p1 : Int32) : AnL [(3, 1), (1, 2)] x (f_X5_thing p0 p1 x) (f_X6_thing p0 p1 o) := by
  obtain ⟨a, h, len, cd, ho, hc, hm, hh, ht⟩ := hR
  obtain ⟨z, z1, z2, z3⟩ := why ho hc.1 hm p0
  unfold f_X6_thing f_X6_thing_30
  rw [z2, Option.bind_some]
  by_cases hz : z = 0
  · obtain ⟨q, q1, q2, q3⟩ := z3 hz
    rw [hz] at z1 ⊢
    rw [if_pos rfl]
    rcases rng p1 (hi := 5) (by omega) with ⟨k, k1, rfl, k2⟩ | ⟨k2, -, k3⟩
    · obtain ⟨r, r1, r2⟩ := thing_v (o := (0, o.2)) ho hc hm q1 q2 z1 q3 (k := k) (by omega)
      have hE : f_X6_entryOf (nI (aB a q)) o.2.1 = some (nI q) := m_entryAt ho hm q1 q2
      rw [show f_X6_in (nI k) 0 5 = some 1 from k2, Option.bind_some, if_neg (by decide), rf0, Option.bind_some, it0, q3]
      show AnL _ _ _ (Option.bind (f_X6_entryOf (nI (aB a q)) o.2.1) fun z4 => Option.bind (f_X6_ofThing z4 (nI k) (0, o.2)) fun z5 => some (z5, ((0 : Int32), o.2)))
      rw [hE, Option.bind_some, r2, Option.bind_some]
      exact Or.inl ⟨r, _, r1, rfl, rfl, a, h, len, cd, ho, hc, hm, hh, ht⟩
    · unfold f_X5_thing
      rw [show f_X6_in p1 0 5 = some 0 from k2, z1, Option.bind_some, Option.bind_some, if_pos rfl, if_pos rfl, if_neg (show ¬ p1 = 0 from k3 0 (by omega)), if_neg (show ¬ p1 = 1 from k3 1 (by omega)), if_neg (show ¬ p1 = 2 from k3 2 (by omega)), if_neg (show ¬ p1 = 3 from k3 3 (by omega)), if_neg (show ¬ p1 = 4 from k3 4 (by omega)), if_neg (show ¬ p1 = 5 from k3 5 (by omega)), rf2, Option.bind_some, it1]
      exact Or.inr ⟨1, 2, 0, (2, o.2), rfl, by decide, rfl, rfl, a, h, len, cd, ho, hc, hm, hh, ht⟩
  · unfold f_X5_thing
    rw [z1, Option.bind_some, if_neg hz, if_neg hz, rf1, Option.bind_some, it1]
    exact Or.inr ⟨3, 1, 0, (1, o.2), rfl, by decide, rfl, rfl, a, h, len, cd, ho, hc, hm, hh, ht⟩
theorem at_call {x : ClC} {o : MdC} (hR : Rel x o) (p0 : Int32) : AnL [(1, 1)] x (f_X5_at p0 x) (f_X6_at p0 o) := by
  obtain ⟨a, h, len, cd, ho, hc, hm, hh, ht⟩ := hR
  unfold f_X6_at f_X6_at_10
  rcases nI_neg_or p0 with h1 | ⟨k, k1, rfl⟩
  · have h2 : ¬ 0 ≤ p0 := fun h3 => by
      rw [Int32.lt_iff_toInt_lt] at h1
      rw [Int32.le_iff_toInt_le] at h3
      omega
    unfold f_X5_at
    rw [if_neg h2, if_neg h2, rf1, Option.bind_some, it1]
    exact Or.inr ⟨1, 1, 0, (1, o.2), rfl, by decide, rfl, rfl, a, h, len, cd, ho, hc, hm, hh, ht⟩
  · obtain ⟨r, r1, r2⟩ := w_at ho hc k1
    obtain ⟨s, s1, s2⟩ := m_at (o := (0, o.2)) ho hm k1
    rw [r1, if_pos (nI_pos' k1), rf0, Option.bind_some, it0]
    show AnL _ _ _ (f_X6_at_20 FU (nI k) 0 (0, o.2))
    rw [s1, s2.det r2]
    exact Or.inl ⟨r, _, rfl, rfl, rfl, a, h, len, cd, ho, hc, hm, hh, ht⟩
theorem cell_call {x : ClC} {o : MdC} (hR : Rel x o) (p0 p1 : Int32) : AnL [(3, 1), (1, 2)] x (f_X5_cell p0 p1 x) (f_X6_cell p0 p1 o) := by
  obtain ⟨a, h, len, cd, ho, hc, hm, hh, ht⟩ := hR
  have hC := aOk.C a ho
  have i0 : ∀ (kk : Option (Int32 × MdC)), gi 0 414 kk = kk := fun kk => gi_in (c := 0) (by omega) (by decide)
  have c0 : (0 : Int32).toNatClampNeg = 0 := by decide
  unfold f_X6_cell f_X6_cell_35
  rw [i0, c0, hm.1, show nI (aC a) - 1 = nI (aC a - 1) by rw [li1, nI_sub (by omega)]]
  rcases rng p0 (hi := aC a - 1) (by omega) with ⟨c, k1, rfl, k2⟩ | ⟨k2, k3, -⟩
  · rw [k2, Option.bind_some, if_neg (by decide)]
    rcases rng p1 (hi := 1) (by omega) with ⟨k, j1, rfl, j2⟩ | ⟨j2, -, j3⟩
    · rw [show f_X6_in (nI k) 0 1 = some 1 from j2, Option.bind_some, if_neg (by decide), rf0, Option.bind_some, it0]
      rcases (show k = 0 ∨ k = 1 by omega) with r | r <;> subst r
      · have hv := cell0_v (c := c) (o := (0, o.2)) ho hc hm (by omega)
        rw [if_pos (show nI 0 = 0 from rfl)]
        show AnL _ _ (f_X5_cell (nI c) 0 x) _
        rw [hv.1]
        exact Or.inl ⟨_, _, rfl, hv.2 (fun v => some (v, ((0 : Int32), o.2))), rfl, a, h, len, cd, ho, hc, hm, hh, ht⟩
      · obtain ⟨r, r1, r2⟩ := cell1_v (c := c) (o := (0, o.2)) ho hc hm (by omega)
        rw [if_neg (by decide), r2, Option.bind_some]
        show AnL _ _ (f_X5_cell (nI c) 1 x) _
        rw [r1]
        exact Or.inl ⟨_, _, rfl, rfl, rfl, a, h, len, cd, ho, hc, hm, hh, ht⟩
    · unfold f_X5_cell
      rw [show f_X6_in p1 0 1 = some 0 from j2, c_isCell1 (c := c) hc.1.1 (by omega) (by omega), Option.bind_some, Option.bind_some, if_neg (show ¬ (1 : Int32) = 0 by decide), if_neg (show ¬ p1 = 0 from j3 0 (by omega)), if_neg (show ¬ p1 = 1 from j3 1 (by omega)), if_pos rfl, rf2, Option.bind_some, it1]
      exact Or.inr ⟨1, 2, 0, (2, o.2), rfl, by decide, rfl, rfl, a, h, len, cd, ho, hc, hm, hh, ht⟩
  · have hn : f_X2_isCell p0 x.1.1 = some 0 := by
      rcases k3 with k3 | ⟨k, k4, rfl, k5⟩
      · exact w_isCell_neg k3
      · rw [w_isCell ho hc.1 k4, if_neg (by omega)]
    unfold f_X5_cell
    rw [k2, hn, Option.bind_some, Option.bind_some, if_pos rfl, if_pos rfl, rf1, Option.bind_some, it1]
    exact Or.inr ⟨3, 1, 0, (1, o.2), rfl, by decide, rfl, rfl, a, h, len, cd, ho, hc, hm, hh, ht⟩
theorem walker_call {x : ClC} {o : MdC} (hR : Rel x o) (p0 p1 : Int32) : AnL [(3, 1), (1, 2)] x (f_X5_walker p0 p1 x) (f_X6_walker p0 p1 o) := by
  obtain ⟨a, h, len, cd, ho, hc, hm, hh, ht⟩ := hR
  unfold f_X6_walker f_X6_walker_26
  rcases wk p0 with ⟨w1, w2⟩ | ⟨i, i1, rfl, w1, w2⟩
  · unfold f_X5_walker
    rw [w1, w2, Option.bind_some, Option.bind_some, if_pos rfl, if_pos rfl, rf1, Option.bind_some, it1]
    exact Or.inr ⟨3, 1, 0, (1, o.2), rfl, by decide, rfl, rfl, a, h, len, cd, ho, hc, hm, hh, ht⟩
  · rw [w2, Option.bind_some, if_neg (by decide)]
    rcases rng p1 (hi := 2) (by omega) with ⟨k, j1, rfl, j2⟩ | ⟨j2, -, j3⟩
    · obtain ⟨r, r1, r2⟩ := walker_v (k := k) (o := (0, o.2)) ho hc hm i1 (by omega)
      rw [show f_X6_in (nI k) 0 2 = some 1 from j2, Option.bind_some, if_neg (by decide), rf0, Option.bind_some, it0]
      show AnL _ _ _ (Option.bind (f_X6_ofWalker (nI i) (nI k) (0, o.2)) fun z4 => some (z4, ((0 : Int32), o.2)))
      rw [r2, Option.bind_some, r1]
      exact Or.inl ⟨_, _, rfl, rfl, rfl, a, h, len, cd, ho, hc, hm, hh, ht⟩
    · unfold f_X5_walker
      rw [w1, show f_X6_in p1 0 2 = some 0 from j2, Option.bind_some, Option.bind_some, if_neg (show ¬ (1 : Int32) = 0 by decide), if_neg (show ¬ p1 = 0 from j3 0 (by omega)), if_neg (show ¬ p1 = 1 from j3 1 (by omega)), if_neg (show ¬ p1 = 2 from j3 2 (by omega)), if_pos rfl, rf2, Option.bind_some, it1]
      exact Or.inr ⟨1, 2, 0, (2, o.2), rfl, by decide, rfl, rfl, a, h, len, cd, ho, hc, hm, hh, ht⟩
theorem count_call {x : ClC} {o : MdC} (hR : Rel x o) (p0 : Int32) : AnL [(1, 1)] x (f_X5_count p0 x) (f_X6_count p0 o) := by
  obtain ⟨a, h, len, cd, ho, hc, hm, hh, ht⟩ := hR
  unfold f_X6_count f_X6_count_16
  rcases rng p0 (hi := 9) (by omega) with ⟨k, j1, rfl, j2⟩ | ⟨j2, -, j3⟩
  · obtain ⟨r, r1, r2⟩ := count_v (k := k) (o := (0, o.2)) ho hc hm hh.2.1 hh.2.2.1 (by omega)
    rw [show f_X6_in (nI k) 0 9 = some 1 from j2, Option.bind_some, if_neg (by decide), rf0, Option.bind_some, it0]
    show AnL _ _ _ (Option.bind (f_X6_counted (nI k) (0, o.2)) fun z4 => some (z4, ((0 : Int32), o.2)))
    rw [r2, Option.bind_some, r1]
    exact Or.inl ⟨_, _, rfl, rfl, rfl, a, h, len, cd, ho, hc, hm, hh, ht⟩
  · unfold f_X5_count
    rw [show f_X6_in p0 0 9 = some 0 from j2, Option.bind_some, if_neg (show ¬ p0 = 0 from j3 0 (by omega)), if_neg (show ¬ p0 = 1 from j3 1 (by omega)), if_neg (show ¬ p0 = 2 from j3 2 (by omega)), if_neg (show ¬ p0 = 3 from j3 3 (by omega)), if_neg (show ¬ p0 = 4 from j3 4 (by omega)), if_neg (show ¬ p0 = 5 from j3 5 (by omega)), if_neg (show ¬ p0 = 6 from j3 6 (by omega)), if_neg (show ¬ p0 = 7 from j3 7 (by omega)), if_neg (show ¬ p0 = 8 from j3 8 (by omega)), if_neg (show ¬ p0 = 9 from j3 9 (by omega)), if_pos rfl, rf1, Option.bind_some, it1]
    exact Or.inr ⟨1, 1, 0, (1, o.2), rfl, by decide, rfl, rfl, a, h, len, cd, ho, hc, hm, hh, ht⟩
theorem sz (p : Int32) : (f_X5_isSize p = some 0 ∧ f_X6_in p 1 4 = some 0) ∨ ∃ w, 1 ≤ w ∧ w ≤ 4 ∧ p = nI w ∧ f_X6_in p 1 4 = some 1 := by
  unfold f_X5_isSize f_X6_in
  by_cases h1 : p < 1
  · rw [if_pos h1]; exact Or.inl ⟨rfl, rfl⟩
  · by_cases h2 : 4 < p
    · rw [if_neg h1, if_pos h2]; exact Or.inl ⟨rfl, rfl⟩
    · rw [if_neg h1, if_neg h2]
      rcases nI_neg_or p with g1 | ⟨k, k1, rfl⟩
      · exact absurd (Int32.lt_of_lt_of_le g1 (by decide)) h1
      · refine Or.inr ⟨k, Nat.not_lt.mp fun q => h1 (nI_lt (b := 1) q (by omega)), Nat.not_lt.mp fun q => h2 (nI_lt (a := 4) q k1), rfl, rfl⟩
theorem begins_call {x : ClC} {o : MdC} (hR : Rel x o) (p0 : Int32) : AnL [(1, 1)] x (f_X5_begins p0 x) (f_X6_begins p0 o) := by
  obtain ⟨a, h, len, cd, ho, hc, hm, hh, ht⟩ := hR
  unfold f_X6_begins f_X6_begins_15
  rcases sz p0 with ⟨j1, j2⟩ | ⟨w, w1, w2, rfl, j2⟩
  · unfold f_X5_begins
    rw [j1, j2, Option.bind_some, Option.bind_some, if_pos rfl, if_pos rfl, rf1, Option.bind_some, it1]
    exact Or.inr ⟨1, 1, 0, (1, o.2), rfl, by decide, rfl, rfl, a, h, len, cd, ho, hc, hm, hh, ht⟩
  · obtain ⟨r, r1, r2⟩ := begins_v (o := (0, o.2)) ho hc hm w1 w2
    rw [j2, Option.bind_some, if_neg (by decide), rf0, Option.bind_some, it0]
    show AnL _ _ _ (Option.bind (f_X6_beginsAt (nI w) (0, o.2)) fun z4 => some (z4, ((0 : Int32), o.2)))
    rw [r2, Option.bind_some, r1]
    exact Or.inl ⟨_, _, rfl, rfl, rfl, a, h, len, cd, ho, hc, hm, hh, ht⟩
theorem gap_call {x : ClC} {o : MdC} (hR : Rel x o) (p0 : Int32) : AnL [(1, 1)] x (f_X5_gap p0 x) (f_X6_gap p0 o) := by
  obtain ⟨a, h, len, cd, ho, hc, hm, hh, ht⟩ := hR
  unfold f_X6_gap f_X6_gap_15
  rcases rng p0 (hi := 1) (by omega) with ⟨k, j1, rfl, j2⟩ | ⟨j2, -, j3⟩
  · obtain ⟨r, r1, r2⟩ := gap_v (k := k) (o := (0, o.2)) ho hc hm (by omega)
    rw [show f_X6_in (nI k) 0 1 = some 1 from j2, Option.bind_some, if_neg (by decide), rf0, Option.bind_some, it0]
    show AnL _ _ _ (Option.bind (f_X6_longest (nI k) (0, o.2)) fun z4 => some (z4, ((0 : Int32), o.2)))
    rw [r2, Option.bind_some, r1]
    exact Or.inl ⟨_, _, rfl, rfl, rfl, a, h, len, cd, ho, hc, hm, hh, ht⟩
  · unfold f_X5_gap
    rw [show f_X6_in p0 0 1 = some 0 from j2, Option.bind_some, if_neg (show ¬ p0 = 0 from j3 0 (by omega)), if_neg (show ¬ p0 = 1 from j3 1 (by omega)), if_pos rfl, rf1, Option.bind_some, it1]
    exact Or.inr ⟨1, 1, 0, (1, o.2), rfl, by decide, rfl, rfl, a, h, len, cd, ho, hc, hm, hh, ht⟩
theorem room_call {x : ClC} {o : MdC} (hR : Rel x o) (p0 : Int32) {p1 : Int32} (hp : p1 = 0 ∨ p1 = 1) : AnL [(1, 1)] x (f_X5_room p0 p1 x) (f_X6_room p0 p1 o) := by
  obtain ⟨a, h, len, cd, ho, hc, hm, hh, ht⟩ := hR
  unfold f_X6_room f_X6_room_15
  rcases sz p0 with ⟨j1, j2⟩ | ⟨w, w1, w2, rfl, j2⟩
  · unfold f_X5_room
    rw [j1, j2, Option.bind_some, Option.bind_some, if_pos rfl, if_pos rfl, rf1, Option.bind_some, it1]
    exact Or.inr ⟨1, 1, 0, (1, o.2), rfl, by decide, rfl, rfl, a, h, len, cd, ho, hc, hm, hh, ht⟩
  · obtain ⟨r, r1, r2⟩ := room_v (o := (0, o.2)) ho hc hm w1 w2 hp
    rw [j2, Option.bind_some, if_neg (by decide), rf0, Option.bind_some, it0]
    show AnL _ _ _ (Option.bind (f_X6_roomFor (nI w) p1 (0, o.2)) fun z4 => some (z4, ((0 : Int32), o.2)))
    rw [r2, Option.bind_some, r1]
    exact Or.inl ⟨_, _, rfl, rfl, rfl, a, h, len, cd, ho, hc, hm, hh, ht⟩
theorem ifFired_call {x : ClC} {o : MdC} (hR : Rel x o) (p0 p1 : Int32) : Ans [(1, 1)] x (f_X5_ifFired p0 p1 x) (f_X6_ifFired p0 p1 o) := by
  obtain ⟨a, h, len, cd, ho, hc, hm, hh, ht⟩ := hR
  unfold f_X5_ifFired f_X6_ifFired f_X6_ifFired_24 f_X6_ifFired_25
  have bad : Ans [(1, 1)] x (some (.inl 1)) (Option.bind (f_X6_refuses 1 o) fun z3 => if z3.1 = 0 then Option.bind (f_X6_fired p0 p1 z3.2) fun z4 => some (z4.1, z4.2) else some (0, z3.2)) := by
    rw [rf1, Option.bind_some, it1]
    exact Or.inr ⟨1, 1, 0, (1, o.2), rfl, by decide, rfl, rfl, a, h, len, cd, ho, hc, hm, hh, ht⟩
  by_cases h1 : p0 < 1
  · rw [if_pos h1, show f_X6_in p0 1 9 = some 0 by unfold f_X6_in; rw [if_pos h1], Option.bind_some, if_pos rfl]
    exact bad
  · by_cases h2 : 9 < p0
    · rw [if_neg h1, if_pos h2, show f_X6_in p0 1 9 = some 0 by unfold f_X6_in; rw [if_neg h1, if_pos h2], Option.bind_some, if_pos rfl]
      exact bad
    · rw [if_neg h1, if_neg h2, show f_X6_in p0 1 9 = some 1 by unfold f_X6_in; rw [if_neg h1, if_neg h2], Option.bind_some, if_neg (show ¬ (1 : Int32) = 0 by decide)]
      rcases rng p1 (hi := 2) (by omega) with ⟨k, j1, rfl, j2⟩ | ⟨j2, j3, -⟩
      · rcases nI_neg_or p0 with g1 | ⟨n, k1, rfl⟩
        · exact absurd (Int32.lt_of_lt_of_le g1 (by decide)) h1
        · have n9 : n ≤ 9 := Nat.not_lt.mp fun q => h2 (nI_lt (a := 9) q k1)
          obtain ⟨r, y, a2, r1, r2, r3, r4⟩ := try_v n9 ho hc x.2.1
          obtain ⟨m2, e1, e2⟩ := r4 (0, o.2) (nI k) hm
          rw [if_neg (nI_pos (by omega)), if_pos (show nI k ≤ 2 from nI_le (b := 2) j1 (by omega)), show f_X6_in (nI k) 0 2 = some 1 from j2, Option.bind_some, if_neg (show ¬ (1 : Int32) = 0 by decide), r3 x rfl rfl, Option.bind_some, rf0, Option.bind_some, it0]
          show Ans _ _ _ (Option.bind (f_X6_fired (nI n) (nI k) (0, o.2)) fun z4 => some (z4.1, z4.2))
          rw [e2, Option.bind_some]
          refine Or.inl ⟨if nI k = 0 then r else if nI k = 1 then nI (aCnt a2 (aN a2)) else nI (aC a2), (x.1, y, x.2.2), ((0 : Int32), o.2.1, m2, o.2.2.2), ?_, rfl, rfl, a, h, len, cd, ho, hc, hm, hh, ht⟩
          by_cases k0 : nI k = 0
          · rw [if_pos k0, if_pos k0]
          · by_cases k2 : nI k = 1
            · rw [if_neg k0, if_pos k2, if_neg k0, if_pos k2]
              show (Option.bind (f_X1_things y.2.1) fun z4 => some (Sum.inr (z4, (x.1, y, x.2.2)))) = _
              rw [w_things r1 r2.2.1]
              rfl
            · rw [if_neg k0, if_neg k2, if_neg k0, if_neg k2]
              show some (Sum.inr (y.1.1, (x.1, y, x.2.2))) = _
              rw [r2.1.1]
      · rw [show f_X6_in p1 0 2 = some 0 from j2, Option.bind_some, if_pos (show (0 : Int32) = 0 from rfl)]
        rcases j3 with j3 | ⟨k, k1, rfl, k2⟩
        · rw [if_pos j3]
          exact bad
        · rw [if_neg (nI_pos k1), if_neg (show ¬ nI k ≤ 2 from nI_ge (a := 2) k2 k1)]
          exact bad
theorem full_call {x : ClC} {o : MdC} (hR : Rel x o) : ∃ d o2, f_X5_fullness x = some d ∧ f_X6_fullness o = some (d, o2) ∧ Rel x o2 ∧ Op.cmpValue (FP.dcmp d d) .l = 0 := by
  obtain ⟨a, h, len, cd, ho, hc, hm, hh, ht⟩ := hR
  unfold f_X6_fullness
  rw [w_fullness ho hc, m_full (o := (0, o.2)) ho hm, Option.bind_some]
  exact ⟨_, _, rfl, rfl, ⟨a, h, len, cd, ho, hc, hm, hh, ht⟩, (shr.all ho).2.2.2⟩
