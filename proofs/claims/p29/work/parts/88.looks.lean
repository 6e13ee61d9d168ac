/-! What is looked at: the values, both sides. -/
theorem count_v {a : AbT} {x : ClC} {o : MdC} {h k : Nat} (ho : aOk a) (hc : cV a x.1) (hm : mV a o.2.1) (h1 : x.2.2.1.2 = nI h) (h2 : o.2.2.2.2.1 = nI h) (hk : k < 10) : ∃ r, f_X5_count (nI k) x = some (.inr r) ∧ f_X6_counted (nI k) o = some r := by
  have hN := ho.2.1
  have i0 : ∀ (kk : Option Int32), gi 0 414 kk = kk := fun kk => gi_in (c := 0) (by omega) (by decide)
  have c0 : (0 : Int32).toNatClampNeg = 0 := by decide
  have i1 : ∀ (kk : Option Int32), gi 1 414 kk = kk := fun kk => gi_in (c := 1) (by omega) (by decide)
  have c1 : (1 : Int32).toNatClampNeg = 1 := by decide
  have ctr : ∀ i, i < 4 → f_X6_counted_99 (nI (5 + i)) o = some (aT a i) := fun i hi => by
    unfold f_X6_counted_99
    rw [li2, nI_add, li5, nI_sub (by omega), show 2 + (5 + i) - 5 = 2 + i by omega, gi_in (by omega) (by decide), nI_clamp (by omega), hm.2.2.1 i hi]
  unfold f_X5_count f_X6_counted
  rcases (show k = 0 ∨ k = 1 ∨ k = 2 ∨ k = 3 ∨ k = 4 ∨ k = 5 ∨ k = 6 ∨ k = 7 ∨ k = 8 ∨ k = 9 by omega) with q | q | q | q | q | q | q | q | q | q <;> subst q
  · rw [if_pos (by decide), if_pos (by decide), w_things ho hc.2.1, m_things ho hm]
    exact ⟨_, rfl, rfl⟩
  · rw [if_neg (by decide), if_pos (by decide), if_neg (by decide), if_pos (by decide), i1, c1, hm.2.1]
    unfold f_X1_tombstones
    rw [w_things ho hc.2.1, m_things ho hm, hc.2.1.1]
    exact ⟨_, rfl, rfl⟩
  · rw [if_neg (by decide), if_neg (by decide), if_pos (by decide), if_neg (by decide), if_neg (by decide), if_pos (by decide), i0, c0, hm.1]
    unfold f_X2_cellsNow
    rw [hc.1.1]
    exact ⟨_, rfl, rfl⟩
  · rw [if_neg (by decide), if_neg (by decide), if_neg (by decide), if_pos (by decide), if_neg (by decide), if_neg (by decide), if_neg (by decide), if_pos (by decide), i0, c0, hm.1, w_freeCells ho hc.1, m_used ho hm, Option.bind_some, Option.bind_some, nI_sub (aUs.le ho)]
    exact ⟨_, rfl, rfl⟩
  · rw [if_neg (by decide), if_neg (by decide), if_neg (by decide), if_neg (by decide), if_pos (by decide), if_neg (by decide), if_neg (by decide), if_neg (by decide), if_neg (by decide), if_pos (by decide), w_sumOfValues ho hc.1, m_values ho hm]
    exact ⟨_, rfl, rfl⟩
  · rw [if_neg (by decide), if_neg (by decide), if_neg (by decide), if_neg (by decide), if_neg (by decide), if_pos (by decide), if_neg (by decide), if_neg (by decide), if_neg (by decide), if_neg (by decide), if_neg (by decide), if_pos (by decide), hc.2.2.1]
    exact ⟨_, rfl, ctr 0 (by omega)⟩
  · rw [if_neg (by decide), if_neg (by decide), if_neg (by decide), if_neg (by decide), if_neg (by decide), if_neg (by decide), if_pos (by decide), if_neg (by decide), if_neg (by decide), if_neg (by decide), if_neg (by decide), if_neg (by decide), if_neg (by decide), if_pos (by decide), hc.2.2.2.1]
    exact ⟨_, rfl, ctr 1 (by omega)⟩
  · rw [if_neg (by decide), if_neg (by decide), if_neg (by decide), if_neg (by decide), if_neg (by decide), if_neg (by decide), if_neg (by decide), if_pos (by decide), if_neg (by decide), if_neg (by decide), if_neg (by decide), if_neg (by decide), if_neg (by decide), if_neg (by decide), if_neg (by decide), if_pos (by decide), hc.2.2.2.2.1]
    exact ⟨_, rfl, ctr 2 (by omega)⟩
  · rw [if_neg (by decide), if_neg (by decide), if_neg (by decide), if_neg (by decide), if_neg (by decide), if_neg (by decide), if_neg (by decide), if_neg (by decide), if_pos (by decide), if_neg (by decide), if_neg (by decide), if_neg (by decide), if_neg (by decide), if_neg (by decide), if_neg (by decide), if_neg (by decide), if_neg (by decide), if_pos (by decide), hc.2.2.2.2.2]
    exact ⟨_, rfl, ctr 3 (by omega)⟩
  · rw [if_neg (by decide), if_neg (by decide), if_neg (by decide), if_neg (by decide), if_neg (by decide), if_neg (by decide), if_neg (by decide), if_neg (by decide), if_neg (by decide), if_pos (by decide), if_neg (by decide), if_neg (by decide), if_neg (by decide), if_neg (by decide), if_neg (by decide), if_neg (by decide), if_neg (by decide), if_neg (by decide), if_neg (by decide)]
    unfold f_X0_size
    rw [h1, h2]
    exact ⟨_, rfl, rfl⟩
theorem thing_v {a : AbT} {x : ClC} {o : MdC} {q k : Nat} {p0 : Int32} (ho : aOk a) (hc : cV a x.1) (hm : mV a o.2.1) (hq : q < aN a) (hw : 0 < aW a q) (hp : f_X2_whyRefused p0 x.1.1 = some 0) (hp2 : p0 / 1000 = nI (aB a q)) (hk : k < 6) : ∃ r, f_X5_thing p0 (nI k) x = some (.inr r) ∧ f_X6_ofThing (nI q) (nI k) o = some r := by
  have hN := ho.2.1
  have hC := aOk.C a ho
  have h9 := ho.2.2.1 q hq hw
  have hE := hm.2.2.2.2.1 q hq
  have hS := hc.1.2.2.2.2.1 q hq hw
  rw [if_neg (by omega), if_neg (by omega), if_neg (by omega), if_neg (by omega)] at hE
  unfold f_X5_thing f_X6_ofThing
  rw [hp, Option.bind_some, if_pos rfl, hp2]
  rcases (show k = 0 ∨ k = 1 ∨ k = 2 ∨ k = 3 ∨ k = 4 ∨ k = 5 by omega) with r | r | r | r | r | r <;> subst r
  · rw [if_pos (by decide), if_pos (by decide), w_val ho hc.1 hq hw, m_val ho hm hq hw]
    exact ⟨_, rfl, rfl⟩
  · rw [if_neg (by decide), if_pos (by decide), if_neg (by decide), if_pos (by decide), w_sizeAt ho hc.1 (by omega), if_pos (by omega), hS.1, li1, m_of (by omega), hE.2.1]
    exact ⟨_, rfl, rfl⟩
  · rw [if_neg (by decide), if_neg (by decide), if_pos (by decide), if_neg (by decide), if_neg (by decide), if_pos (by decide), w_kindAt ho hc.1 (by omega), if_pos (by omega), hS.2.2.1, li3, m_of (by omega), hE.2.2.2.1]
    exact ⟨_, rfl, rfl⟩
  · rw [if_neg (by decide), if_neg (by decide), if_neg (by decide), if_pos (by decide), if_neg (by decide), if_neg (by decide), if_neg (by decide), if_pos (by decide), w_timesFired ho hc.1 (by omega), if_pos (by omega), hS.2.2.2, li4, m_of (by omega), hE.2.2.2.2]
    exact ⟨_, rfl, rfl⟩
  · rw [if_neg (by decide), if_neg (by decide), if_neg (by decide), if_neg (by decide), if_pos (by decide), if_neg (by decide), if_neg (by decide), if_neg (by decide), if_neg (by decide), if_pos (by decide), w_placeOf ho hc.2.1 hq hw, m_placeOf ho hm (by omega)]
    exact ⟨_, rfl, rfl⟩
  · rw [if_neg (by decide), if_neg (by decide), if_neg (by decide), if_neg (by decide), if_neg (by decide), if_pos (by decide), if_neg (by decide), if_neg (by decide), if_neg (by decide), if_neg (by decide), if_neg (by decide), w_indexOf ho hc.2.1 hq hw, Option.bind_some, w_walkersOn hN ho.2.2.2.2.2.1 hc.2.1.2.2 hq, m_standing hN ho.2.2.2.2.2.1 hm.2.2.2.2.2 hq]
    exact ⟨_, rfl, rfl⟩
theorem cell0_v {a : AbT} {x : ClC} {o : MdC} {c : Nat} (ho : aOk a) (hc : cV a x.1) (hm : mV a o.2.1) (h1 : c < aC a) : f_X5_cell (nI c) 0 x = some (.inr (nI (aS a c))) ∧ (∀ {α : Type} (k : Int32 → Option α), gi (6 + nI c) 414 (k (o.2.1 (6 + nI c).toNatClampNeg)) = k (nI (aS a c))) := by
  have hC := aOk.C a ho
  refine ⟨?_, fun {α} k => ?_⟩
  · unfold f_X5_cell
    rw [c_isCell1 hc.1.1 (by omega) h1, Option.bind_some, if_neg (by decide), if_pos rfl, w_stampAt ho hc.1 (by omega), if_pos h1]
    rfl
  · rw [li6, nI_add, gi_in (by omega) (by decide), nI_clamp (by omega), hm.2.2.2.1 c (by omega)]
theorem cell1_v {a : AbT} {x : ClC} {o : MdC} {c : Nat} (ho : aOk a) (hc : cV a x.1) (hm : mV a o.2.1) (h1 : c < aC a) : ∃ r, f_X5_cell (nI c) 1 x = some (.inr r) ∧ f_X6_ofCell (nI c) o = some r := by
  have hC := aOk.C a ho
  have hN := ho.2.1
  unfold f_X5_cell f_X6_ofCell
  rw [c_isCell1 hc.1.1 (by omega) h1, Option.bind_some, if_neg (by decide), if_neg (by decide), if_pos rfl, w_ownerOf ho hc.1 (by omega), if_pos h1, Option.bind_some]
  obtain ⟨e, e1, e2⟩ := m_entryOf ho hm (c := c) (by omega)
  rw [e1, Option.bind_some]
  rcases e2 with ⟨j, g1, g2, g3⟩ | ⟨g1, g2⟩
  · have hw : 0 < aW a j := by unfold aCov at g2; omega
    rw [hc.1.2.2.1 j c g1 (by omega) g2, w_handle ho hc.1 g1 hw, g3, if_neg (nI_m1 (by omega)), m_handleOf ho hm g1 hw]
    exact ⟨_, rfl, rfl⟩
  · rw [hc.1.2.2.2.1 c (by omega) g1, w_handleOf_neg (by decide), g2, if_pos rfl]
    exact ⟨_, rfl, rfl⟩
theorem walker_v {a : AbT} {x : ClC} {o : MdC} {i k : Nat} (ho : aOk a) (hc : cV a x.1) (hm : mV a o.2.1) (hi : i < 4) (hk : k < 3) : ∃ r, f_X5_walker (nI i) (nI k) x = some (.inr r) ∧ f_X6_ofWalker (nI i) (nI k) o = some r := by
  unfold f_X5_walker f_X6_ofWalker
  rw [w_isWalker hi, Option.bind_some, if_neg (by decide)]
  rcases (show k = 0 ∨ k = 1 ∨ k = 2 by omega) with r | r | r <;> subst r
  · rw [if_pos (by decide), if_pos (by decide), w_standOf ho hc.2.1 hi, m_stands ho hm hi]
    exact ⟨_, rfl, rfl⟩
  · obtain ⟨u, u1, u2⟩ := bd_s (w_under ho hc hi)
    rw [if_neg (by decide), if_pos (by decide), if_neg (by decide), if_pos (by decide), u1, Option.bind_some, u2, m_under ho hm hi]
    exact ⟨_, rfl, rfl⟩
  · rw [if_neg (by decide), if_neg (by decide), if_pos (by decide), if_neg (by decide), if_neg (by decide), w_thingsBehind ho hc.2.1 hi, m_behind ho hm hi]
    exact ⟨_, rfl, rfl⟩
theorem w_isSize {w : Nat} (h1 : 1 ≤ w) (h2 : w ≤ 4) : f_X5_isSize (nI w) = some 1 := by
  rcases (show w = 1 ∨ w = 2 ∨ w = 3 ∨ w = 4 by omega) with r | r | r | r <;> subst r <;> decide
theorem begins_v {a : AbT} {x : ClC} {o : MdC} {w : Nat} (ho : aOk a) (hc : cV a x.1) (hm : mV a o.2.1) (h1 : 1 ≤ w) (h2 : w ≤ 4) : ∃ r, f_X5_begins (nI w) x = some (.inr r) ∧ f_X6_beginsAt (nI w) o = some r := by
  obtain ⟨low, l1, l2⟩ := w_lowestFor ho hc.1 (w := w) h1 (by omega)
  unfold f_X5_begins f_X6_beginsAt
  rw [w_isSize h1 h2, Option.bind_some, if_neg (by decide), l1]
  rcases m_cellsFor ho hm h1 (by omega) l2 with ⟨b, b1, b2, b3, b4, b5, b6⟩ | ⟨b1, b2, b3⟩
  · rw [b5, Option.bind_some, Option.bind_some, if_neg (nI_m1 (by have := aGr.ok ho b2; omega)), b6, b1]
    exact ⟨_, rfl, rfl⟩
  · rw [b3, Option.bind_some, Option.bind_some, if_pos rfl, b1]
    exact ⟨_, rfl, rfl⟩
theorem gap_v {a : AbT} {x : ClC} {o : MdC} {k : Nat} (ho : aOk a) (hc : cV a x.1) (hm : mV a o.2.1) (hk : k < 2) : ∃ r, f_X5_gap (nI k) x = some (.inr r) ∧ f_X6_longest (nI k) o = some r := by
  obtain ⟨M, d, g1, g2, g3⟩ := w_gap ho hc.1
  unfold f_X5_gap
  rcases (show k = 0 ∨ k = 1 by omega) with r | r <;> subst r
  · rw [if_pos (by decide), g1, m_gap (v1 := nI 0) ho hm g3, if_pos (by decide)]
    exact ⟨_, rfl, rfl⟩
  · rw [if_neg (by decide), if_pos (by decide), g2, m_gap (v1 := nI 1) ho hm g3, if_neg (by decide)]
    exact ⟨_, rfl, rfl⟩
theorem room_v {a : AbT} {x : ClC} {o : MdC} {w : Nat} {p1 : Int32} (ho : aOk a) (hc : cV a x.1) (hm : mV a o.2.1) (h1 : 1 ≤ w) (h2 : w ≤ 4) (h3 : p1 = 0 ∨ p1 = 1) : ∃ r, f_X5_room (nI w) p1 x = some (.inr r) ∧ f_X6_roomFor (nI w) p1 o = some r := by
  have hC := aOk.C a ho
  unfold f_X5_room
  rw [w_isSize h1 h2, Option.bind_some, if_neg (by decide)]
  rcases h3 with r | r <;> subst r
  · obtain ⟨t, g1, g2⟩ := w_roomFor ho hc.1 h1 h2
    rw [if_pos rfl, g1, g2 o hm]
    exact ⟨_, rfl, rfl⟩
  · rw [if_neg (by decide), w_freeCells ho hc.1, Option.bind_some, nI_gd h1 (by omega), nI_div (by omega) (by omega), m_roomForT ho hm h1 h2]
    exact ⟨_, rfl, rfl⟩
/-- events that would be, both sides -/
theorem try_loop {p : Nat} (hp : p ≤ 9) : ∀ (d i : Nat) (a : AbT) (t : StC) (v2 : Int32), p - i = d → i ≤ p → aOk a → cV a t → ∃ r y a2, aOk a2 ∧ cV a2 y ∧ (∀ (x : ClC) fu, x.2.1 = t → d < fu → f_X5_tryEvents_15 fu (nI p) v2 (nI i) x = some (r, (x.1, y, x.2.2))) ∧ ∀ (o : MdC) (k : Int32) fu, mV a o.2.2.1 → d < fu → ∃ m2, mV a2 m2 ∧ f_X6_fired_18 fu (nI p) k v2 (nI i) o = some (if k = 0 then r else if k = 1 then nI (aCnt a2 (aN a2)) else nI (aC a2), (o.1, o.2.1, m2, o.2.2.2)) := by
  intro d
  induction d with
  | zero =>
    intro i a t v2 h1 h2 ho hc
    refine ⟨v2, t, a, ho, hc, fun x fu h3 hf => ?_, fun o k fu hm hf => ⟨_, hm, ?_⟩⟩
    · obtain ⟨f, rfl⟩ : ∃ f, fu = f + 1 := ⟨fu - 1, by omega⟩
      rw [f_X5_tryEvents_15.eq_2, if_pos (nI_le (by omega) (by omega)), ← h3]
    · obtain ⟨f, rfl⟩ : ∃ f, fu = f + 1 := ⟨fu - 1, by omega⟩
      rw [f_X6_fired_18.eq_2, if_pos (nI_le (by omega) (by omega))]
      by_cases k0 : k = 0
      · rw [if_pos k0, if_pos k0]
      · by_cases k1 : k = 1
        · rw [if_neg k0, if_pos k1, if_neg k0, if_pos k1, m_things ho hm]
          rfl
        · have i0 : ∀ (kk : Option (Int32 × MdC)), gi 0 414 kk = kk := fun kk => gi_in (c := 0) (by omega) (by decide)
          have c0 : (0 : Int32).toNatClampNeg = 0 := by decide
          rw [if_neg k0, if_neg k1, if_neg k0, if_neg k1, i0, c0, hm.1]
  | succ d ih =>
    intro i a t v2 h1 h2 ho hc
    obtain ⟨s, y, a2, d1, d2, d3, d4⟩ := fires ho hc
    obtain ⟨r, y2, a3, r1, r2, r3, r4⟩ := ih (i + 1) a2 y (v2 + s) (by omega) (by omega) d2 d3
    refine ⟨r, y2, a3, r1, r2, fun x fu h3 hf => ?_, fun o k fu hm hf => ?_⟩
    · obtain ⟨f, rfl⟩ : ∃ f, fu = f + 1 := ⟨fu - 1, by omega⟩
      rw [f_X5_tryEvents_15.eq_2, if_neg (nI_ge (by omega) (by omega)), h3, d1, Option.bind_some, nI_1]
      exact r3 (x.1, y, x.2.2) f rfl (by omega)
    · obtain ⟨f, rfl⟩ : ∃ f, fu = f + 1 := ⟨fu - 1, by omega⟩
      obtain ⟨m2, e1, e2⟩ := d4 _ hm
      rw [f_X6_fired_18.eq_2, if_neg (nI_ge (by omega) (by omega)), e1, Option.bind_some, nI_1]
      exact r4 (o.1, o.2.1, m2, o.2.2.2) k f e2 (by omega)
theorem try_v {a : AbT} {p : Nat} (hp : p ≤ 9) (ho : aOk a) {st : StC} (hc : cV a st) (tr : StC) : ∃ r y a2, aOk a2 ∧ cV a2 y ∧ (∀ (x : ClC), x.1 = st → x.2.1 = tr → f_X5_tryEvents (nI p) x = some (r, (x.1, y, x.2.2))) ∧ ∀ (o : MdC) (k : Int32), mV a o.2.1 → ∃ m2, mV a2 m2 ∧ f_X6_fired (nI p) k o = some (if k = 0 then r else if k = 1 then nI (aCnt a2 (aN a2)) else nI (aC a2), (o.1, o.2.1, m2, o.2.2.2)) := by
  obtain ⟨t, t1, t2⟩ := w_copyFrom (x := tr) ho hc
  obtain ⟨r, y, a2, r1, r2, r3, r4⟩ := try_loop hp p 0 a t 0 (by omega) (by omega) ho t2
  refine ⟨r, y, a2, r1, r2, fun x hx hx2 => ?_, fun o k hm => ?_⟩
  · unfold f_X5_tryEvents
    rw [hx, hx2, t1, Option.bind_some, ← hx]
    exact r3 (x.1, t, x.2.2) FU rfl (by unfold FU; omega)
  · obtain ⟨m1, e1, e2, e3⟩ := m_lays (l0 := 414) (l1 := 414) (p := 0) (q := 0) (x := o.2.1) (o := o.2.2.1) (by omega) (by omega) (by omega) (by omega)
    have e1' : f_X6_lays 414 414 0 0 o.2.1 o.2.2.1 = some m1 := e1
    unfold f_X6_fired
    rw [e1', Option.bind_some]
    exact r4 (o.1, o.2.1, m1, o.2.2.2) k FU (hm.congr ho (fun c hc => by
      show m1 c = o.2.1 c
      have := e3 c hc
      rw [Nat.zero_add] at this
      exact this)) (by unfold FU; omega)
