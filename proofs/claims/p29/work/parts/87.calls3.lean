/-! The calls: events, texts, undo. -/
/-- a call that doesn't throw, and changes -/
def AnS {α : Type} (cl : Option (α × ClC)) (md : Option (α × MdC)) : Prop := ∃ r x2 o2, cl = some (r, x2) ∧ md = some (r, o2) ∧ Rel x2 o2
theorem fire_call {x : ClC} {o : MdC} (hR : Rel x o) : AnS (f_X5_fire x) (f_X6_fire o) := by
  obtain ⟨a, h, len, cd, ho, hc, hm, hh, ht⟩ := hR
  obtain ⟨h2, x2, r2, s1, s2, s3⟩ := save (o := (0, o.2)) ho hc hm hh
  obtain ⟨r, y, a2, d1, d2, d3, d4⟩ := fires ho hc
  obtain ⟨m2, e1, e2⟩ := d4 _ hm
  unfold f_X5_fire f_X6_fire
  rw [s1, Option.bind_some, d1, Option.bind_some, s2, Option.bind_some]
  show AnS _ (Option.bind (f_X6_fires o.2.1) fun z2 => some (z2.1, ((0 : Int32), z2.2, o.2.2.1, r2, nI h2, o.2.2.2.2.2)))
  rw [e1, Option.bind_some]
  exact ⟨_, _, _, rfl, rfl, a2, h2, len, cd, d2, d3, e2, s3, ht⟩
theorem together_call {x : ClC} {o : MdC} (hR : Rel x o) : AnS (f_X5_together x) (f_X6_together o) := by
  obtain ⟨a, h, len, cd, ho, hc, hm, hh, ht⟩ := hR
  obtain ⟨h2, x2, r2, s1, s2, s3⟩ := save (o := (0, o.2)) ho hc hm hh
  obtain ⟨r, y, a2, d1, d2, d3, d4⟩ := together ho hc
  obtain ⟨m2, e1, e2⟩ := d4 ((0 : Int32), o.2.1, o.2.2.1, r2, nI h2, o.2.2.2.2.2) hm
  unfold f_X5_together f_X6_together
  rw [s1, Option.bind_some, d1, Option.bind_some, s2, Option.bind_some]
  exact ⟨_, _, _, rfl, e1, a2, h2, len, cd, d2, d3, e2, s3, ht⟩
theorem append_call {x : ClC} {o : MdC} (hR : Rel x o) (p0 : Int32) : Ans [(1, 1), (2, 2)] x (f_X5_append p0 x) (f_X6_append p0 o) := by
  obtain ⟨a, h, len, cd, ho, hc, hm, hh, ht⟩ := hR
  have h0 := ht.1
  unfold f_X5_append f_X6_append f_X6_append_30 f_X6_in
  by_cases h1 : p0 < 33
  · rw [if_pos h1, if_pos h1, Option.bind_some, if_pos rfl, rf1, Option.bind_some, it1]
    exact Or.inr ⟨1, 1, 0, (1, o.2), rfl, by decide, rfl, rfl, a, h, len, cd, ho, hc, hm, hh, ht⟩
  · rcases nI_neg_or p0 with g1 | ⟨k, k1, rfl⟩
    · exact absurd (Int32.lt_of_lt_of_le g1 (by decide)) h1
    · have k2 : 33 ≤ k := Nat.not_lt.mp fun q => h1 (nI_lt (b := 33) q (by omega))
      rw [if_neg h1, if_neg h1, show (126 : Int32) = nI 126 from rfl]
      by_cases h2 : k ≤ 126
      · rw [if_pos (nI_le h2 (by omega)), if_neg (nI_nlt h2 (by omega)), Option.bind_some, if_neg (by decide), ht.2.2.1]
        unfold f_X4_isFull f_X4_add f_X4_size
        rw [ht.2.1, li60]
        by_cases h3 : len = 60
        · rw [if_neg (nI_nlt (by omega) (by omega)), Option.bind_some, if_neg (by decide), if_pos (by rw [h3]), rf2, Option.bind_some, it1]
          exact Or.inr ⟨2, 2, 0, (2, o.2), rfl, by decide, rfl, rfl, a, h, len, cd, ho, hc, hm, hh, ht⟩
        · rw [if_pos (nI_lt (by omega) (by omega)), Option.bind_some, if_pos rfl, if_neg (nI_pos (by omega)), if_neg (nI_ge (by omega) (by omega)), gi_in (by omega) (by decide), nI_clamp (by omega), nI_1, Option.bind_some, Option.bind_some, if_neg (fun q => h3 ((nI_eq (by omega) (by omega)).mp q)), rf0, Option.bind_some, it0]
          have hl : o.2.2.2.2.2.2.1 = nI len := ht.2.2.1
          show Ans _ _ _ (gi o.2.2.2.2.2.2.1 60 <| some (o.2.2.2.2.2.2.1 + 1, ((0 : Int32), o.2.1, o.2.2.1, o.2.2.2.1, o.2.2.2.2.1, (upd o.2.2.2.2.2.1 o.2.2.2.2.2.2.1.toNatClampNeg (nI k)), o.2.2.2.2.2.2.1 + 1, o.2.2.2.2.2.2.2)))
          rw [hl, gi_in (by omega) (by decide), nI_clamp (by omega), nI_1]
          refine Or.inl ⟨_, _, _, rfl, rfl, rfl, a, h, len + 1, (fun i => if i = len then k else cd i), ho, hc, hm, hh, by omega, rfl, rfl, fun i hi => ?_⟩
          show upd x.2.2.2.1 len (nI k) i = nI (if i = len then k else cd i) ∧ upd o.2.2.2.2.2.1 len (nI k) i = nI (if i = len then k else cd i) ∧ 33 ≤ (if i = len then k else cd i) ∧ (if i = len then k else cd i) ≤ 126
          by_cases h4 : i = len
          · rw [if_pos h4, h4, up_eq, up_eq]
            exact ⟨rfl, rfl, k2, h2⟩
          · rw [if_neg h4, up_ne _ _ h4, up_ne _ _ h4]
            exact ht.2.2.2 i (by omega)
      · rw [if_neg (nI_ge (by omega) (by omega)), if_pos (nI_lt (by omega) (by omega)), Option.bind_some, if_pos rfl, rf1, Option.bind_some, it1]
        exact Or.inr ⟨1, 1, 0, (1, o.2), rfl, by decide, rfl, rfl, a, h, len, cd, ho, hc, hm, hh, ht⟩
theorem clear_call {x : ClC} {o : MdC} (hR : Rel x o) : AnS (f_X5_clearBuffer x) (f_X6_clearBuffer o) := by
  obtain ⟨a, h, len, cd, ho, hc, hm, hh, ht⟩ := hR
  unfold f_X5_clearBuffer f_X6_clearBuffer f_X4_size f_X4_empty
  rw [Option.bind_some, Option.bind_some, ht.2.1, ht.2.2.1]
  exact ⟨_, _, _, rfl, rfl, a, h, 0, cd, ho, hc, hm, hh, by omega, rfl, rfl, fun i hi => by omega⟩
/-- a call that only looks, and doesn't throw -/
def AnK {α : Type} (x : ClC) (cl : Option α) (md : Option (α × MdC)) : Prop := ∃ r o2, cl = some r ∧ md = some (r, o2) ∧ Rel x o2
theorem error_call {x : ClC} {o : MdC} (hR : Rel x o) : AnK x (f_X5_firstError x) (f_X6_firstError o) := by
  obtain ⟨a, h, len, cd, ho, hc, hm, hh, ht⟩ := hR
  unfold f_X5_firstError f_X6_firstError
  rcases texts (o := (0, o.2)) ht with ⟨e, td2, tm2, g1, g2, g3⟩ | ⟨td2, n, g1, g2, g3, g4, g5⟩
  · rw [g1, g2, Option.bind_some, Option.bind_some, it0]
    exact ⟨_, _, rfl, rfl, a, h, len, cd, ho, hc, hm, hh, ht⟩
  · have hl : o.2.2.2.2.2.2.1 = nI len := ht.2.2.1
    rw [g1, g2, Option.bind_some, Option.bind_some, it1]
    refine ⟨nI len, mS ((0 : Int32), o.2) len td2 n, rfl, ?_, a, h, len, cd, ho, hc, hm, hh, ht⟩
    show some (o.2.2.2.2.2.2.1, mS ((0 : Int32), o.2) len td2 n) = _
    rw [hl]
theorem putAll_call {x : ClC} {o : MdC} (hR : Rel x o) : Ans [(1, 1)] x (f_X5_putAll x) (f_X6_putAll o) := by
  obtain ⟨a, h, len, cd, ho, hc, hm, hh, ht⟩ := hR
  unfold f_X5_putAll f_X6_putAll f_X6_putAll_13
  rcases texts ht with ⟨e, td2, tm2, g1, g2, g3⟩ | ⟨td2, n, g1, g2, g3, g4, g5⟩
  · rw [g1, g3, Option.bind_some, Option.bind_some, if_pos (show (0 : Int32) = 0 from rfl), it0, rf1, Option.bind_some, it1]
    exact Or.inr ⟨1, 1, 0, _, rfl, by decide, rfl, rfl, a, h, len, cd, ho, hc, hm, hh, ht⟩
  · obtain ⟨h2, x2, r2, s1, s2, s3⟩ := save (o := (0, (mS o len td2 n).2)) ho hc hm hh
    obtain ⟨r, st2, a2, d1, d2, d3, d4⟩ := parts ht (td := td2) n 0 0 0 a x.1 g4 (by omega) ho hc
    obtain ⟨m2, e1, e2⟩ := d4 ((0 : Int32), o.2.1, o.2.2.1, r2, nI h2, o.2.2.2.2.2.1, o.2.2.2.2.2.2.1, nI len, td2, nI n, o.2.2.2.2.2.2.2.2.2.2) FU hm rfl (by rw [Nat.zero_add]) (by unfold FU; omega)
    have hp : f_X5_putParts (x.1, x.2.1, x2, x.2.2.2) = some (r, (st2, x.2.1, x2, x.2.2.2)) := by
      unfold f_X5_putParts f_X4_size
      rw [Option.bind_some, ht.2.1]
      exact d3 (x.1, x.2.1, x2, x.2.2.2) FU rfl rfl (by unfold FU; omega)
    rw [g1, g3, Option.bind_some, Option.bind_some, if_neg (show ¬ (1 : Int32) = 0 by decide), it1, s1, Option.bind_some, hp, Option.bind_some, rf0, Option.bind_some, it0, s2, Option.bind_some]
    exact Or.inl ⟨_, _, _, rfl, e1, rfl, a2, h2, 0, cd, d1, d2, e2, s3, by omega, rfl, rfl, fun i hi => by omega⟩
theorem undo_call {x : ClC} {o : MdC} (hR : Rel x o) : Ans [(2, 1)] x (f_X5_undo x) (f_X6_undo o) := by
  obtain ⟨a, h, len, cd, ho, hc, hm, hh, ht⟩ := hR
  have h6 := hh.1
  unfold f_X5_undo f_X6_undo f_X6_undo_13 f_X0_size
  rw [Option.bind_some, hh.2.1, hh.2.2.1]
  by_cases h1 : h = 0
  · rw [h1, if_pos (show nI 0 = 0 from rfl), if_pos (show nI 0 = 0 from rfl), rf1, Option.bind_some, it1]
    exact Or.inr ⟨2, 1, 0, (1, o.2), rfl, by decide, rfl, rfl, a, h, len, cd, ho, hc, hm, hh, ht⟩
  · obtain ⟨b, y, m2, b1, b2, b3, b4, b5, b6⟩ := bring (o := (0, o.2)) (st := x.1) (by omega) hh
    have hs : nI h - 1 = nI (h - 1) := by rw [li1, nI_sub (by omega)]
    have hS : o.2.2.2.2.1 = nI h := hh.2.2.1
    rw [if_neg (nI_ne0 (by omega) (by omega)), if_neg (nI_ne0 (by omega) (by omega)), b2, Option.bind_some, Option.bind_some, rf0, Option.bind_some, it0]
    show Ans _ _ _ (Option.bind (f_X6_lays 2484 414 (414 * (o.2.2.2.2.1 - 1)) 0 o.2.2.2.1 o.2.1) fun z2 => some (o.2.2.2.2.1 - 1, ((0 : Int32), z2, o.2.2.1, o.2.2.2.1, o.2.2.2.2.1 - 1, o.2.2.2.2.2)))
    rw [show f_X6_lays 2484 414 (414 * (o.2.2.2.2.1 - 1)) 0 o.2.2.2.1 o.2.1 = some m2 from b4, Option.bind_some, hS, hs]
    exact Or.inl ⟨_, _, _, rfl, rfl, rfl, b, h - 1, len, cd, b1, b3, b5, b6, ht⟩
theorem refusal_call {x : ClC} {o : MdC} (hR : Rel x o) (p0 : Int32) : AnK x (f_X5_refusal p0 x) (f_X6_refusal p0 o) := by
  obtain ⟨a, h, len, cd, ho, hc, hm, hh, ht⟩ := hR
  obtain ⟨z, z1, z2, z3⟩ := why ho hc.1 hm p0
  unfold f_X5_refusal f_X6_refusal
  rw [z1, z2, Option.bind_some, Option.bind_some]
  exact ⟨_, _, rfl, rfl, a, h, len, cd, ho, hc, hm, hh, ht⟩
