/-! The calls, the class alone: what an act leaves; the states that are saved. -/
/-- a model's array for an abstract state -/
theorem ex_m {a : AbT} (ho : aOk a) : ∃ m, mV a m := by
  have hN := ho.2.1
  refine ⟨fun i => if i = 0 then nI (aC a) else if i = 1 then nI (aN a) else if i < 6 then aT a (i - 2) else if i < 70 then nI (aS a (i - 6)) else if i < 410 then (if (i - 70) % 5 = 0 then (if aW a ((i - 70) / 5) = 0 then -1 else nI (aB a ((i - 70) / 5))) else if (i - 70) % 5 = 1 then nI (aW a ((i - 70) / 5)) else if (i - 70) % 5 = 2 then nI (if aW a ((i - 70) / 5) = 0 then 0 else aV a ((i - 70) / 5)) else if (i - 70) % 5 = 3 then nI (if aW a ((i - 70) / 5) = 0 then 0 else aK a ((i - 70) / 5)) else (if aW a ((i - 70) / 5) = 0 then 0 else aF a ((i - 70) / 5))) else pM (aP a (i - 410)), ?_, ?_, fun i hi => ?_, fun c hc => ?_, fun j hj => ⟨?_, ?_, ?_, ?_, ?_⟩, fun i hi => ?_⟩
  · exact if_pos rfl
  · show (if (1 : Nat) = 0 then _ else if (1 : Nat) = 1 then _ else _) = _
    rw [if_neg (by omega), if_pos rfl]
  · show (if 2 + i = 0 then _ else if 2 + i = 1 then _ else if 2 + i < 6 then aT a (2 + i - 2) else _) = _
    rw [if_neg (by omega), if_neg (by omega), if_pos (by omega), show 2 + i - 2 = i by omega]
  · show (if 6 + c = 0 then _ else if 6 + c = 1 then _ else if 6 + c < 6 then _ else if 6 + c < 70 then nI (aS a (6 + c - 6)) else _) = _
    rw [if_neg (by omega), if_neg (by omega), if_neg (by omega), if_pos (by omega), show 6 + c - 6 = c by omega]
  all_goals dsimp only
  · rw [if_neg (by omega), if_neg (by omega), if_neg (by omega), if_neg (by omega), if_pos (by omega), if_pos (by omega), show (70 + 5 * j - 70) / 5 = j by omega]
  · rw [if_neg (by omega), if_neg (by omega), if_neg (by omega), if_neg (by omega), if_pos (by omega), if_neg (by omega), if_pos (by omega), show (70 + 5 * j + 1 - 70) / 5 = j by omega]
  · rw [if_neg (by omega), if_neg (by omega), if_neg (by omega), if_neg (by omega), if_pos (by omega), if_neg (by omega), if_neg (by omega), if_pos (by omega), show (70 + 5 * j + 2 - 70) / 5 = j by omega]
  · rw [if_neg (by omega), if_neg (by omega), if_neg (by omega), if_neg (by omega), if_pos (by omega), if_neg (by omega), if_neg (by omega), if_neg (by omega), if_pos (by omega), show (70 + 5 * j + 3 - 70) / 5 = j by omega]
  · rw [if_neg (by omega), if_neg (by omega), if_neg (by omega), if_neg (by omega), if_pos (by omega), if_neg (by omega), if_neg (by omega), if_neg (by omega), if_neg (by omega), show (70 + 5 * j + 4 - 70) / 5 = j by omega]
  · rw [if_neg (by omega), if_neg (by omega), if_neg (by omega), if_neg (by omega), if_neg (by omega), show 410 + i - 410 = i by omega]
theorem why_c {a : AbT} {x : SlC} (ho : aOk a) (hv : sV a x) (p : Int32) : ∃ r, f_X2_whyRefused p x = some r ∧ (r = 0 → ∃ q, q < aN a ∧ 0 < aW a q ∧ p / 1000 = nI (aB a q)) := by
  obtain ⟨m, hm⟩ := ex_m ho
  obtain ⟨r, h1, -, h3⟩ := why ho hv hm p
  exact ⟨r, h1, h3⟩
/-- the saved states: the h states ahead of the n-th -/
def HB (h n : Nat) (B : Nat → AbT) (x : HiC) : Prop := h ≤ 6 ∧ h ≤ n ∧ x.2 = nI h ∧ ∀ i, i < h → aOk (B (n - h + i)) ∧ cV (B (n - h + i)) (x.1 i)
theorem save13_c {h : Nat} {z : HiC} {st : StC} (hz : z.2 = nI h) (h6 : h < 6) : f_X0_save_13 z st = Option.bind (f_X3_copyFrom (z.1 h) st) fun z1 => some (fun i => if i = h then z1 else z.1 i, nI (h + 1)) := by
  unfold f_X0_save_13
  rw [hz, if_neg (nI_pos (by omega)), li6, if_pos (nI_lt h6 (by omega)), gi_in (by omega) (by decide), nI_clamp (by omega), nI_1]
theorem HB.save {h n : Nat} {B : Nat → AbT} {x : HiC} {st : StC} (hh : HB h n B x) (ho : aOk (B n)) (hc : cV (B n) st) : ∃ x2, f_X0_save x st = some x2 ∧ HB (if h < 6 then h + 1 else 6) (n + 1) B x2 := by
  obtain ⟨q1, q2, q3, q4⟩ := hh
  unfold f_X0_save
  by_cases h1 : h < 6
  · rw [q3, li6, if_pos (nI_lt h1 (by omega)), if_pos h1]
    obtain ⟨y, g1, g2⟩ := w_copyFrom (x := x.1 h) ho hc
    rw [save13_c q3 h1, g1, Option.bind_some]
    refine ⟨_, rfl, by omega, by omega, rfl, fun i hi => ?_⟩
    show aOk (B (n + 1 - (h + 1) + i)) ∧ cV (B (n + 1 - (h + 1) + i)) (if i = h then y else x.1 i)
    by_cases h2 : i = h
    · rw [if_pos h2, show n + 1 - (h + 1) + i = n by omega]
      exact ⟨ho, g2⟩
    · rw [if_neg h2, show n + 1 - (h + 1) + i = n - h + i by omega]
      exact q4 i (by omega)
  · have h2 : h = 6 := by omega
    subst h2
    rw [q3, li6, if_neg (nI_nlt (by omega) (by omega)), if_neg h1]
    unfold f_X0_dropOldest
    rw [Option.bind_some]
    obtain ⟨y, g1, g2⟩ := w_copyFrom (x := x.1 0) ho hc
    rw [save13_c (h := 5) rfl (by omega)]
    show ∃ x2, (Option.bind (f_X3_copyFrom (x.1 0) st) fun z1 => some (fun i => if i = 5 then z1 else if i < 5 then x.1 (i + 1) else x.1 0, nI 6)) = some x2 ∧ _
    rw [g1, Option.bind_some]
    refine ⟨_, rfl, by omega, by omega, rfl, fun i hi => ?_⟩
    show aOk (B (n + 1 - 6 + i)) ∧ cV (B (n + 1 - 6 + i)) (if i = 5 then y else if i < 5 then x.1 (i + 1) else x.1 0)
    by_cases h2 : i = 5
    · rw [if_pos h2, show n + 1 - 6 + i = n by omega]
      exact ⟨ho, g2⟩
    · rw [if_neg h2, if_pos (show i < 5 by omega), show n + 1 - 6 + i = n - 6 + (i + 1) by omega]
      exact q4 (i + 1) (by omega)
theorem HB.undo {h n : Nat} {B : Nat → AbT} {x : HiC} {st : StC} (hh : HB h n B x) (h0 : 0 < h) : ∃ y, f_X0_bringBack x st = some ((x.1, nI (h - 1)), y) ∧ aOk (B (n - 1)) ∧ cV (B (n - 1)) y ∧ HB (h - 1) (n - 1) B (x.1, nI (h - 1)) := by
  obtain ⟨q1, q2, q3, q4⟩ := hh
  obtain ⟨b1, b2⟩ := q4 (h - 1) (by omega)
  rw [show n - h + (h - 1) = n - 1 by omega] at b1 b2
  obtain ⟨y, g1, g2⟩ := w_copyFrom (x := st) b1 b2
  have hs : nI h - 1 = nI (h - 1) := by rw [li1, nI_sub (by omega)]
  refine ⟨y, ?_, b1, g2, by omega, by omega, rfl, fun i hi => ?_⟩
  · unfold f_X0_bringBack
    rw [q3, if_neg (show ¬ nI h < 1 by rw [li1]; exact nI_nlt (by omega) (by omega)), li6, if_pos (nI_le (by omega) (by omega)), hs, gi_in (by omega) (by decide), nI_clamp (by omega), g1, Option.bind_some]
  · rw [show n - 1 - (h - 1) + i = n - h + i by omega]
    exact q4 i (by omega)
theorem m1_le {k : Nat} (hk : k < 2 ^ 31) : (-1 : Int32) ≤ nI k := by
  rw [Int32.le_iff_toInt_le, nI_toInt hk, show (-1 : Int32).toInt = -1 by decide]
  omega
/-- an act: it throws, or it brings a state, and what was is saved -/
def Act (a : AbT) (x : ClC) (x2 : HiC) (cl : Option (Nat ⊕ (Int32 × ClC))) : Prop := (∃ n, (n = 1 ∨ n = 2 ∨ n = 3) ∧ cl = some (.inl n)) ∨ ∃ r y a2, cl = some (.inr (r, (y, x.2.1, x2, x.2.2.2))) ∧ -1 ≤ r ∧ aOk a2 ∧ cV a2 y ∧ ∀ c, aS a2 c ≤ aS a c + 1
def ActS (a : AbT) (x : ClC) (x2 : HiC) (cl : Option (Int32 × ClC)) : Prop := ∃ r y a2, cl = some (r, (y, x.2.1, x2, x.2.2.2)) ∧ -1 ≤ r ∧ aOk a2 ∧ cV a2 y ∧ ∀ c, aS a2 c ≤ aS a c + 1
theorem hd_ge {a : AbT} {x : SlC} (ho : aOk a) (hv : sV a x) {b : Nat} (hb : b < 2 ^ 20) : ∃ r, f_X2_handleOf (nI b) x = some r ∧ -1 ≤ r := by
  have hC := aOk.C a ho
  have hs := ho.2.2.2.2.2.2 b
  rw [w_handleOf ho hv (by omega)]
  by_cases h : b < aC a
  · rw [if_pos h]; exact ⟨_, rfl, m1_le (by omega)⟩
  · rw [if_neg h]; exact ⟨_, rfl, by decide⟩
theorem put_c {a : AbT} {x : ClC} {x2 : HiC} (ho : aOk a) (hc : cV a x.1) (hs : f_X0_save x.2.2.1 x.1 = some x2) (p0 p1 p2 : Int32) : Act a x x2 (f_X5_put p0 p1 p2 x) := by
  unfold f_X5_put
  obtain ⟨r, n1, n2, -⟩ := w_new (p0 := p0) (p1 := p1) (p2 := p2)
  rw [n1, Option.bind_some]
  rcases n2 with n2 | ⟨n2, v, w, k, e0, e1, e2, v1, w1, w2, k1⟩
  · rw [n2, if_pos rfl]
    exact Or.inl ⟨1, by decide, rfl⟩
  · subst e0; subst e1; subst e2
    obtain ⟨low, l1, l2⟩ := w_lowestFor ho hc.1 (w := w) w1 (by omega)
    obtain ⟨low2, l3, l4⟩ := w_addLast ho hc (v := v) (w := w) (k := k) v1 w1 w2 k1
    have l5 := l3.det l2
    subst l5
    rw [n2, if_neg (by decide), l1, Option.bind_some]
    rcases l4 with ⟨l6, -⟩ | ⟨b, y, l6, l7, l8, l9, l10, l11⟩
    · rw [l6, if_pos rfl]
      exact Or.inl ⟨2, by decide, rfl⟩
    · have ho2 := aPut.ok ho (p := aN a) (Nat.le_refl _) v1 w1 w2 k1 l7 l8
      obtain ⟨r2, g1, g2⟩ := hd_ge ho2 l11.1 (show b < 2 ^ 20 by omega)
      rw [l6, if_neg (nI_m1 (by omega)), hs, Option.bind_some, w_rsz, Option.bind_some, l9, Option.bind_some]
      show Act a x x2 (Option.bind (f_X2_handleOf (nI b) y.1) fun z7 => some (Sum.inr (z7, (y, x.2.1, x2, x.2.2.2))))
      rw [g1, Option.bind_some]
      exact Or.inr ⟨_, y, _, rfl, g2, ho2, l11, fun c => Nat.le_succ _⟩
theorem putBehind_c {a : AbT} {x : ClC} {x2 : HiC} (ho : aOk a) (hc : cV a x.1) (hs : f_X0_save x.2.2.1 x.1 = some x2) (p0 p1 p2 p3 : Int32) : Act a x x2 (f_X5_putBehind p0 p1 p2 p3 x) := by
  have hN := ho.2.1
  unfold f_X5_putBehind
  obtain ⟨z, z1, z3⟩ := why_c ho hc.1 p0
  rw [z1, Option.bind_some]
  by_cases hz : z = 0
  · obtain ⟨q, q1, q2, q3⟩ := z3 hz
    obtain ⟨r, n1, n2, -⟩ := w_new (p0 := p1) (p1 := p2) (p2 := p3)
    rw [hz, if_pos rfl, n1, Option.bind_some]
    rcases n2 with n2 | ⟨n2, v, w, k, e0, e1, e2, v1, w1, w2, k1⟩
    · rw [n2, if_pos rfl]
      exact Or.inl ⟨1, by decide, rfl⟩
    · subst e0; subst e1; subst e2
      obtain ⟨low, l1, l2⟩ := w_lowestFor ho hc.1 (w := w) w1 (by omega)
      obtain ⟨low2, l3, l4⟩ := w_addAt ho hc (p := q + 1) (v := v) (w := w) (k := k) (by omega) v1 w1 w2 k1
      have l5 := l3.det l2
      subst l5
      rw [n2, if_neg (by decide), l1, Option.bind_some]
      rcases l4 with ⟨l6, -⟩ | ⟨b, y, l6, l7, l8, l9, l11⟩
      · rw [l6, if_pos rfl]
        exact Or.inl ⟨2, by decide, rfl⟩
      · have ho2 := aPut.ok ho (p := q + 1) (by omega) v1 w1 w2 k1 l7 l8
        obtain ⟨r2, g1, g2⟩ := hd_ge ho2 l11.1 (show b < 2 ^ 20 by omega)
        rw [l6, if_neg (nI_m1 (by omega)), hs, Option.bind_some, q3, w_indexOf ho hc.2.1 q1 q2, Option.bind_some, nI_1, l9, Option.bind_some]
        show Act a x x2 (Option.bind (f_X2_handleOf (nI b) y.1) fun z7 => some (Sum.inr (z7, (y, x.2.1, x2, x.2.2.2))))
        rw [g1, Option.bind_some]
        exact Or.inr ⟨_, y, _, rfl, g2, ho2, l11, fun c => Nat.le_succ _⟩
  · rw [if_neg hz]
    exact Or.inl ⟨3, by decide, rfl⟩
theorem remove_c {a : AbT} {x : ClC} {x2 : HiC} (ho : aOk a) (hc : cV a x.1) (hs : f_X0_save x.2.2.1 x.1 = some x2) (p0 : Int32) : Act a x x2 (f_X5_remove p0 x) := by
  unfold f_X5_remove
  obtain ⟨z, z1, z3⟩ := why_c ho hc.1 p0
  rw [z1, Option.bind_some]
  by_cases hz : z = 0
  · obtain ⟨q, q1, q2, q3⟩ := z3 hz
    have h9 := ho.2.2.1 q q1 q2
    obtain ⟨y, d1, d2⟩ := w_drop ho hc q1 q2
    rw [hz, if_pos rfl, q3, w_val ho hc.1 q1 q2, Option.bind_some, hs, Option.bind_some, d1, Option.bind_some]
    exact Or.inr ⟨_, _, _, rfl, m1_le (by omega), aRem.ok ho q1, d2, fun c => aRem.S1.1⟩
  · rw [if_neg hz]
    exact Or.inl ⟨3, by decide, rfl⟩
theorem change_c {a : AbT} {x : ClC} {x2 : HiC} (ho : aOk a) (hc : cV a x.1) (hs : f_X0_save x.2.2.1 x.1 = some x2) (p0 p1 : Int32) : Act a x x2 (f_X5_change p0 p1 x) := by
  unfold f_X5_change
  obtain ⟨z, z1, z3⟩ := why_c ho hc.1 p0
  rw [z1, Option.bind_some]
  by_cases hz : z = 0
  · obtain ⟨q, q1, q2, q3⟩ := z3 hz
    have h9 := ho.2.2.1 q q1 q2
    obtain ⟨r, n1, -, n3⟩ := w_valok p1
    rw [hz, if_pos rfl, n1, Option.bind_some]
    rcases n3 with n3 | ⟨n3, v, rfl, v1⟩
    · rw [n3, if_pos rfl]
      exact Or.inl ⟨1, by decide, rfl⟩
    · obtain ⟨y, d1, d2⟩ := w_setValue (v := v) ho hc.1 q1 q2
      rw [n3, if_neg (by decide), q3, w_val ho hc.1 q1 q2, Option.bind_some, hs, Option.bind_some, d1, Option.bind_some]
      exact Or.inr ⟨_, _, _, rfl, m1_le (by omega), aSv.ok ho v1, ⟨d2, hc.2⟩, fun c => Nat.le_succ _⟩
  · rw [if_neg hz]
    exact Or.inl ⟨3, by decide, rfl⟩
theorem wk_c (p : Int32) : f_X5_isWalker p = some 0 ∨ ∃ i, i < 4 ∧ p = nI i ∧ f_X5_isWalker p = some 1 := by
  rcases wk p with ⟨w1, -⟩ | ⟨i, i1, e, w1, -⟩
  · exact Or.inl w1
  · exact Or.inr ⟨i, i1, e, w1⟩
theorem aGo.S {a : AbT} {i t c : Nat} : aS (aGo a i t) c = aS a c := by
  unfold aGo
  by_cases h1 : 2 ≤ aP a i ∧ aW a (aP a i - 2) = 0 ∧ aOn (aSet a i t) (aP a i - 2) = 0
  · rw [if_pos h1]; rfl
  · rw [if_neg h1]; rfl
theorem aStd.ge {a : AbT} {i : Nat} : -1 ≤ aStd a i := by
  unfold aStd
  by_cases h1 : aP a i = 0
  · rw [if_pos h1]; decide
  · by_cases h2 : aP a i = 1
    · rw [if_neg h1, if_pos h2]; decide
    · by_cases h3 : aW a (aP a i - 2) = 0
      · rw [if_neg h1, if_neg h2, if_pos h3]; decide
      · rw [if_neg h1, if_neg h2, if_neg h3]; decide
theorem aHd.lt {a : AbT} (ho : aOk a) {j : Nat} (hj : j < aN a) (hw : 0 < aW a j) : aHd a j < 64000 := by
  have hC := aOk.C a ho
  have h9 := ho.2.2.1 j hj hw
  have hs := ho.2.2.2.2.2.2 (aB a j)
  unfold aHd
  omega
theorem aUnd.ge {a : AbT} (ho : aOk a) {i : Nat} (hi : i < 4) : -1 ≤ aUnd a i := by
  have h0 := ho.2.2.2.2.2.1 i hi
  unfold aUnd
  by_cases h : 2 ≤ aP a i ∧ ¬ aW a (aP a i - 2) = 0
  · rw [if_pos h]
    have := aHd.lt ho (j := aP a i - 2) (by omega) (by omega)
    exact m1_le (by omega)
  · rw [if_neg h]; decide
theorem restart_c {a : AbT} {x : ClC} {x2 : HiC} (ho : aOk a) (hc : cV a x.1) (hs : f_X0_save x.2.2.1 x.1 = some x2) (p0 : Int32) : Act a x x2 (f_X5_restart p0 x) := by
  unfold f_X5_restart
  rcases wk_c p0 with w1 | ⟨i, i1, rfl, w1⟩
  · rw [w1, Option.bind_some, if_pos rfl]
    exact Or.inl ⟨3, by decide, rfl⟩
  · obtain ⟨y, d1, d2⟩ := w_send (t := 0) ho hc.2.1 i1 (by omega)
    have d1' : f_X1_send (nI i) (-1) x.1.2.1 = some y := d1
    unfold f_X1_sendAhead
    rw [w1, Option.bind_some, if_neg (by decide), w_standOf ho hc.2.1 i1, Option.bind_some, hs, Option.bind_some, d1', Option.bind_some, Option.bind_some]
    exact Or.inr ⟨_, _, _, rfl, aStd.ge, aGo.ok ho i1 (by omega), aGo.c ho hc i1 d2, fun c => by rw [aGo.S]; exact Nat.le_succ _⟩
theorem goOn_c {a : AbT} {x : ClC} {x2 : HiC} (ho : aOk a) (hc : cV a x.1) (hs : f_X0_save x.2.2.1 x.1 = some x2) (p0 : Int32) : Act a x x2 (f_X5_goOn p0 x) := by
  unfold f_X5_goOn
  rcases wk_c p0 with w1 | ⟨i, i1, rfl, w1⟩
  · rw [w1, Option.bind_some, if_pos rfl]
    exact Or.inl ⟨3, by decide, rfl⟩
  · obtain ⟨t, y, d1, d2, d3, -⟩ := w_sendOn ho hc.2.1 i1
    have ho2 := aGo.ok (t := t) ho i1 d2
    have hc2 := aGo.c (t := t) ho hc i1 d3
    obtain ⟨u, u1, u2⟩ := bd_s (w_under ho2 hc2 i1)
    have u1' : f_X1_thingUnder (nI i) y = some u := u1
    have u2' : f_X2_handleOf u x.1.1 = some (aUnd (aGo a i t) i) := u2
    rw [w1, Option.bind_some, if_neg (by decide), hs, Option.bind_some, d1, Option.bind_some, u1', Option.bind_some, u2', Option.bind_some]
    exact Or.inr ⟨_, _, _, rfl, aUnd.ge ho2 i1, ho2, hc2, fun c => by rw [aGo.S]; exact Nat.le_succ _⟩
theorem take_c {a : AbT} {x : ClC} {x2 : HiC} (ho : aOk a) (hc : cV a x.1) (hs : f_X0_save x.2.2.1 x.1 = some x2) (p0 : Int32) : Act a x x2 (f_X5_take p0 x) := by
  have hC := aOk.C a ho
  unfold f_X5_take
  rcases wk_c p0 with w1 | ⟨i, i1, rfl, w1⟩
  · rw [w1, Option.bind_some, if_pos rfl]
    exact Or.inl ⟨3, by decide, rfl⟩
  · have h0 := ho.2.2.2.2.2.1 i i1
    rw [w1, Option.bind_some, if_neg (by decide), w_thingUnder ho hc.2.1 i1, Option.bind_some]
    by_cases h1 : 2 ≤ aP a i ∧ ¬ aW a (aP a i - 2) = 0
    · have q1 : aP a i - 2 < aN a := by omega
      have q2 : 0 < aW a (aP a i - 2) := by omega
      have h9 := ho.2.2.1 (aP a i - 2) q1 q2
      obtain ⟨y, d1, d2⟩ := w_drop ho hc q1 q2
      rw [if_pos h1, if_neg (nI_m1 (by omega)), w_val ho hc.1 q1 q2, Option.bind_some, hs, Option.bind_some, d1, Option.bind_some]
      exact Or.inr ⟨_, _, _, rfl, m1_le (by omega), aRem.ok ho q1, d2, fun c => aRem.S1.1⟩
    · rw [if_neg h1, if_pos rfl]
      exact Or.inl ⟨2, by decide, rfl⟩
theorem fire_c {a : AbT} {x : ClC} {x2 : HiC} (ho : aOk a) (hc : cV a x.1) (hs : f_X0_save x.2.2.1 x.1 = some x2) : ActS a x x2 (f_X5_fire x) := by
  obtain ⟨r, y, a2, d1, d2, d3, -, d5, R, d6, d7⟩ := fires2 ho hc
  unfold f_X5_fire
  rw [hs, Option.bind_some, d1, Option.bind_some]
  exact ⟨_, _, _, rfl, by rw [d6]; exact m1_le (by omega), d2, d3, d5⟩
theorem together_c {a : AbT} {x : ClC} {x2 : HiC} (ho : aOk a) (hc : cV a x.1) (hs : f_X0_save x.2.2.1 x.1 = some x2) : ActS a x x2 (f_X5_together x) := by
  obtain ⟨r, y, a2, d1, d2, d3, -, d5, R, d6, d7⟩ := together2 ho hc
  unfold f_X5_together
  rw [hs, Option.bind_some, d1, Option.bind_some]
  exact ⟨_, _, _, rfl, by rw [d6]; exact m1_le (by omega), d2, d3, d5⟩
/-- .. by way of the law's call: a throw is told by a number, the state is as it was -/
def Act2 (a : AbT) (x : ClC) (x2 : HiC) (cl : Option (Int32 × ClC)) : Prop := (∃ r, cl = some (r, x) ∧ ¬ -1 ≤ r) ∨ ActS a x x2 cl
theorem act2 {a : AbT} {x : ClC} {x2 : HiC} {cl : Option (Nat ⊕ (Int32 × ClC))} (h : Act a x x2 cl) : Act2 a x x2 (ct cl (fun z => some (z.1, z.2)) (fun ex => if ex = 3 then some (-11, x) else if ex = 1 then some (-12, x) else if ex = 2 then some (-13, x) else none)) := by
  rcases h with ⟨n, hn, e⟩ | ⟨r, y, a2, e, h1⟩
  · rw [e]
    rcases hn with rfl | rfl | rfl <;> exact Or.inl ⟨_, rfl, by decide⟩
  · rw [e]
    exact Or.inr ⟨r, y, a2, rfl, h1⟩
section
variable {a : AbT} {x : ClC} {x2 : HiC}
theorem call_0 (ho : aOk a) (hc : cV a x.1) (hs : f_X0_save x.2.2.1 x.1 = some x2) (p q r : Int32) : Act2 a x x2 (f_L_call 0 p q r x) := by
  unfold f_L_call
  rw [if_pos rfl]
  exact act2 (put_c ho hc hs p q r)
theorem call_1 (ho : aOk a) (hc : cV a x.1) (hs : f_X0_save x.2.2.1 x.1 = some x2) (p q r : Int32) : Act2 a x x2 (f_L_call 1 p q r x) := by
  unfold f_L_call
  rw [if_neg (by decide), if_pos rfl]
  exact act2 (putBehind_c ho hc hs p 5 q r)
theorem call_2 (ho : aOk a) (hc : cV a x.1) (hs : f_X0_save x.2.2.1 x.1 = some x2) (p q r : Int32) : Act2 a x x2 (f_L_call 2 p q r x) := by
  unfold f_L_call
  rw [if_neg (by decide), if_neg (by decide), if_pos rfl]
  exact act2 (remove_c ho hc hs p)
theorem call_3 (ho : aOk a) (hc : cV a x.1) (hs : f_X0_save x.2.2.1 x.1 = some x2) (p q r : Int32) : Act2 a x x2 (f_L_call 3 p q r x) := by
  unfold f_L_call
  rw [if_neg (by decide), if_neg (by decide), if_neg (by decide), if_pos rfl]
  exact act2 (change_c ho hc hs p q)
theorem call_4 (ho : aOk a) (hc : cV a x.1) (hs : f_X0_save x.2.2.1 x.1 = some x2) (p q r : Int32) : Act2 a x x2 (f_L_call 4 p q r x) := by
  unfold f_L_call
  rw [if_neg (by decide), if_neg (by decide), if_neg (by decide), if_neg (by decide), if_pos rfl]
  exact act2 (restart_c ho hc hs p)
theorem call_5 (ho : aOk a) (hc : cV a x.1) (hs : f_X0_save x.2.2.1 x.1 = some x2) (p q r : Int32) : Act2 a x x2 (f_L_call 5 p q r x) := by
  unfold f_L_call
  rw [if_neg (by decide), if_neg (by decide), if_neg (by decide), if_neg (by decide), if_neg (by decide), if_pos rfl]
  exact act2 (goOn_c ho hc hs p)
theorem call_6 (ho : aOk a) (hc : cV a x.1) (hs : f_X0_save x.2.2.1 x.1 = some x2) (p q r : Int32) : Act2 a x x2 (f_L_call 6 p q r x) := by
  unfold f_L_call
  rw [if_neg (by decide), if_neg (by decide), if_neg (by decide), if_neg (by decide), if_neg (by decide), if_neg (by decide), if_pos rfl]
  exact act2 (take_c ho hc hs p)
end
