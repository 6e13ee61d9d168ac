/-! The law: each call, the loop, the start. -/
theorem lgc {v : Int64} : lg_cmp v v = 0 := by
  unfold lg_cmp
  rw [if_neg (show ¬ v > v from Int64.lt_irrefl), if_pos rfl]
theorem gi01 {α : Type} {k : Option α} : gi 0 1 k = k := gi_in (c := 0) (n := 1) (by omega) (by decide)
theorem upL0 {w : FnL} {v : Int64} : vp_updL w (0 : Int32).toNatClampNeg v (0 : Int32).toNatClampNeg = v := by simp [vp_updL]
section
variable {K : ClC → MdC → FnL → Option Int32} {x : ClC} {w : FnL}
theorem blk {cs : List (Nat × Int32)} {cl : Option (Nat ⊕ (Int32 × ClC))} {md : Option (Int32 × MdC)} {X : Nat → Option (Int32 × ClC × FnL)} (hA : Ans cs x cl md) (hX : ∀ q ∈ cs, X q.1 = some (q.2, x, w) ∧ ¬ q.2 = 0) (hK : ∀ x2 o2 w2, Rel x2 o2 → K x2 o2 w2 = some 1) : (Option.bind (ct cl (fun z1 => gi 0 1 <| some (0, z1.2, (vp_updL w (0 : Int32).toNatClampNeg z1.1.toInt64))) X) fun z91 => Option.bind md fun z93 => Option.bind (f_X6_thrown z93.2) fun z94 =>
      if z94 = z91.1 then
        if z91.1 = 0 then
          gi 0 1 <|
          if (lg_cmp (z91.2.2 (0 : Int32).toNatClampNeg) z93.1.toInt64) = 0 then
            K z91.2.1 z93.2 z91.2.2
          else
            some 0
        else
          K z91.2.1 z93.2 z91.2.2
      else
        some 0) = some 1 := by
  rcases hA with ⟨r, x2, o2, h1, h2, h3, h4⟩ | ⟨n, c, r, o2, h1, h2, h3, h4, h5⟩
  · rw [h1, h2]
    show (Option.bind (gi 0 1 <| some ((0 : Int32), x2, (vp_updL w (0 : Int32).toNatClampNeg r.toInt64))) _) = _
    rw [gi01, Option.bind_some, Option.bind_some]
    show (if o2.1 = (0 : Int32) then if (0 : Int32) = 0 then gi 0 1 <| if (lg_cmp (vp_updL w (0 : Int32).toNatClampNeg r.toInt64 (0 : Int32).toNatClampNeg) r.toInt64) = 0 then K x2 o2 (vp_updL w (0 : Int32).toNatClampNeg r.toInt64) else some 0 else K x2 o2 (vp_updL w (0 : Int32).toNatClampNeg r.toInt64) else some 0) = _
    rw [if_pos h3, if_pos rfl, gi01, upL0, lgc, if_pos rfl]
    exact hK _ _ _ h4
  · obtain ⟨g1, g2⟩ := hX _ h2
    rw [h1, h3]
    show (Option.bind (X n) _) = _
    rw [show X n = some (c, x, w) from g1, Option.bind_some, Option.bind_some]
    show (if o2.1 = c then if c = 0 then gi 0 1 <| if (lg_cmp (w (0 : Int32).toNatClampNeg) r.toInt64) = 0 then K x o2 w else some 0 else K x o2 w else some 0) = _
    rw [if_pos h4, if_neg g2]
    exact hK _ _ _ h5
theorem blkL {cs : List (Nat × Int32)} {cl : Option (Nat ⊕ Int32)} {md : Option (Int32 × MdC)} {X : Nat → Option (Int32 × FnL)} (hA : AnL cs x cl md) (hX : ∀ q ∈ cs, X q.1 = some (q.2, w) ∧ ¬ q.2 = 0) (hK : ∀ x2 o2 w2, Rel x2 o2 → K x2 o2 w2 = some 1) : (Option.bind (ct cl (fun z1 => gi 0 1 <| some (0, (vp_updL w (0 : Int32).toNatClampNeg z1.toInt64))) X) fun z91 => Option.bind md fun z93 => Option.bind (f_X6_thrown z93.2) fun z94 =>
      if z94 = z91.1 then
        if z91.1 = 0 then
          gi 0 1 <|
          if (lg_cmp (z91.2 (0 : Int32).toNatClampNeg) z93.1.toInt64) = 0 then
            K x z93.2 z91.2
          else
            some 0
        else
          K x z93.2 z91.2
      else
        some 0) = some 1 := by
  rcases hA with ⟨r, o2, h1, h2, h3, h4⟩ | ⟨n, c, r, o2, h1, h2, h3, h4, h5⟩
  · rw [h1, h2]
    show (Option.bind (gi 0 1 <| some ((0 : Int32), (vp_updL w (0 : Int32).toNatClampNeg r.toInt64))) _) = _
    rw [gi01, Option.bind_some, Option.bind_some]
    show (if o2.1 = (0 : Int32) then if (0 : Int32) = 0 then gi 0 1 <| if (lg_cmp (vp_updL w (0 : Int32).toNatClampNeg r.toInt64 (0 : Int32).toNatClampNeg) r.toInt64) = 0 then K x o2 (vp_updL w (0 : Int32).toNatClampNeg r.toInt64) else some 0 else K x o2 (vp_updL w (0 : Int32).toNatClampNeg r.toInt64) else some 0) = _
    rw [if_pos h3, if_pos rfl, gi01, upL0, lgc, if_pos rfl]
    exact hK _ _ _ h4
  · obtain ⟨g1, g2⟩ := hX _ h2
    rw [h1, h3]
    show (Option.bind (X n) _) = _
    rw [show X n = some (c, w) from g1, Option.bind_some, Option.bind_some]
    show (if o2.1 = c then if c = 0 then gi 0 1 <| if (lg_cmp (w (0 : Int32).toNatClampNeg) r.toInt64) = 0 then K x o2 w else some 0 else K x o2 w else some 0) = _
    rw [if_pos h4, if_neg g2]
    exact hK _ _ _ h5
theorem blkS {cl : Option (Int32 × ClC)} {md : Option (Int32 × MdC)} (hA : AnS cl md) (hK : ∀ x2 o2 w2, Rel x2 o2 → K x2 o2 w2 = some 1) : (Option.bind cl fun z64 => Option.bind md fun z66 => if z64.1 = z66.1 then K z64.2 z66.2 w else some 0) = some 1 := by
  obtain ⟨r, x2, o2, h1, h2, h3⟩ := hA
  rw [h1, h2, Option.bind_some, Option.bind_some]
  show (if r = r then K x2 o2 w else some 0) = _
  rw [if_pos rfl]
  exact hK _ _ _ h3
theorem blkK {cl : Option Int32} {md : Option (Int32 × MdC)} (hA : AnK x cl md) (hK : ∀ x2 o2 w2, Rel x2 o2 → K x2 o2 w2 = some 1) : (Option.bind cl fun z64 => Option.bind md fun z66 => if z64 = z66.1 then K x z66.2 w else some 0) = some 1 := by
  obtain ⟨r, o2, h1, h2, h3⟩ := hA
  rw [h1, h2, Option.bind_some, Option.bind_some]
  show (if r = r then K x o2 w else some 0) = _
  rw [if_pos rfl]
  exact hK _ _ _ h3
end
theorem cs1 {p : (Nat × Int32) → Prop} {a : Nat × Int32} (h1 : p a) : ∀ q ∈ [a], p q := fun q hq => by
  rw [List.mem_singleton] at hq
  rw [hq]
  exact h1
theorem cs2 {p : (Nat × Int32) → Prop} {a b : Nat × Int32} (h1 : p a) (h2 : p b) : ∀ q ∈ [a, b], p q := fun q hq => by
  rcases List.mem_cons.mp hq with h | h
  · rw [h]; exact h1
  · exact cs1 h2 q h
theorem cs3 {p : (Nat × Int32) → Prop} {a b c : Nat × Int32} (h1 : p a) (h2 : p b) (h3 : p c) : ∀ q ∈ [a, b, c], p q := fun q hq => by
  rcases List.mem_cons.mp hq with h | h
  · rw [h]; exact h1
  · exact cs2 h2 h3 q h
section
variable {L : Nat} {xs : Fn} {k23 : Int32 → ClC → MdC → FnL → Option Int32} {i : Nat} {x : ClC} {o : MdC} {w : FnL}
theorem b_put (hL : L ≤ 2560) (hi : i + 5 ≤ L) (hR : Rel x o) (hK : ∀ x2 o2 w2, Rel x2 o2 → k23 (nI (i + 5)) x2 o2 w2 = some 1) : f_L_law_156 L xs k23 (nI i) x o w = some 1 := by
  have e5 : nI i + 5 = nI (i + 5) := by rw [li5, nI_add]
  have e1 : nI i + 1 = nI (i + 1) := by rw [show (1 : Int32) = nI 1 from rfl, nI_add]
  have g1 : ∀ {α : Type} (kk : Option α), gi (nI (i + 1)) L kk = kk := fun kk => gi_in (by omega) (by omega)
  have c1 : (nI (i + 1)).toNatClampNeg = i + 1 := nI_clamp (by omega)
  have e2 : nI i + 2 = nI (i + 2) := by rw [show (2 : Int32) = nI 2 from rfl, nI_add]
  have g2 : ∀ {α : Type} (kk : Option α), gi (nI (i + 2)) L kk = kk := fun kk => gi_in (by omega) (by omega)
  have c2 : (nI (i + 2)).toNatClampNeg = i + 2 := nI_clamp (by omega)
  have e3 : nI i + 3 = nI (i + 3) := by rw [show (3 : Int32) = nI 3 from rfl, nI_add]
  have g3 : ∀ {α : Type} (kk : Option α), gi (nI (i + 3)) L kk = kk := fun kk => gi_in (by omega) (by omega)
  have c3 : (nI (i + 3)).toNatClampNeg = i + 3 := nI_clamp (by omega)
  unfold f_L_law_156 f_L_put
  simp only [e5, e1, e2, e3, g1, g2, g3, c1, c2, c3]
  exact blk (K := fun x2 o2 w2 => k23 (nI (i + 5)) x2 o2 w2) (put_call hR _ _ _) (cs2 ⟨rfl, by decide⟩ ⟨rfl, by decide⟩) hK
theorem b_putBehind (hL : L ≤ 2560) (hi : i + 5 ≤ L) (hR : Rel x o) (hK : ∀ x2 o2 w2, Rel x2 o2 → k23 (nI (i + 5)) x2 o2 w2 = some 1) : f_L_law_236 L xs k23 (nI i) x o w = some 1 := by
  have e5 : nI i + 5 = nI (i + 5) := by rw [li5, nI_add]
  have e1 : nI i + 1 = nI (i + 1) := by rw [show (1 : Int32) = nI 1 from rfl, nI_add]
  have g1 : ∀ {α : Type} (kk : Option α), gi (nI (i + 1)) L kk = kk := fun kk => gi_in (by omega) (by omega)
  have c1 : (nI (i + 1)).toNatClampNeg = i + 1 := nI_clamp (by omega)
  have e2 : nI i + 2 = nI (i + 2) := by rw [show (2 : Int32) = nI 2 from rfl, nI_add]
  have g2 : ∀ {α : Type} (kk : Option α), gi (nI (i + 2)) L kk = kk := fun kk => gi_in (by omega) (by omega)
  have c2 : (nI (i + 2)).toNatClampNeg = i + 2 := nI_clamp (by omega)
  have e3 : nI i + 3 = nI (i + 3) := by rw [show (3 : Int32) = nI 3 from rfl, nI_add]
  have g3 : ∀ {α : Type} (kk : Option α), gi (nI (i + 3)) L kk = kk := fun kk => gi_in (by omega) (by omega)
  have c3 : (nI (i + 3)).toNatClampNeg = i + 3 := nI_clamp (by omega)
  have e4 : nI i + 4 = nI (i + 4) := by rw [show (4 : Int32) = nI 4 from rfl, nI_add]
  have g4 : ∀ {α : Type} (kk : Option α), gi (nI (i + 4)) L kk = kk := fun kk => gi_in (by omega) (by omega)
  have c4 : (nI (i + 4)).toNatClampNeg = i + 4 := nI_clamp (by omega)
  unfold f_L_law_236 f_L_putBehind
  simp only [e5, e1, e2, e3, e4, g1, g2, g3, g4, c1, c2, c3, c4]
  exact blk (K := fun x2 o2 w2 => k23 (nI (i + 5)) x2 o2 w2) (putBehind_call hR _ _ _ _) (cs3 ⟨rfl, by decide⟩ ⟨rfl, by decide⟩ ⟨rfl, by decide⟩) hK
theorem b_remove (hL : L ≤ 2560) (hi : i + 5 ≤ L) (hR : Rel x o) (hK : ∀ x2 o2 w2, Rel x2 o2 → k23 (nI (i + 5)) x2 o2 w2 = some 1) : f_L_law_328 L xs k23 (nI i) x o w = some 1 := by
  have e5 : nI i + 5 = nI (i + 5) := by rw [li5, nI_add]
  have e1 : nI i + 1 = nI (i + 1) := by rw [show (1 : Int32) = nI 1 from rfl, nI_add]
  have g1 : ∀ {α : Type} (kk : Option α), gi (nI (i + 1)) L kk = kk := fun kk => gi_in (by omega) (by omega)
  have c1 : (nI (i + 1)).toNatClampNeg = i + 1 := nI_clamp (by omega)
  unfold f_L_law_328 f_L_remove
  simp only [e5, e1, g1, c1]
  exact blk (K := fun x2 o2 w2 => k23 (nI (i + 5)) x2 o2 w2) (remove_call hR _) (cs1 ⟨rfl, by decide⟩) hK
theorem b_change (hL : L ≤ 2560) (hi : i + 5 ≤ L) (hR : Rel x o) (hK : ∀ x2 o2 w2, Rel x2 o2 → k23 (nI (i + 5)) x2 o2 w2 = some 1) : f_L_law_384 L xs k23 (nI i) x o w = some 1 := by
  have e5 : nI i + 5 = nI (i + 5) := by rw [li5, nI_add]
  have e1 : nI i + 1 = nI (i + 1) := by rw [show (1 : Int32) = nI 1 from rfl, nI_add]
  have g1 : ∀ {α : Type} (kk : Option α), gi (nI (i + 1)) L kk = kk := fun kk => gi_in (by omega) (by omega)
  have c1 : (nI (i + 1)).toNatClampNeg = i + 1 := nI_clamp (by omega)
  have e2 : nI i + 2 = nI (i + 2) := by rw [show (2 : Int32) = nI 2 from rfl, nI_add]
  have g2 : ∀ {α : Type} (kk : Option α), gi (nI (i + 2)) L kk = kk := fun kk => gi_in (by omega) (by omega)
  have c2 : (nI (i + 2)).toNatClampNeg = i + 2 := nI_clamp (by omega)
  unfold f_L_law_384 f_L_change
  simp only [e5, e1, e2, g1, g2, c1, c2]
  exact blk (K := fun x2 o2 w2 => k23 (nI (i + 5)) x2 o2 w2) (change_call hR _ _) (cs2 ⟨rfl, by decide⟩ ⟨rfl, by decide⟩) hK
theorem b_restart (hL : L ≤ 2560) (hi : i + 5 ≤ L) (hR : Rel x o) (hK : ∀ x2 o2 w2, Rel x2 o2 → k23 (nI (i + 5)) x2 o2 w2 = some 1) : f_L_law_452 L xs k23 (nI i) x o w = some 1 := by
  have e5 : nI i + 5 = nI (i + 5) := by rw [li5, nI_add]
  have e1 : nI i + 1 = nI (i + 1) := by rw [show (1 : Int32) = nI 1 from rfl, nI_add]
  have g1 : ∀ {α : Type} (kk : Option α), gi (nI (i + 1)) L kk = kk := fun kk => gi_in (by omega) (by omega)
  have c1 : (nI (i + 1)).toNatClampNeg = i + 1 := nI_clamp (by omega)
  unfold f_L_law_452 f_L_restart
  simp only [e5, e1, g1, c1]
  exact blk (K := fun x2 o2 w2 => k23 (nI (i + 5)) x2 o2 w2) (restart_call hR _) (cs1 ⟨rfl, by decide⟩) hK
theorem b_goOn (hL : L ≤ 2560) (hi : i + 5 ≤ L) (hR : Rel x o) (hK : ∀ x2 o2 w2, Rel x2 o2 → k23 (nI (i + 5)) x2 o2 w2 = some 1) : f_L_law_508 L xs k23 (nI i) x o w = some 1 := by
  have e5 : nI i + 5 = nI (i + 5) := by rw [li5, nI_add]
  have e1 : nI i + 1 = nI (i + 1) := by rw [show (1 : Int32) = nI 1 from rfl, nI_add]
  have g1 : ∀ {α : Type} (kk : Option α), gi (nI (i + 1)) L kk = kk := fun kk => gi_in (by omega) (by omega)
  have c1 : (nI (i + 1)).toNatClampNeg = i + 1 := nI_clamp (by omega)
  unfold f_L_law_508 f_L_goOn
  simp only [e5, e1, g1, c1]
  exact blk (K := fun x2 o2 w2 => k23 (nI (i + 5)) x2 o2 w2) (goOn_call hR _) (cs1 ⟨rfl, by decide⟩) hK
theorem b_take (hL : L ≤ 2560) (hi : i + 5 ≤ L) (hR : Rel x o) (hK : ∀ x2 o2 w2, Rel x2 o2 → k23 (nI (i + 5)) x2 o2 w2 = some 1) : f_L_law_564 L xs k23 (nI i) x o w = some 1 := by
  have e5 : nI i + 5 = nI (i + 5) := by rw [li5, nI_add]
  have e1 : nI i + 1 = nI (i + 1) := by rw [show (1 : Int32) = nI 1 from rfl, nI_add]
  have g1 : ∀ {α : Type} (kk : Option α), gi (nI (i + 1)) L kk = kk := fun kk => gi_in (by omega) (by omega)
  have c1 : (nI (i + 1)).toNatClampNeg = i + 1 := nI_clamp (by omega)
  unfold f_L_law_564 f_L_take
  simp only [e5, e1, g1, c1]
  exact blk (K := fun x2 o2 w2 => k23 (nI (i + 5)) x2 o2 w2) (take_call hR _) (cs2 ⟨rfl, by decide⟩ ⟨rfl, by decide⟩) hK
theorem b_append (hL : L ≤ 2560) (hi : i + 5 ≤ L) (hR : Rel x o) (hK : ∀ x2 o2 w2, Rel x2 o2 → k23 (nI (i + 5)) x2 o2 w2 = some 1) : f_L_law_646 L xs k23 (nI i) x o w = some 1 := by
  have e5 : nI i + 5 = nI (i + 5) := by rw [li5, nI_add]
  have e1 : nI i + 1 = nI (i + 1) := by rw [show (1 : Int32) = nI 1 from rfl, nI_add]
  have g1 : ∀ {α : Type} (kk : Option α), gi (nI (i + 1)) L kk = kk := fun kk => gi_in (by omega) (by omega)
  have c1 : (nI (i + 1)).toNatClampNeg = i + 1 := nI_clamp (by omega)
  unfold f_L_law_646 f_L_append
  simp only [e5, e1, g1, c1]
  exact blk (K := fun x2 o2 w2 => k23 (nI (i + 5)) x2 o2 w2) (append_call hR _) (cs2 ⟨rfl, by decide⟩ ⟨rfl, by decide⟩) hK
theorem b_putAll (hL : L ≤ 2560) (hi : i + 5 ≤ L) (hR : Rel x o) (hK : ∀ x2 o2 w2, Rel x2 o2 → k23 (nI (i + 5)) x2 o2 w2 = some 1) : f_L_law_728 L xs k23 (nI i) x o w = some 1 := by
  have e5 : nI i + 5 = nI (i + 5) := by rw [li5, nI_add]
  unfold f_L_law_728 f_L_putAll
  simp only [e5]
  exact blk (K := fun x2 o2 w2 => k23 (nI (i + 5)) x2 o2 w2) (putAll_call hR) (cs1 ⟨rfl, by decide⟩) hK
theorem b_undo (hL : L ≤ 2560) (hi : i + 5 ≤ L) (hR : Rel x o) (hK : ∀ x2 o2 w2, Rel x2 o2 → k23 (nI (i + 5)) x2 o2 w2 = some 1) : f_L_law_772 L xs k23 (nI i) x o w = some 1 := by
  have e5 : nI i + 5 = nI (i + 5) := by rw [li5, nI_add]
  unfold f_L_law_772 f_L_undo
  simp only [e5]
  exact blk (K := fun x2 o2 w2 => k23 (nI (i + 5)) x2 o2 w2) (undo_call hR) (cs1 ⟨rfl, by decide⟩) hK
theorem b_ifFired (hL : L ≤ 2560) (hi : i + 5 ≤ L) (hR : Rel x o) (hK : ∀ x2 o2 w2, Rel x2 o2 → k23 (nI (i + 5)) x2 o2 w2 = some 1) : f_L_law_1269 L xs k23 (nI i) x o w = some 1 := by
  have e5 : nI i + 5 = nI (i + 5) := by rw [li5, nI_add]
  have e1 : nI i + 1 = nI (i + 1) := by rw [show (1 : Int32) = nI 1 from rfl, nI_add]
  have g1 : ∀ {α : Type} (kk : Option α), gi (nI (i + 1)) L kk = kk := fun kk => gi_in (by omega) (by omega)
  have c1 : (nI (i + 1)).toNatClampNeg = i + 1 := nI_clamp (by omega)
  have e2 : nI i + 2 = nI (i + 2) := by rw [show (2 : Int32) = nI 2 from rfl, nI_add]
  have g2 : ∀ {α : Type} (kk : Option α), gi (nI (i + 2)) L kk = kk := fun kk => gi_in (by omega) (by omega)
  have c2 : (nI (i + 2)).toNatClampNeg = i + 2 := nI_clamp (by omega)
  unfold f_L_law_1269 f_L_ifFired
  simp only [e5, e1, e2, g1, g2, c1, c2]
  exact blk (K := fun x2 o2 w2 => k23 (nI (i + 5)) x2 o2 w2) (ifFired_call hR _ _) (cs1 ⟨rfl, by decide⟩) hK
theorem b_thing (hL : L ≤ 2560) (hi : i + 5 ≤ L) (hR : Rel x o) (hK : ∀ x2 o2 w2, Rel x2 o2 → k23 (nI (i + 5)) x2 o2 w2 = some 1) : f_L_law_841 L xs k23 (nI i) x o w = some 1 := by
  have e5 : nI i + 5 = nI (i + 5) := by rw [li5, nI_add]
  have e1 : nI i + 1 = nI (i + 1) := by rw [show (1 : Int32) = nI 1 from rfl, nI_add]
  have g1 : ∀ {α : Type} (kk : Option α), gi (nI (i + 1)) L kk = kk := fun kk => gi_in (by omega) (by omega)
  have c1 : (nI (i + 1)).toNatClampNeg = i + 1 := nI_clamp (by omega)
  have e2 : nI i + 2 = nI (i + 2) := by rw [show (2 : Int32) = nI 2 from rfl, nI_add]
  have g2 : ∀ {α : Type} (kk : Option α), gi (nI (i + 2)) L kk = kk := fun kk => gi_in (by omega) (by omega)
  have c2 : (nI (i + 2)).toNatClampNeg = i + 2 := nI_clamp (by omega)
  unfold f_L_law_841 f_L_thing
  simp only [e5, e1, e2, g1, g2, c1, c2]
  exact blkL (K := fun x2 o2 w2 => k23 (nI (i + 5)) x2 o2 w2) (thing_call hR _ _) (cs2 ⟨rfl, by decide⟩ ⟨rfl, by decide⟩) hK
theorem b_at (hL : L ≤ 2560) (hi : i + 5 ≤ L) (hR : Rel x o) (hK : ∀ x2 o2 w2, Rel x2 o2 → k23 (nI (i + 5)) x2 o2 w2 = some 1) : f_L_law_909 L xs k23 (nI i) x o w = some 1 := by
  have e5 : nI i + 5 = nI (i + 5) := by rw [li5, nI_add]
  have e1 : nI i + 1 = nI (i + 1) := by rw [show (1 : Int32) = nI 1 from rfl, nI_add]
  have g1 : ∀ {α : Type} (kk : Option α), gi (nI (i + 1)) L kk = kk := fun kk => gi_in (by omega) (by omega)
  have c1 : (nI (i + 1)).toNatClampNeg = i + 1 := nI_clamp (by omega)
  unfold f_L_law_909 f_L_at
  simp only [e5, e1, g1, c1]
  exact blkL (K := fun x2 o2 w2 => k23 (nI (i + 5)) x2 o2 w2) (at_call hR _) (cs1 ⟨rfl, by decide⟩) hK
theorem b_cell (hL : L ≤ 2560) (hi : i + 5 ≤ L) (hR : Rel x o) (hK : ∀ x2 o2 w2, Rel x2 o2 → k23 (nI (i + 5)) x2 o2 w2 = some 1) : f_L_law_965 L xs k23 (nI i) x o w = some 1 := by
  have e5 : nI i + 5 = nI (i + 5) := by rw [li5, nI_add]
  have e1 : nI i + 1 = nI (i + 1) := by rw [show (1 : Int32) = nI 1 from rfl, nI_add]
  have g1 : ∀ {α : Type} (kk : Option α), gi (nI (i + 1)) L kk = kk := fun kk => gi_in (by omega) (by omega)
  have c1 : (nI (i + 1)).toNatClampNeg = i + 1 := nI_clamp (by omega)
  have e2 : nI i + 2 = nI (i + 2) := by rw [show (2 : Int32) = nI 2 from rfl, nI_add]
  have g2 : ∀ {α : Type} (kk : Option α), gi (nI (i + 2)) L kk = kk := fun kk => gi_in (by omega) (by omega)
  have c2 : (nI (i + 2)).toNatClampNeg = i + 2 := nI_clamp (by omega)
  unfold f_L_law_965 f_L_cell
  simp only [e5, e1, e2, g1, g2, c1, c2]
  exact blkL (K := fun x2 o2 w2 => k23 (nI (i + 5)) x2 o2 w2) (cell_call hR _ _) (cs2 ⟨rfl, by decide⟩ ⟨rfl, by decide⟩) hK
theorem b_walker (hL : L ≤ 2560) (hi : i + 5 ≤ L) (hR : Rel x o) (hK : ∀ x2 o2 w2, Rel x2 o2 → k23 (nI (i + 5)) x2 o2 w2 = some 1) : f_L_law_1033 L xs k23 (nI i) x o w = some 1 := by
  have e5 : nI i + 5 = nI (i + 5) := by rw [li5, nI_add]
  have e1 : nI i + 1 = nI (i + 1) := by rw [show (1 : Int32) = nI 1 from rfl, nI_add]
  have g1 : ∀ {α : Type} (kk : Option α), gi (nI (i + 1)) L kk = kk := fun kk => gi_in (by omega) (by omega)
  have c1 : (nI (i + 1)).toNatClampNeg = i + 1 := nI_clamp (by omega)
  have e2 : nI i + 2 = nI (i + 2) := by rw [show (2 : Int32) = nI 2 from rfl, nI_add]
  have g2 : ∀ {α : Type} (kk : Option α), gi (nI (i + 2)) L kk = kk := fun kk => gi_in (by omega) (by omega)
  have c2 : (nI (i + 2)).toNatClampNeg = i + 2 := nI_clamp (by omega)
  unfold f_L_law_1033 f_L_walker
  simp only [e5, e1, e2, g1, g2, c1, c2]
  exact blkL (K := fun x2 o2 w2 => k23 (nI (i + 5)) x2 o2 w2) (walker_call hR _ _) (cs2 ⟨rfl, by decide⟩ ⟨rfl, by decide⟩) hK
theorem b_count (hL : L ≤ 2560) (hi : i + 5 ≤ L) (hR : Rel x o) (hK : ∀ x2 o2 w2, Rel x2 o2 → k23 (nI (i + 5)) x2 o2 w2 = some 1) : f_L_law_1101 L xs k23 (nI i) x o w = some 1 := by
  have e5 : nI i + 5 = nI (i + 5) := by rw [li5, nI_add]
  have e1 : nI i + 1 = nI (i + 1) := by rw [show (1 : Int32) = nI 1 from rfl, nI_add]
  have g1 : ∀ {α : Type} (kk : Option α), gi (nI (i + 1)) L kk = kk := fun kk => gi_in (by omega) (by omega)
  have c1 : (nI (i + 1)).toNatClampNeg = i + 1 := nI_clamp (by omega)
  unfold f_L_law_1101 f_L_count
  simp only [e5, e1, g1, c1]
  exact blkL (K := fun x2 o2 w2 => k23 (nI (i + 5)) x2 o2 w2) (count_call hR _) (cs1 ⟨rfl, by decide⟩) hK
theorem b_begins (hL : L ≤ 2560) (hi : i + 5 ≤ L) (hR : Rel x o) (hK : ∀ x2 o2 w2, Rel x2 o2 → k23 (nI (i + 5)) x2 o2 w2 = some 1) : f_L_law_1157 L xs k23 (nI i) x o w = some 1 := by
  have e5 : nI i + 5 = nI (i + 5) := by rw [li5, nI_add]
  have e1 : nI i + 1 = nI (i + 1) := by rw [show (1 : Int32) = nI 1 from rfl, nI_add]
  have g1 : ∀ {α : Type} (kk : Option α), gi (nI (i + 1)) L kk = kk := fun kk => gi_in (by omega) (by omega)
  have c1 : (nI (i + 1)).toNatClampNeg = i + 1 := nI_clamp (by omega)
  unfold f_L_law_1157 f_L_begins
  simp only [e5, e1, g1, c1]
  exact blkL (K := fun x2 o2 w2 => k23 (nI (i + 5)) x2 o2 w2) (begins_call hR _) (cs1 ⟨rfl, by decide⟩) hK
theorem b_gap (hL : L ≤ 2560) (hi : i + 5 ≤ L) (hR : Rel x o) (hK : ∀ x2 o2 w2, Rel x2 o2 → k23 (nI (i + 5)) x2 o2 w2 = some 1) : f_L_law_1213 L xs k23 (nI i) x o w = some 1 := by
  have e5 : nI i + 5 = nI (i + 5) := by rw [li5, nI_add]
  have e1 : nI i + 1 = nI (i + 1) := by rw [show (1 : Int32) = nI 1 from rfl, nI_add]
  have g1 : ∀ {α : Type} (kk : Option α), gi (nI (i + 1)) L kk = kk := fun kk => gi_in (by omega) (by omega)
  have c1 : (nI (i + 1)).toNatClampNeg = i + 1 := nI_clamp (by omega)
  unfold f_L_law_1213 f_L_gap
  simp only [e5, e1, g1, c1]
  exact blkL (K := fun x2 o2 w2 => k23 (nI (i + 5)) x2 o2 w2) (gap_call hR _) (cs1 ⟨rfl, by decide⟩) hK
theorem b_fire (hL : L ≤ 2560) (hi : i + 5 ≤ L) (hR : Rel x o) (hK : ∀ x2 o2 w2, Rel x2 o2 → k23 (nI (i + 5)) x2 o2 w2 = some 1) : f_L_law_620 L xs k23 (nI i) x o w = some 1 := by
  have e5 : nI i + 5 = nI (i + 5) := by rw [li5, nI_add]
  unfold f_L_law_620
  simp only [e5]
  exact blkS (K := fun x2 o2 w2 => k23 (nI (i + 5)) x2 o2 w2) (fire_call hR) hK
theorem b_together (hL : L ≤ 2560) (hi : i + 5 ≤ L) (hR : Rel x o) (hK : ∀ x2 o2 w2, Rel x2 o2 → k23 (nI (i + 5)) x2 o2 w2 = some 1) : f_L_law_633 L xs k23 (nI i) x o w = some 1 := by
  have e5 : nI i + 5 = nI (i + 5) := by rw [li5, nI_add]
  unfold f_L_law_633
  simp only [e5]
  exact blkS (K := fun x2 o2 w2 => k23 (nI (i + 5)) x2 o2 w2) (together_call hR) hK
theorem b_clearBuffer (hL : L ≤ 2560) (hi : i + 5 ≤ L) (hR : Rel x o) (hK : ∀ x2 o2 w2, Rel x2 o2 → k23 (nI (i + 5)) x2 o2 w2 = some 1) : f_L_law_702 L xs k23 (nI i) x o w = some 1 := by
  have e5 : nI i + 5 = nI (i + 5) := by rw [li5, nI_add]
  unfold f_L_law_702
  simp only [e5]
  exact blkS (K := fun x2 o2 w2 => k23 (nI (i + 5)) x2 o2 w2) (clear_call hR) hK
theorem b_firstError (hL : L ≤ 2560) (hi : i + 5 ≤ L) (hR : Rel x o) (hK : ∀ x2 o2 w2, Rel x2 o2 → k23 (nI (i + 5)) x2 o2 w2 = some 1) : f_L_law_715 L xs k23 (nI i) x o w = some 1 := by
  have e5 : nI i + 5 = nI (i + 5) := by rw [li5, nI_add]
  unfold f_L_law_715
  simp only [e5]
  exact blkK (K := fun x2 o2 w2 => k23 (nI (i + 5)) x2 o2 w2) (error_call hR) hK
theorem b_refusal (hL : L ≤ 2560) (hi : i + 5 ≤ L) (hR : Rel x o) (hK : ∀ x2 o2 w2, Rel x2 o2 → k23 (nI (i + 5)) x2 o2 w2 = some 1) : f_L_law_816 L xs k23 (nI i) x o w = some 1 := by
  have e5 : nI i + 5 = nI (i + 5) := by rw [li5, nI_add]
  have e1 : nI i + 1 = nI (i + 1) := by rw [show (1 : Int32) = nI 1 from rfl, nI_add]
  have g1 : ∀ {α : Type} (kk : Option α), gi (nI (i + 1)) L kk = kk := fun kk => gi_in (by omega) (by omega)
  have c1 : (nI (i + 1)).toNatClampNeg = i + 1 := nI_clamp (by omega)
  unfold f_L_law_816
  simp only [e5, e1, g1, c1]
  exact blkK (K := fun x2 o2 w2 => k23 (nI (i + 5)) x2 o2 w2) (refusal_call hR _) hK
theorem b_room (hL : L ≤ 2560) (hi : i + 5 ≤ L) (hR : Rel x o) (hK : ∀ x2 o2 w2, Rel x2 o2 → k23 (nI (i + 5)) x2 o2 w2 = some 1) : f_L_law_1337 L xs k23 (nI i) x o w = some 1 := by
  have e5 : nI i + 5 = nI (i + 5) := by rw [li5, nI_add]
  have e1 : nI i + 1 = nI (i + 1) := by rw [show (1 : Int32) = nI 1 from rfl, nI_add]
  have g1 : ∀ {α : Type} (kk : Option α), gi (nI (i + 1)) L kk = kk := fun kk => gi_in (by omega) (by omega)
  have c1 : (nI (i + 1)).toNatClampNeg = i + 1 := nI_clamp (by omega)
  have e2 : nI i + 2 = nI (i + 2) := by rw [show (2 : Int32) = nI 2 from rfl, nI_add]
  have g2 : ∀ {α : Type} (kk : Option α), gi (nI (i + 2)) L kk = kk := fun kk => gi_in (by omega) (by omega)
  have c2 : (nI (i + 2)).toNatClampNeg = i + 2 := nI_clamp (by omega)
  unfold f_L_law_1337 f_L_law_1358 f_L_law_1385 f_L_room
  simp only [e5, e1, e2, g1, g2, c1, c2]
  by_cases h9 : xs (i + 2) = 0
  · simp only [if_pos h9]
    exact blkL (K := fun x2 o2 w2 => k23 (nI (i + 5)) x2 o2 w2) (room_call hR _ (Or.inl rfl)) (cs1 ⟨rfl, by decide⟩) hK
  · simp only [if_neg h9]
    exact blkL (K := fun x2 o2 w2 => k23 (nI (i + 5)) x2 o2 w2) (room_call hR _ (Or.inr rfl)) (cs1 ⟨rfl, by decide⟩) hK
theorem b_fullness (hL : L ≤ 2560) (hi : i + 5 ≤ L) (hR : Rel x o) (hK : ∀ x2 o2 w2, Rel x2 o2 → k23 (nI (i + 5)) x2 o2 w2 = some 1) : f_L_law_1421 L xs k23 (nI i) x o w = some 1 := by
  have e5 : nI i + 5 = nI (i + 5) := by rw [li5, nI_add]
  obtain ⟨d, o2, h1, h2, h3, h4⟩ := full_call hR
  unfold f_L_law_1421
  rw [h1, h2, Option.bind_some, Option.bind_some, e5]
  show (if (Op.cmpValue (FP.dcmp d d) .l) = 0 then k23 (nI (i + 5)) x o2 w else _) = _
  rw [if_pos h4]
  exact hK _ _ _ h3
theorem b_digest (hL : L ≤ 2560) (hi : i + 5 ≤ L) (hR : Rel x o) (hK : ∀ x2 o2 w2, Rel x2 o2 → k23 (nI (i + 5)) x2 o2 w2 = some 1) : f_L_law_1462 L xs k23 (nI i) x o w = some 1 := by
  have e5 : nI i + 5 = nI (i + 5) := by rw [li5, nI_add]
  obtain ⟨r, x2, o2, h1, h2, h3⟩ := digest_call hR
  unfold f_L_law_1462
  rw [h1, h2, Option.bind_some, Option.bind_some, e5]
  show (if lg_cmp r r = 0 then k23 (nI (i + 5)) x2 o2 w else _) = _
  rw [lgc, if_pos rfl]
  exact hK _ _ _ h3
end
theorem itc {c : Prop} [Decidable c] {p q r : Option Int32} (h1 : c → p = r) (h2 : ¬ c → q = r) : (if c then p else q) = r := by
  by_cases h : c
  · rw [if_pos h]; exact h1 h
  · rw [if_neg h]; exact h2 h
theorem law_end {L i : Nat} (hL : L ≤ 2560) (hi : i ≤ L) (hq : ¬ (Int32.ofNat L) - 5 < nI i) : i + 5 ≤ L := by
  by_cases h5 : 5 ≤ L
  · rw [show Int32.ofNat L = nI L from rfl, li5, nI_sub h5] at hq
    have := Nat.not_lt.mp fun q => hq (nI_lt q (by omega))
    omega
  · exfalso
    refine hq (Int32.lt_of_lt_of_le ?_ (nI_pos' (by omega)))
    rcases (show L = 0 ∨ L = 1 ∨ L = 2 ∨ L = 3 ∨ L = 4 by omega) with r | r | r | r | r <;> subst r <;> decide
theorem law_loop {L : Nat} {xs : Fn} (hL : L ≤ 2560) : ∀ (fu i : Nat) (x : ClC) (o : MdC) (w : FnL), i ≤ L → L < i + 5 * fu → Rel x o → f_L_law_23 L xs fu (nI i) x o w = some 1 := by
  intro fu
  induction fu with
  | zero => intro i x o w h1 h2; omega
  | succ fu ih =>
    intro i x o w h1 h2 hR
    rw [f_L_law_23.eq_2]
    refine itc (fun _ => rfl) (fun h3 => ?_)
    have hi := law_end hL h1 h3
    have hK : ∀ x2 o2 w2, Rel x2 o2 → f_L_law_23 L xs fu (nI (i + 5)) x2 o2 w2 = some 1 := fun x2 o2 w2 h4 => ih (i + 5) x2 o2 w2 (by omega) (by omega) h4
    rw [gi_in (by omega) (by omega)]
    refine itc (fun _ => b_put hL hi hR hK) (fun _ => ?_)
    refine itc (fun _ => b_putBehind hL hi hR hK) (fun _ => ?_)
    refine itc (fun _ => b_remove hL hi hR hK) (fun _ => ?_)
    refine itc (fun _ => b_change hL hi hR hK) (fun _ => ?_)
    refine itc (fun _ => b_restart hL hi hR hK) (fun _ => ?_)
    refine itc (fun _ => b_goOn hL hi hR hK) (fun _ => ?_)
    refine itc (fun _ => b_take hL hi hR hK) (fun _ => ?_)
    refine itc (fun _ => b_fire hL hi hR hK) (fun _ => ?_)
    refine itc (fun _ => b_together hL hi hR hK) (fun _ => ?_)
    refine itc (fun _ => b_append hL hi hR hK) (fun _ => ?_)
    refine itc (fun _ => b_clearBuffer hL hi hR hK) (fun _ => ?_)
    refine itc (fun _ => b_firstError hL hi hR hK) (fun _ => ?_)
    refine itc (fun _ => b_putAll hL hi hR hK) (fun _ => ?_)
    refine itc (fun _ => b_undo hL hi hR hK) (fun _ => ?_)
    refine itc (fun _ => b_refusal hL hi hR hK) (fun _ => ?_)
    refine itc (fun _ => b_thing hL hi hR hK) (fun _ => ?_)
    refine itc (fun _ => b_at hL hi hR hK) (fun _ => ?_)
    refine itc (fun _ => b_cell hL hi hR hK) (fun _ => ?_)
    refine itc (fun _ => b_walker hL hi hR hK) (fun _ => ?_)
    refine itc (fun _ => b_count hL hi hR hK) (fun _ => ?_)
    refine itc (fun _ => b_begins hL hi hR hK) (fun _ => ?_)
    refine itc (fun _ => b_gap hL hi hR hK) (fun _ => ?_)
    refine itc (fun _ => b_ifFired hL hi hR hK) (fun _ => ?_)
    refine itc (fun _ => b_room hL hi hR hK) (fun _ => ?_)
    refine itc (fun _ => b_fullness hL hi hR hK) (fun _ => ?_)
    refine itc (fun _ => b_digest hL hi hR hK) (fun _ => ?_)
    rw [li5, nI_add]
    exact hK x o w hR
/-! The start. -/
theorem slots_init : ∀ (fu i : Nat) (x : SlC), 64 - i < fu → i ≤ 64 → ∃ own, f_X2_init_60 fu (nI i) x = some (x.1, x.2.1, own, x.2.2.2) ∧ (∀ c, c < i → own c = x.2.2.1 c) ∧ ∀ c, i ≤ c → c < 64 → own c = -1 := by
  intro fu
  induction fu with
  | zero => intro i x h1; omega
  | succ fu ih =>
    intro i x h1 h2
    rw [f_X2_init_60.eq_2, li64]
    by_cases h3 : i = 64
    · rw [if_pos (nI_le (by omega) (by omega))]
      exact ⟨x.2.2.1, rfl, fun c _ => rfl, fun c q1 q2 => by omega⟩
    · rw [if_neg (nI_ge (by omega) (by omega)), gi_in (by omega) (by decide), nI_clamp (by omega), nI_1]
      obtain ⟨own, g1, g2, g3⟩ := ih (i + 1) (x.1, x.2.1, upd x.2.2.1 i (-1), x.2.2.2) (by omega) (by omega)
      refine ⟨own, g1, fun c q1 => ?_, fun c q1 q2 => ?_⟩
      · rw [g2 c (by omega)]
        exact up_ne _ _ (by omega)
      · by_cases q3 : c = i
        · subst q3
          rw [g2 c (by omega)]
          exact up_eq _ _ _
        · exact g3 c (by omega) q2
theorem row_init : ∀ (fu i : Nat) (x : RwC), 4 - i < fu → i ≤ 4 → ∃ st, f_X1_init_26 fu (nI i) x = some (x.1, x.2.1, st) ∧ (∀ c, c < i → st c = x.2.2 c) ∧ ∀ c, i ≤ c → c < 4 → st c = -1 := by
  intro fu
  induction fu with
  | zero => intro i x h1; omega
  | succ fu ih =>
    intro i x h1 h2
    rw [f_X1_init_26.eq_2, li4]
    by_cases h3 : i = 4
    · rw [if_pos (nI_le (by omega) (by omega))]
      exact ⟨x.2.2, rfl, fun c _ => rfl, fun c q1 q2 => by omega⟩
    · rw [if_neg (nI_ge (by omega) (by omega)), gi_in (by omega) (by decide), nI_clamp (by omega), nI_1]
      obtain ⟨st, g1, g2, g3⟩ := ih (i + 1) (x.1, x.2.1, upd x.2.2 i (-1)) (by omega) (by omega)
      refine ⟨st, g1, fun c q1 => ?_, fun c q1 q2 => ?_⟩
      · rw [g2 c (by omega)]
        exact up_ne _ _ (by omega)
      · by_cases q3 : c = i
        · subst q3
          rw [g2 c (by omega)]
          exact up_eq _ _ _
        · exact g3 c (by omega) q2
theorem model_init {r : Fn × Fn × Int32 × Fn × Int32 × Int32 × Fn × Int32 × Int64} {t : Int32} : ∀ (fu i : Nat) (m : Fn), 4 - i < fu → i ≤ 4 → ∃ m2, f_X6_init_57 fu (nI i) (t, m, r) = some (t, m2, r) ∧ (∀ c, c < 410 + i → m2 c = m c) ∧ ∀ c, i ≤ c → c < 4 → m2 (410 + c) = -1 := by
  intro fu
  induction fu with
  | zero => intro i m h1; omega
  | succ fu ih =>
    intro i m h1 h2
    rw [f_X6_init_57.eq_2, li4]
    by_cases h3 : i = 4
    · rw [if_pos (nI_le (by omega) (by omega))]
      exact ⟨m, rfl, fun c _ => rfl, fun c q1 q2 => by omega⟩
    · rw [if_neg (nI_ge (by omega) (by omega)), li410, nI_add, gi_in (by omega) (by decide), nI_clamp (by omega), nI_1]
      obtain ⟨m2, g1, g2, g3⟩ := ih (i + 1) (upd m (410 + i) (-1)) (by omega) (by omega)
      refine ⟨m2, g1, fun c q1 => ?_, fun c q1 q2 => ?_⟩
      · rw [g2 c (by omega), up_ne _ _ (by omega)]
      · by_cases q3 : c = i
        · subst q3
          rw [g2 _ (by omega), up_eq]
        · exact g3 c (by omega) q2
/-- the state of a new object -/
def aNew : AbT := (16, 0, (fun _ => 0), ((fun _ => 0), (fun _ => 0), (fun _ => 0), (fun _ => 0), fun _ => 0), (fun _ => 0), fun _ => 0)
theorem aNew.ok : aOk aNew := ⟨Or.inl rfl, Nat.zero_le _, fun j hj => absurd hj (Nat.not_lt_zero _), fun i j c hi => absurd hi (Nat.not_lt_zero _), fun j hj => absurd hj (Nat.not_lt_zero _), fun i hi => (by show 0 < 0 + 2; omega), fun c => (by show 0 < 1000; omega)⟩
theorem new_both : ∃ x o, f_X5_init = some x ∧ f_X6_init = some o ∧ Rel x o := by
  obtain ⟨own, a1, a2, a3⟩ := slots_init FU 0 (16, (fun _ => 0), (fun _ => 0), (fun _ => 0), (fun _ => 0), (fun _ => 0), (fun _ => 0)) (by unfold FU; omega) (by omega)
  obtain ⟨st, b1, b2, b3⟩ := row_init FU 0 (0, (fun _ => 0), (fun _ => 0)) (by unfold FU; omega) (by omega)
  obtain ⟨m2, d1, d2, d3⟩ := model_init (t := 0) (r := ((fun _ => 0), (fun _ => 0), 0, (fun _ => 0), 0, 0, (fun _ => 0), 0, 0)) FU 0 (upd (fun _ => 0) 0 16) (by unfold FU; omega) (by omega)
  have hS : f_X2_init = some (16, (fun _ => 0), own, (fun _ => 0), (fun _ => 0), (fun _ => 0), fun _ => 0) := a1
  have hRw : f_X1_init = some (0, (fun _ => 0), st) := b1
  have hM : f_X6_init = some (0, m2, (fun _ => 0), (fun _ => 0), 0, (fun _ => 0), 0, 0, (fun _ => 0), 0, 0) := d1
  have hSt : f_X3_init = some ((16, (fun _ => 0), own, (fun _ => 0), (fun _ => 0), (fun _ => 0), fun _ => 0), (0, (fun _ => 0), st), (fun _ => 0), 0, 0, 0, 0) := by
    unfold f_X3_init
    rw [hS, hRw]
    rfl
  unfold f_X5_init f_X0_init f_X4_init
  rw [hSt, hM]
  refine ⟨_, _, rfl, rfl, aNew, 0, 0, (fun _ => 0), aNew.ok, ⟨⟨rfl, fun c _ => rfl, fun j c hj => absurd hj (Nat.not_lt_zero _), fun c hc _ => a3 c (Nat.zero_le _) hc, fun j hj => absurd hj (Nat.not_lt_zero _), fun c _ _ => rfl⟩, ⟨rfl, fun j hj => absurd hj (Nat.not_lt_zero _), fun k hk => b3 k (Nat.zero_le _) hk⟩, rfl, rfl, rfl, rfl⟩, ⟨?_, ?_, fun k hk => ?_, fun c hc => ?_, fun j hj => absurd hj (Nat.not_lt_zero _), fun k hk => d3 k (Nat.zero_le _) hk⟩, ⟨by omega, rfl, rfl, fun j hj => absurd hj (Nat.not_lt_zero _)⟩, by omega, rfl, rfl, fun j hj => absurd hj (Nat.not_lt_zero _)⟩
  · exact (d2 0 (by omega)).trans (up_eq _ _ _)
  · exact (d2 1 (by omega)).trans (up_ne _ _ (by omega))
  · exact (d2 (2 + k) (by omega)).trans (up_ne _ _ (by omega))
  · exact (d2 (6 + c) (by omega)).trans (up_ne _ _ (by omega))
/-- the law's pure function says true for every script -/
theorem law_true (L : Nat) (xs : Fn) (hL : L ≤ 2560) : f_law L xs = some 1 := by
  obtain ⟨x, o, h1, h2, h3⟩ := new_both
  unfold f_law
  rw [h1, h2, Option.bind_some, Option.bind_some, li0]
  exact law_loop hL 600 0 x o _ (by omega) (by omega) h3
