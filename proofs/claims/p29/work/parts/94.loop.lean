/-! The law's two loops. -/
theorem updL_at (w : FnL) (n : Nat) (H : Int64) : vp_updL w n H n = H := by simp [vp_updL]
theorem updL_ne (w : FnL) {n i : Nat} (H : Int64) (h : i ≠ n) : vp_updL w n H i = w i := by simp [vp_updL, h]
theorem lg_refl (H : Int64) : lg_cmp H H = 0 := by
  unfold lg_cmp
  rw [if_neg (by simp), if_pos rfl]
theorem HB.congr {h n : Nat} {B B2 : Nat → AbT} {x : HiC} (hh : HB h n B x) (hq : ∀ i, i < n → B i = B2 i) : HB h n B2 x := by
  obtain ⟨q1, q2, q3, q4⟩ := hh
  refine ⟨q1, q2, q3, fun i hi => ?_⟩
  rw [← hq (n - h + i) (by omega)]
  exact q4 i hi
theorem undo_t {x : ClC} (h : x.2.2.1.2 = nI 0) : f_X5_undo x = some (.inl 2) := by
  unfold f_X5_undo f_X0_size
  rw [Option.bind_some, h, if_pos (show nI 0 = 0 from rfl)]
theorem undo_c {h n : Nat} {B : Nat → AbT} {x : ClC} (hh : HB (h + 1) n B x.2.2.1) : ∃ y, f_X5_undo x = some (.inr (nI h, (y, x.2.1, (x.2.2.1.1, nI h), x.2.2.2))) ∧ aOk (B (n - 1)) ∧ cV (B (n - 1)) y ∧ HB h (n - 1) B (x.2.2.1.1, nI h) := by
  obtain ⟨y, e1, e2, e3, e4⟩ := hh.undo (st := x.1) (by omega)
  have q := hh.1
  unfold f_X5_undo f_X0_size
  rw [Option.bind_some, hh.2.2.1, if_neg (nI_ne0 (by omega) (by omega)), e1, Option.bind_some, Option.bind_some]
  exact ⟨y, rfl, e2, e3, e4⟩
theorem end_487 {L : Nat} {xs : Fn} {x : ClC} {w : FnL} (h : x.2.2.1.2 = nI 0) : f_L_law_487 L xs x w = some 1 := by
  unfold f_L_law_487
  rw [c_count9 h, rt_r, if_pos (show nI 0 = 0 from rfl), cw9_2 (undo_t h), Option.bind_some, if_pos rfl]
/-- all is brought back, state by state -/
theorem loop_2 {L : Nat} {xs : Fn} {n : Nat} {B : Nat → AbT} {w : FnL} (hn : n ≤ 24) (hw : ∀ i, i ≤ n → ∀ y : ClC, cV (B i) y.1 → f_L_seen y = some (w i)) : ∀ (h j m : Nat) (x : ClC) (fu : Nat), m + j = n → h + j ≤ 6 → cV (B m) x.1 → HB h m B x.2.2.1 → h < fu → f_L_law_425 L xs fu (nI n) (nI j) x w = some 1 := by
  intro h
  induction h with
  | zero =>
    intro j m x fu h1 h2 hc hh hf
    obtain ⟨f, rfl⟩ : ∃ f, fu = f + 1 := ⟨fu - 1, by omega⟩
    rw [f_L_law_425.eq_2, c_count9 hh.2.2.1, rt_r, if_pos (show nI 0 ≤ 0 by decide)]
    exact end_487 hh.2.2.1
  | succ h ih =>
    intro j m x fu h1 h2 hc hh hf
    obtain ⟨f, rfl⟩ : ∃ f, fu = f + 1 := ⟨fu - 1, by omega⟩
    have q2 := hh.2.1
    obtain ⟨y, e1, e2, e3, e4⟩ := undo_c hh
    rw [f_L_law_425.eq_2, c_count9 hh.2.2.1, rt_r, if_neg (show ¬ nI (h + 1) ≤ 0 by rw [li0]; exact nI_ge (by omega) (by omega)), if_neg (nI_ge (by omega) (by omega)), rt_r, li5, if_neg (nI_nlt (by omega) (by omega)), hw m (by omega) x hc, Option.bind_some, nI_sub (by omega), show n - j = m by omega, gi_in (by omega) (by decide), nI_clamp (by omega), lg_refl, if_pos rfl, e1, rt_r]
    show (if nI h = nI (h + 1) - 1 then f_L_law_425 L xs f (nI n) (nI j + 1) (y, x.2.1, (x.2.2.1.1, nI h), x.2.2.2) w else some 0) = some 1
    rw [if_pos (show nI h = nI (h + 1) - 1 by rw [li1, nI_sub (by omega), Nat.add_sub_cancel]), nI_1]
    exact ih (j + 1) (m - 1) _ f (by omega) (by omega) e3 e4 (by omega)
/-- what holds ahead of the k-th act, n of them done -/
def Inv (n : Nat) (B : Nat → AbT) (x : ClC) (w : FnL) : Prop := (∀ i, i ≤ n → aOk (B i)) ∧ cV (B n) x.1 ∧ HB (if n < 6 then n else 6) n B x.2.2.1 ∧ x.2.2.2.2 = nI 0 ∧ (∀ c, aS (B n) c ≤ n) ∧ ∀ i, i < n → ∀ y : ClC, cV (B i) y.1 → f_L_seen y = some (w i)
/-- the number behind an act -/
theorem step_343 {L : Nat} {xs : Fn} {k38 : Int32 → Int32 → ClC → FnL → Option Int32} {a : AbT} {x : ClC} {x2 : HiC} {cl : Option (Int32 × ClC)} {n k h : Nat} {w : FnL} (hA : Act2 a x x2 cl) (hn : n < 64) (hs : f_L_seen x = some (w n)) (h9 : f_X5_count 9 x = some (.inr (nI h))) (K0 : k38 (nI n) (nI (k + 1)) x w = some 1) (K1 : ∀ y a2, aOk a2 → cV a2 y → (∀ c, aS a2 c ≤ aS a c + 1) → k38 (nI (n + 1)) (nI (k + 1)) (y, x.2.1, x2, x.2.2.2) w = some 1) : (Option.bind cl fun z => f_L_law_343 L xs k38 (nI n) (nI k) (nI h) z.1 z.2 w) = some 1 := by
  rcases hA with ⟨r, e, e1⟩ | ⟨r, y, a2, e, e1, e2, e3, e4⟩
  · rw [e, Option.bind_some]
    show f_L_law_343 L xs k38 (nI n) (nI k) (nI h) r x w = some 1
    unfold f_L_law_343
    rw [if_neg e1]
    unfold f_L_law_356
    rw [if_neg (by decide), h9, rt_r, if_pos rfl, hs, Option.bind_some, gi_in hn (by decide), nI_clamp (by omega), lg_refl, if_pos rfl]
    unfold f_L_law_387
    rw [if_neg (by decide)]
    unfold f_L_law_398
    rw [Int32.add_zero, nI_1]
    exact K0
  · rw [e, Option.bind_some]
    show f_L_law_343 L xs k38 (nI n) (nI k) (nI h) r (y, x.2.1, x2, x.2.2.2) w = some 1
    unfold f_L_law_343
    rw [if_pos e1]
    unfold f_L_law_356
    rw [if_pos rfl]
    unfold f_L_law_387
    rw [if_pos rfl]
    unfold f_L_law_398
    rw [nI_1, nI_1]
    exact K1 y a2 e2 e3 e4
theorem part_s (p : Int32) {q : Int32} (hq : ¬ q = 0) : ∃ z, f_L_part p q = some z := by
  unfold f_L_part gd
  rw [if_pos hq]
  exact ⟨_, rfl⟩
/-- one act of the law, whichever it is -/
theorem step_134 {L : Nat} {xs : Fn} {k38 : Int32 → Int32 → ClC → FnL → Option Int32} {a : AbT} {x : ClC} {x2 : HiC} {n k h : Nat} {w : FnL} (ho : aOk a) (hc : cV a x.1) (hs2 : f_X0_save x.2.2.1 x.1 = some x2) (hn : n < 64) (hs : f_L_seen x = some (w n)) (h9 : f_X5_count 9 x = some (.inr (nI h))) (K0 : k38 (nI n) (nI (k + 1)) x w = some 1) (K1 : ∀ y a2, aOk a2 → cV a2 y → (∀ c, aS a2 c ≤ aS a c + 1) → k38 (nI (n + 1)) (nI (k + 1)) (y, x.2.1, x2, x.2.2.2) w = some 1) (v5 v6 t0 : Int32) : f_L_law_134 L xs k38 (nI n) (nI k) v5 v6 (nI h) t0 x w = some 1 := by
  have st : ∀ {cl : Option (Int32 × ClC)}, Act2 a x x2 cl → (Option.bind cl fun z => f_L_law_343 L xs k38 (nI n) (nI k) (nI h) z.1 z.2 w) = some 1 := fun hA => step_343 hA hn hs h9 K0 K1
  unfold f_L_law_134
  by_cases g3 : 3 ≤ v6
  · rw [if_pos g3]
    by_cases g4 : v6 = 3
    · obtain ⟨z1, e1⟩ := part_s (v5 >>> (10 &&& 31)) (q := 5) (by decide)
      obtain ⟨z2, e2⟩ := part_s (v5 >>> (13 &&& 31)) (q := 3) (by decide)
      rw [if_pos g4, e1, Option.bind_some, e2, Option.bind_some]
      exact st (call_1 ho hc hs2 _ _ _)
    · rw [if_neg g4]
      by_cases g5 : v6 = 4
      · rw [if_pos g5]
        exact st (call_2 ho hc hs2 _ _ _)
      · rw [if_neg g5]
        by_cases g6 : v6 = 5
        · obtain ⟨z1, e1⟩ := part_s (v5 >>> (10 &&& 31)) (q := 1010) (by decide)
          rw [if_pos g6, e1, Option.bind_some]
          exact st (call_3 ho hc hs2 _ _ _)
        · rw [if_neg g6]
          by_cases g7 : 8 ≤ v6
          · rw [if_pos g7]
            by_cases g8 : v6 = 8
            · obtain ⟨z1, e1⟩ := part_s (v5 >>> (4 &&& 31)) (q := 2) (by decide)
              obtain ⟨z2, e2⟩ := part_s (v5 >>> (5 &&& 31)) (q := 5) (by decide)
              rw [if_pos g8, e1, Option.bind_some]
              unfold f_L_law_309
              by_cases g9 : z1 = 0
              · rw [if_pos g9, e2, Option.bind_some]
                exact st (call_4 ho hc hs2 _ _ _)
              · rw [if_neg g9, e2, Option.bind_some]
                exact st (call_6 ho hc hs2 _ _ _)
            · rw [if_neg g8]
              by_cases g9 : v6 = 9
              · rw [if_pos g9]
                exact st (Or.inr (fire_c ho hc hs2))
              · rw [if_neg g9]
                exact st (Or.inr (together_c ho hc hs2))
          · obtain ⟨z1, e1⟩ := part_s (v5 >>> (4 &&& 31)) (q := 5) (by decide)
            rw [if_neg g7, e1, Option.bind_some]
            exact st (call_5 ho hc hs2 _ _ _)
  · obtain ⟨z1, e1⟩ := part_s (v5 >>> (4 &&& 31)) (q := 1010) (by decide)
    obtain ⟨z2, e2⟩ := part_s (v5 >>> (14 &&& 31)) (q := 6) (by decide)
    obtain ⟨z3, e3⟩ := part_s (v5 >>> (17 &&& 31)) (q := 4) (by decide)
    rw [if_neg g3, e1, Option.bind_some, e2, Option.bind_some, e3, Option.bind_some]
    exact st (call_0 ho hc hs2 _ _ _)
theorem and_nn (p : Int32) : ¬ (p &&& 2147483647) < 0 := by
  intro h
  rw [Int32.lt_iff_toInt_lt] at h
  have h1 : (p &&& 2147483647).toInt = (p.toBitVec &&& (2147483647 : Int32).toBitVec).toInt := rfl
  have h2 : (p.toBitVec &&& (2147483647 : Int32).toBitVec).msb = false := by
    rw [BitVec.msb_and, show ((2147483647 : Int32).toBitVec).msb = false by decide, Bool.and_false]
  rw [h1, BitVec.toInt_eq_toNat_of_msb h2, show (0 : Int32).toInt = 0 by decide] at h
  omega
theorem part_n (p : Int32) {T : Nat} (h0 : 0 < T) (hT : T < 2 ^ 31) : ∃ z, z < 2 ^ 31 ∧ f_L_part p (nI T) = some (nI z) := by
  obtain ⟨m, m1, m2⟩ := nI_of (and_nn p)
  unfold f_L_part gd
  rw [if_pos (nI_ne0 h0 hT), m2, nI_mod m1 hT]
  exact ⟨m % T, by have := Nat.mod_le m T; omega, rfl⟩
theorem drawn_s {L : Nat} {xs : Fn} (hL : L ≤ 260) {k : Nat} (hk : k < 24) : ∃ z, f_L_drawn L xs (nI k) = some z := by
  unfold f_L_drawn
  show ∃ z, (if nI L = 0 then _ else gd (nI L) <| gi (nI k - nI k / nI L * nI L) L <| gd (nI L) <| _) = some z
  by_cases h : L = 0
  · rw [h, if_pos (show nI 0 = 0 from rfl)]
    exact ⟨_, rfl⟩
  · have h1 := nI_ne0 (show 0 < L by omega) (show L < 2 ^ 31 by omega)
    have h2 := Nat.mod_lt k (show 0 < L by omega)
    unfold gd
    rw [if_neg h1, if_pos h1, if_pos h1, nI_mod (by omega) (by omega), gi_in h2 (by omega)]
    exact ⟨_, rfl⟩
theorem loop_1 {L : Nat} {xs : Fn} (hL : L ≤ 260) : ∀ (d k n : Nat) (B : Nat → AbT) (x : ClC) (w : FnL) (fu : Nat), 24 - k = d → k ≤ 24 → n ≤ k → Inv n B x w → d < fu → f_L_law_38 L xs fu (nI n) (nI k) x w = some 1 := by
  intro d
  induction d with
  | zero =>
    intro k n B x w fu h1 h2 h3 hI hf
    obtain ⟨i1, i2, i3, i4, i5, i6⟩ := hI
    obtain ⟨f, rfl⟩ : ∃ f, fu = f + 1 := ⟨fu - 1, by omega⟩
    have ho := i1 n (Nat.le_refl _)
    obtain ⟨H, s1, -⟩ := seen_2 ho i2 i2
    obtain ⟨o, hR⟩ := ghost ho i2 i3 i4
    obtain ⟨y, r1, r2, r3⟩ := refused_true ho i2 (fun c _ => Nat.le_trans (i5 c) (by omega)) i4 hR
    have hw : ∀ i, i ≤ n → ∀ z : ClC, cV (B i) z.1 → f_L_seen z = some (vp_updL w n H i) := fun i hi z hz => by
      by_cases h4 : i = n
      · subst h4
        rw [updL_at]
        obtain ⟨H2, t1, t2⟩ := seen_2 ho hz i2
        rw [t1, ← t2, s1]
      · rw [updL_ne w H h4]
        exact i6 i (by omega) z hz
    rw [f_L_law_38.eq_2, show (24 : Int32) = nI 24 from rfl, if_pos (nI_le (by omega) (by omega)), s1, Option.bind_some, gi_in (by omega) (by decide), nI_clamp (by omega), r1, Option.bind_some]
    show (if (1 : Int32) = 0 then some 0 else f_L_law_425 L xs 100 (nI n) 0 y (vp_updL w n H)) = some 1
    rw [if_neg (by decide)]
    by_cases h5 : n < 6
    · rw [if_pos h5] at i3
      exact loop_2 (by omega) hw n 0 n y 100 (by omega) (by omega) (by rw [r2]; exact i2) (by rw [r3]; exact i3) (by omega)
    · rw [if_neg h5] at i3
      exact loop_2 (by omega) hw 6 0 n y 100 (by omega) (by omega) (by rw [r2]; exact i2) (by rw [r3]; exact i3) (by omega)
  | succ d ih =>
    intro k n B x w fu h1 h2 h3 hI hf
    obtain ⟨i1, i2, i3, i4, i5, i6⟩ := hI
    obtain ⟨f, rfl⟩ : ∃ f, fu = f + 1 := ⟨fu - 1, by omega⟩
    have ho := i1 n (Nat.le_refl _)
    have hT := aCnt.cells ho
    obtain ⟨H, s1, -⟩ := seen_2 ho i2 i2
    obtain ⟨x2, v1, v2⟩ := i3.save ho i2
    have hw : ∀ i, i < n → ∀ z : ClC, cV (B i) z.1 → f_L_seen z = some (vp_updL w n H i) := fun i hi z hz => by
      rw [updL_ne w H (by omega)]
      exact i6 i hi z hz
    have K0 : f_L_law_38 L xs f (nI n) (nI (k + 1)) x (vp_updL w n H) = some 1 := ih (k + 1) n B x _ f (by omega) (by omega) (by omega) ⟨i1, i2, i3, i4, i5, hw⟩ (by omega)
    have K1 : ∀ y a2, aOk a2 → cV a2 y → (∀ c, aS a2 c ≤ aS (B n) c + 1) → f_L_law_38 L xs f (nI (n + 1)) (nI (k + 1)) (y, x.2.1, x2, x.2.2.2) (vp_updL w n H) = some 1 := fun y a2 g1 g2 g3 => by
      refine ih (k + 1) (n + 1) (fun i => if i = n + 1 then a2 else B i) _ _ f (by omega) (by omega) (by omega) ⟨fun i hi => ?_, ?_, ?_, i4, fun c => ?_, fun i hi z hz => ?_⟩ (by omega)
      · show aOk (if i = n + 1 then a2 else B i)
        by_cases q : i = n + 1
        · rw [if_pos q]; exact g1
        · rw [if_neg q]; exact i1 i (by omega)
      · show cV (if n + 1 = n + 1 then a2 else B (n + 1)) y
        rw [if_pos rfl]
        exact g2
      · have hh : (if (if n < 6 then n else 6) < 6 then (if n < 6 then n else 6) + 1 else 6) = if n + 1 < 6 then n + 1 else 6 := by
          by_cases q : n < 6
          · rw [if_pos q, if_pos q]
            by_cases q2 : n + 1 < 6
            · rw [if_pos q2]
            · rw [if_neg q2]; omega
          · rw [if_neg q, if_neg (by omega), if_neg (by omega)]
        rw [hh] at v2
        exact v2.congr (fun i hi => (if_neg (by omega)).symm)
      · show aS (if n + 1 = n + 1 then a2 else B (n + 1)) c ≤ n + 1
        rw [if_pos rfl]
        have p1 := g3 c
        have p2 := i5 c
        omega
      · have hz2 : cV (if i = n + 1 then a2 else B i) z.1 := hz
        rw [if_neg (by omega)] at hz2
        by_cases q : i = n
        · subst q
          rw [updL_at]
          obtain ⟨H2, t1, t2⟩ := seen_2 ho hz2 i2
          rw [t1, ← t2, s1]
        · exact hw i (by omega) z hz2
    have h9 := c_count9 i3.2.2.1
    have st : ∀ v5 v6 t0, f_L_law_134 L xs (f_L_law_38 L xs f) (nI n) (nI k) v5 v6 (nI (if n < 6 then n else 6)) t0 x (vp_updL w n H) = some 1 := fun v5 v6 t0 => step_134 ho i2 v1 (by omega) (by rw [updL_at]; exact s1) h9 K0 K1 v5 v6 t0
    have st70 : ∀ v5 v6, f_L_law_70 L xs (f_L_law_38 L xs f) (nI n) (nI k) v5 v6 x w = some 1 := fun v5 v6 => by
      unfold f_L_law_70
      rw [s1, Option.bind_some, gi_in (by omega) (by decide), nI_clamp (by omega), h9, rt_r, c_count0 ho i2, rt_r]
      by_cases q : aCnt (B n) (aN (B n)) = 0
      · rw [q, if_pos (show nI 0 = 0 from rfl)]
        exact st v5 v6 0
      · obtain ⟨z1, e1, e2⟩ := part_n (v5 >>> (4 &&& 31)) (T := aCnt (B n) (aN (B n))) (by omega) (by omega)
        obtain ⟨r, e3, -⟩ := w_at ho i2 e1
        obtain ⟨z2, e4⟩ := part_s (v5 >>> (18 &&& 31)) (q := 5) (by decide)
        rw [if_neg (nI_ne0 (by omega) (by omega)), e2, Option.bind_some, e3, rt_r, e4, Option.bind_some]
        unfold f_L_law_133
        by_cases q2 : z2 = 0
        · rw [if_pos q2]; exact st v5 v6 _
        · rw [if_neg q2]; exact st v5 v6 _
    obtain ⟨z4, e4⟩ := drawn_s (xs := xs) hL (show k < 24 by omega)
    rw [f_L_law_38.eq_2, show (24 : Int32) = nI 24 from rfl, if_neg (nI_ge (by omega) (by omega)), e4, Option.bind_some]
    by_cases q : 3 ≤ nI k
    · obtain ⟨z5, e5⟩ := part_s z4 (q := 11) (by decide)
      rw [if_pos q, e5, Option.bind_some]
      exact st70 z4 z5
    · rw [if_neg q]
      exact st70 z4 0
/-- the law's loops over a new object -/
theorem loops_true {L : Nat} {xs : Fn} (hL : L ≤ 260) : ∃ z, f_X5_init = some z ∧ f_L_law_38 L xs 100 0 0 z (fun _ => 0) = some 1 := by
  obtain ⟨z, e1, e2, e3, e4⟩ := new_c
  refine ⟨z, e1, ?_⟩
  exact loop_1 hL 24 0 0 (fun _ => aNew) z (fun _ => 0) 100 (by omega) (by omega) (by omega) ⟨fun _ _ => aNew.ok, e2, ⟨by decide, by decide, e3, fun i hi => absurd hi (Nat.not_lt_zero _)⟩, e4, fun c => Nat.le_refl 0, fun i hi => absurd hi (Nat.not_lt_zero _)⟩ (by omega)
