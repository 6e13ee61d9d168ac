/-! A thousand things that come and go; the law's store but for them. -/
def Em (k : Nat) (a : AbT) : Prop := aOk a ∧ aN a = 0 ∧ aC a = 16 ∧ aS a 0 = k % 1000 ∧ aT a 1 = nI k ∧ aT a 2 = nI k
def Hs (h : Nat) (a : AbT) (x : HiC) : Prop := ∃ n B, HB h n B x ∧ B n = a
theorem Hs.save {h : Nat} {a : AbT} {x : HiC} {st : StC} (hh : Hs h a x) (ho : aOk a) (hc : cV a st) : ∃ x2, f_X0_save x st = some x2 ∧ ∀ a2, Hs (if h < 6 then h + 1 else 6) a2 x2 := by
  obtain ⟨n, B, h1, rfl⟩ := hh
  obtain ⟨x2, e1, e2⟩ := h1.save ho hc
  exact ⟨x2, e1, fun a2 => ⟨n + 1, fun i => if i = n + 1 then a2 else B i, e2.congr (fun i hi => (if_neg (by omega)).symm), if_pos rfl⟩⟩
theorem round_put {k : Nat} {a : AbT} {x : ClC} {x2 : HiC} (hE : Em k a) (hc : cV a x.1) (hs : f_X0_save x.2.2.1 x.1 = some x2) : ∃ y, f_X5_put 1 1 0 x = some (.inr (nI (k % 1000), (y, x.2.1, x2, x.2.2.2))) ∧ aOk (aPut a (aN a) 1 1 0 0) ∧ cV (aPut a (aN a) 1 1 0 0) y := by
  obtain ⟨ho, hN, hC, hS, -, -⟩ := hE
  obtain ⟨low, l1, l2⟩ := w_lowestFor ho hc.1 (w := 1) (by omega) (by omega)
  obtain ⟨low2, l3, l4⟩ := w_addLast ho hc (v := 1) (w := 1) (k := 0) (by omega) (by omega) (by omega) (by omega)
  have l5 := l3.det l2
  subst l5
  have hw0 : aWin a 1 0 := fun c _ _ j hj => absurd hj (by omega)
  have hl : low2 = nI 0 := by
    rcases l2 with ⟨b, e1, e2, e3, e4⟩ | ⟨e1, e2⟩
    · by_cases hb : b = 0
      · rw [e1, hb]
      · exact absurd hw0 (e4 0 (by omega))
    · exact absurd hw0 (e2 0 (by omega))
  rcases l4 with ⟨l6, -⟩ | ⟨b, y, l6, l7, l8, l9, l10, l11⟩
  · rw [hl] at l6
    exact absurd l6 (by decide)
  · have hb : b = 0 := by
      rw [hl] at l6
      exact ((nI_eq (by omega) (by omega)).mp l6).symm
    subst hb
    have ho2 := aPut.ok ho (p := aN a) (Nat.le_refl _) (show 1 ≤ 999 by omega) (show 1 ≤ 1 by omega) (show 1 ≤ 4 by omega) (show 0 ≤ 2 by omega) l7 l8
    have hG : 0 < aC (aPut a (aN a) 1 1 0 0) := by
      have := aOk.C _ ho2
      omega
    have hd : f_X2_handleOf (nI 0) y.1 = some (nI (k % 1000)) := by
      rw [w_handleOf ho2 l11.1 (by omega), if_pos hG]
      show some (nI (1000 * 0 + aS a 0)) = _
      rw [hS, Nat.mul_zero, Nat.zero_add]
    refine ⟨y, ?_, ho2, l11⟩
    show f_X5_put (nI 1) (nI 1) (nI 0) x = _
    unfold f_X5_put
    rw [show f_X5_isThing (nI 1) (nI 1) (nI 0) = some 1 by decide, Option.bind_some, if_neg (by decide), l1, Option.bind_some, l6, if_neg (by decide), hs, Option.bind_some, w_rsz, Option.bind_some, l9, Option.bind_some]
    show (Option.bind (f_X2_handleOf (nI 0) y.1) fun z7 => some (Sum.inr (z7, (y, x.2.1, x2, x.2.2.2)))) = _
    rw [hd, Option.bind_some]
theorem round_remove {k : Nat} {a : AbT} {x : ClC} {x2 : HiC} (hE : Em k a) (ho2 : aOk (aPut a (aN a) 1 1 0 0)) (hc : cV (aPut a (aN a) 1 1 0 0) x.1) (hs : f_X0_save x.2.2.1 x.1 = some x2) : ∃ y, f_X5_remove (nI (k % 1000)) x = some (.inr (1, (y, x.2.1, x2, x.2.2.2))) ∧ cV (aRem (aPut a (aN a) 1 1 0 0) 0) y ∧ Em (k + 1) (aRem (aPut a (aN a) 1 1 0 0) 0) := by
  obtain ⟨ho, hN, hC, hS, hT1, hT2⟩ := hE
  have hq : 0 < aN (aPut a (aN a) 1 1 0 0) := by show 0 < aN a + 1; omega
  have hB : aB (aPut a (aN a) 1 1 0 0) 0 = 0 := by
    show aIns (aN a) (aB a) 0 0 = 0
    rw [hN]; exact aIns.eq
  have hW : aW (aPut a (aN a) 1 1 0 0) 0 = 1 := by
    show aIns (aN a) (aW a) 1 0 = 1
    rw [hN]; exact aIns.eq
  have hV : aV (aPut a (aN a) 1 1 0 0) 0 = 1 := by
    show aIns (aN a) (aV a) 1 0 = 1
    rw [hN]; exact aIns.eq
  have hH : aHd (aPut a (aN a) 1 1 0 0) 0 = k % 1000 := by
    unfold aHd
    rw [hB]
    show 1000 * 0 + aS a 0 = _
    rw [hS, Nat.mul_zero, Nat.zero_add]
  have hwy := w_own ho2 hc.1 hq (by omega)
  rw [hH] at hwy
  obtain ⟨y, d1, d2⟩ := w_drop ho2 hc hq (by omega)
  have hvl := w_val ho2 hc.1 hq (by omega)
  rw [hV] at hvl
  have hO : aOn (aPut a (aN a) 1 1 0 0) 0 = 0 := aOn.zero.mpr fun i hi => by
    have h1 := ho.2.2.2.2.2.1 i hi
    show (if aP a i < aN a + 2 then aP a i else aP a i + 1) ≠ 0 + 2
    rw [if_pos h1]
    omega
  have hR : aRem (aPut a (aN a) 1 1 0 0) 0 = aDel (aKill (aPut a (aN a) 1 1 0 0) 0) 0 := by
    unfold aRem
    rw [if_pos hO]
  refine ⟨y, ?_, d2, aRem.ok ho2 hq, ?_, ?_, ?_, ?_, ?_⟩
  · unfold f_X5_remove
    rw [hwy.1, Option.bind_some, if_pos rfl, hwy.2, hvl, Option.bind_some, hs, Option.bind_some, d1, Option.bind_some]
    rfl
  · rw [hR]
    show aN a + 1 - 1 = 0
    omega
  · rw [hR]
    show aGr (aC a) (0 + 1) = 16
    unfold aGr
    rw [hC, if_pos (by omega)]
  · rw [hR]
    show (if 0 = aB (aPut a (aN a) 1 1 0 0) 0 then (aS a 0 + 1) % 1000 else aS a 0) = (k + 1) % 1000
    rw [hB, if_pos rfl, hS]
    omega
  · rw [hR]
    show (if 1 = 2 then aT (aPut a (aN a) 1 1 0 0) 2 + 1 else aT (aPut a (aN a) 1 1 0 0) 1) = nI (k + 1)
    rw [if_neg (by omega)]
    show (if 1 = 1 then aT a 1 + 1 else aT a 1) = nI (k + 1)
    rw [if_pos rfl, hT1, nI_1]
  · rw [hR]
    show (if 2 = 2 then aT (aPut a (aN a) 1 1 0 0) 2 + 1 else aT (aPut a (aN a) 1 1 0 0) 2) = nI (k + 1)
    rw [if_pos rfl]
    show (if 2 = 1 then aT a 1 + 1 else aT a 2) + 1 = nI (k + 1)
    rw [if_neg (by omega), hT2, nI_1]
theorem c_count6 {a : AbT} {x : ClC} (hc : cV a x.1) : f_X5_count 6 x = some (.inr (aT a 1)) := by
  unfold f_X5_count
  rw [if_neg (by decide), if_neg (by decide), if_neg (by decide), if_neg (by decide), if_neg (by decide), if_neg (by decide), if_pos rfl, hc.2.2.2.1]
theorem c_count7 {a : AbT} {x : ClC} (hc : cV a x.1) : f_X5_count 7 x = some (.inr (aT a 2)) := by
  unfold f_X5_count
  rw [if_neg (by decide), if_neg (by decide), if_neg (by decide), if_neg (by decide), if_neg (by decide), if_neg (by decide), if_neg (by decide), if_pos rfl, hc.2.2.2.2.1]
theorem round_loop : ∀ (d k h : Nat) (a : AbT) (x : ClC) (fu : Nat), 1000 - k = d → k ≤ 1000 → ((k < 3 ∧ h = 2 * k) ∨ (3 ≤ k ∧ h = 6)) → Em k a → cV a x.1 → Hs h a x.2.2.1 → d < fu → f_L_store_481 fu (nI k) x = some 1 := by
  intro d
  induction d with
  | zero =>
    intro k h a x fu h1 h2 h3 hE hc hh hf
    have hk : k = 1000 := by omega
    subst hk
    have h6 : h = 6 := by omega
    subst h6
    obtain ⟨f, rfl⟩ : ∃ f, fu = f + 1 := ⟨fu - 1, by omega⟩
    obtain ⟨x2, s1, s2⟩ := hh.save hE.1 hc
    obtain ⟨y, e1, e2, e3⟩ := round_put hE hc s1
    obtain ⟨n, B, s3, -⟩ := s2 a
    have c9 : f_X5_count 9 (y, x.2.1, x2, x.2.2.2) = some (.inr (nI 6)) := c_count9 s3.2.2.1
    have t1 : aT (aPut a (aN a) 1 1 0 0) 1 = 1001 := by
      show (if 1 = 1 then aT a 1 + 1 else aT a 1) = 1001
      rw [if_pos rfl, hE.2.2.2.2.1]
      decide
    have t2 : aT (aPut a (aN a) 1 1 0 0) 2 = 1000 := by
      show (if 2 = 1 then aT a 1 + 1 else aT a 2) = 1000
      rw [if_neg (by omega), hE.2.2.2.2.2]
      rfl
    have c6 : f_X5_count 6 (y, x.2.1, x2, x.2.2.2) = some (.inr 1001) := by rw [c_count6 (x := (y, x.2.1, x2, x.2.2.2)) e3, t1]
    have c7 : f_X5_count 7 (y, x.2.1, x2, x.2.2.2) = some (.inr 1000) := by rw [c_count7 (x := (y, x.2.1, x2, x.2.2.2)) e3, t2]
    rw [f_L_store_481.eq_2, li1000, if_pos (nI_le (by omega) (by omega)), e1, rt_r, if_pos (show nI (1000 % 1000) = 0 from rfl), c6, rt_r, if_pos rfl, c7, rt_r, if_pos (show (1000 : Int32) = nI 1000 from rfl), c9, rt_r, if_pos (show nI 6 = 6 from rfl)]
  | succ d ih =>
    intro k h a x fu h1 h2 h3 hE hc hh hf
    obtain ⟨f, rfl⟩ : ∃ f, fu = f + 1 := ⟨fu - 1, by omega⟩
    obtain ⟨x2, s1, s2⟩ := hh.save hE.1 hc
    obtain ⟨y, e1, e2, e3⟩ := round_put hE hc s1
    obtain ⟨x3, s3, s4⟩ := Hs.save (st := y) (s2 (aPut a (aN a) 1 1 0 0)) e2 e3
    obtain ⟨z, g1, g2, g3⟩ := round_remove (x := (y, x.2.1, x2, x.2.2.2)) hE e2 e3 s3
    rw [Nat.mod_eq_of_lt (show k < 1000 by omega)] at e1 g1
    rw [f_L_store_481.eq_2, li1000, if_neg (nI_ge (by omega) (by omega)), e1, rt_r, if_pos rfl]
    show (rt (f_X5_remove (nI k) (y, x.2.1, x2, x.2.2.2)) fun z62 => if z62.1 = 1 then f_L_store_481 f (nI k + 1) z62.2 else some 0) = some 1
    rw [g1, rt_r, if_pos rfl, nI_1]
    refine ih (k + 1) _ _ _ f (by omega) (by omega) ?_ g3 g2 (s4 _) (by omega)
    rcases h3 with ⟨q1, q2⟩ | ⟨q1, q2⟩
    · subst q2
      by_cases q3 : k = 2
      · subst q3; exact Or.inr ⟨by omega, by decide⟩
      · refine Or.inl ⟨by omega, ?_⟩
        rw [if_pos (show 2 * k < 6 by omega), if_pos (by omega)]
        omega
    · subst q2
      exact Or.inr ⟨by omega, by decide⟩
theorem rounds_true : (Option.bind f_X5_init fun z => f_L_store_481 FU 0 z) = some 1 := by
  obtain ⟨z, e1, e2, e3, e4⟩ := new_c
  rw [e1, Option.bind_some]
  exact round_loop 1000 0 0 aNew z FU (by omega) (by omega) (Or.inl ⟨by omega, rfl⟩) ⟨aNew.ok, rfl, rfl, rfl, rfl, rfl⟩ e2 ⟨0, fun _ => aNew, ⟨by omega, by omega, e3, fun i hi => absurd hi (Nat.not_lt_zero _)⟩, rfl⟩ (by unfold FU; omega)
