/-! Things are moved together. -/
def aMv (a : AbT) (q t : Nat) : AbT :=
  (aC a, aN a, (fun c => if c = aB a q then (aS a c + 1) % 1000 else aS a c), ((fun j => if j = q then t else aB a j), aW a, aV a, aK a, aF a), aP a, aT a)
theorem aMv.cov {a : AbT} {q t j c : Nat} : aCov (aMv a q t) j c ↔ (j = q ∧ t ≤ c ∧ c < t + aW a q) ∨ (j ≠ q ∧ aCov a j c) := by
  show ((if j = q then t else aB a j) ≤ c ∧ c < (if j = q then t else aB a j) + aW a j) ↔ _
  by_cases h1 : j = q
  · subst h1
    rw [if_pos rfl]
    exact ⟨fun h => Or.inl ⟨rfl, h⟩, fun h => h.elim (fun h => h.2) (fun h => absurd rfl h.1)⟩
  · rw [if_neg h1]
    exact ⟨fun h => Or.inr ⟨h1, h⟩, fun h => h.elim (fun h => absurd h.1 h1) (fun h => h.2)⟩
/-- the new place is free but for the thing itself -/
def aMf (a : AbT) (q t : Nat) : Prop := ∀ j c, j < aN a → j ≠ q → t ≤ c → c < t + aW a q → ¬ aCov a j c
theorem aMv.ok {a : AbT} (ho : aOk a) {q t : Nat} (hq : q < aN a) (hw : 0 < aW a q) (ht : t + aW a q ≤ aC a) (hf : aMf a q t) : aOk (aMv a q t) := by
  refine ⟨ho.1, ho.2.1, fun j hj h1 => ?_, fun i j c hi hj h1 h2 => ?_, ho.2.2.2.2.1, ho.2.2.2.2.2.1, fun c => ?_⟩
  · have h2 := ho.2.2.1 j hj h1
    refine ⟨h2.1, ?_, h2.2.2⟩
    show (if j = q then t else aB a j) + aW a j ≤ aC a
    by_cases h3 : j = q
    · rw [if_pos h3, h3]; exact ht
    · rw [if_neg h3]; exact h2.2.1
  · rcases aMv.cov.mp h1 with ⟨g1, g2, g3⟩ | ⟨g1, g2⟩ <;> rcases aMv.cov.mp h2 with ⟨e1, e2, e3⟩ | ⟨e1, e2⟩
    · rw [g1, e1]
    · exact absurd e2 (hf j c hj e1 g2 g3)
    · exact absurd g2 (hf i c hi g1 e2 e3)
    · exact ho.2.2.2.1 i j c hi hj g2 e2
  · show (if c = aB a q then (aS a c + 1) % 1000 else aS a c) < 1000
    by_cases h1 : c = aB a q
    · rw [if_pos h1]; omega
    · rw [if_neg h1]; exact ho.2.2.2.2.2.2 c
theorem c_growTo {C k : Nat} (hC : C ≤ 64) (hk : k ≤ C) {x : SlC} (hx : x.1 = nI C) : f_X2_growTo (nI k) x = some x := by
  obtain ⟨c, y⟩ := x
  have h1 : c = nI C := hx
  subst h1
  show f_X2_growTo_2 (5997 + 1 + 1 + 1) (nI k) (nI 0) (nI C, y) = _
  rw [w_grow_step (by omega) hC (by omega), if_pos hk, w_grow_step (by omega) hC (by omega), if_pos hk, w_grow_end]
theorem c_occupy {C t v w k : Nat} (hC : C ≤ 64) (hk : t + w ≤ C) (hw : 1 ≤ w) {x : SlC} (hx : x.1 = nI C) : f_X2_occupy (nI t) (nI v) (nI w) (nI k) x = some (x.1, x.2.1, (fun c => if t ≤ c ∧ c < t + w then nI t else x.2.2.1 c), upd x.2.2.2.1 t (nI w), upd x.2.2.2.2.1 t (nI v), upd x.2.2.2.2.2.1 t (nI k), upd x.2.2.2.2.2.2 t 0) := by
  unfold f_X2_occupy
  rw [nI_add, c_growTo hC hk hx, Option.bind_some, c_isCell1 hx hC (by omega), Option.bind_some, if_neg (by decide), gi_in (by omega) (by decide), gi_in (by omega) (by decide), gi_in (by omega) (by decide), gi_in (by omega) (by decide), nI_clamp (by omega), w_giveCells (C := C) (x := (x.1, x.2.1, x.2.2.1, upd x.2.2.2.1 t (nI w), upd x.2.2.2.2.1 t (nI v), upd x.2.2.2.2.2.1 t (nI k), upd x.2.2.2.2.2.2 t 0)) hk hC hx, Option.bind_some]
theorem w_carry {a : AbT} {x : SlC} (ho : aOk a) (hv : sV a x) {q t : Nat} (hq : q < aN a) (hw : 0 < aW a q) (ht : t + aW a q ≤ aC a) (hf : aMf a q t) : ∃ y, f_X2_carry (nI (aB a q)) (nI t) x = some y ∧ sV (aMv a q t) y := by
  have hC := aOk.C a ho
  have h1 := ho.2.2.1 q hq hw
  have hE := hv.2.2.2.2.1 q hq hw
  obtain ⟨z, g1, g2⟩ := w_release ho hv hq hw
  unfold f_X2_carry
  rw [w_valueAt ho hv (by omega), if_pos (by omega), Option.bind_some, w_sizeAt ho hv (by omega), if_pos (by omega), Option.bind_some, w_kindAt ho hv (by omega), if_pos (by omega), Option.bind_some, w_timesFired ho hv (by omega), if_pos (by omega), Option.bind_some, hE.1, hE.2.1, hE.2.2.1, hE.2.2.2, g1, Option.bind_some, c_occupy (C := aC a) (by omega) ht hw g2.1, Option.bind_some]
  unfold f_X2_setTimesFired
  rw [c_isCell1 (C := aC a) (x := (z.1, z.2.1, (fun c => if t ≤ c ∧ c < t + aW a q then nI t else z.2.2.1 c), upd z.2.2.2.1 t (nI (aW a q)), upd z.2.2.2.2.1 t (nI (aV a q)), upd z.2.2.2.2.2.1 t (nI (aK a q)), upd z.2.2.2.2.2.2 t 0)) g2.1 (by omega) (by omega), Option.bind_some, if_neg (by decide), gi_in (by omega) (by decide), nI_clamp (by omega), Option.bind_some]
  have hne : ∀ i, i < aN a → i ≠ q → 0 < aW a i → aB a i ≠ t := fun i e1 e2 e3 e4 => hf i t e1 e2 (Nat.le_refl _) (by omega) (by unfold aCov; omega)
  refine ⟨_, rfl, g2.1, g2.2.1, fun j c hj hc e1 => ?_, fun c hc e1 => ?_, fun j hj e1 => ?_, fun c hc e1 => ?_⟩
  · show (if t ≤ c ∧ c < t + aW a q then nI t else z.2.2.1 c) = nI (if j = q then t else aB a j)
    rcases aMv.cov.mp e1 with ⟨e2, e3⟩ | ⟨e2, e3⟩
    · rw [if_pos e3, if_pos e2]
    · rw [if_neg (show ¬ (t ≤ c ∧ c < t + aW a q) from fun e4 => hf j c hj e2 e4.1 e4.2 e3), if_neg e2]
      exact g2.2.2.1 j c hj hc (aKill.cov.mpr ⟨e2, e3⟩)
  · show (if t ≤ c ∧ c < t + aW a q then nI t else z.2.2.1 c) = -1
    rw [if_neg (fun e2 => e1 q hq (aMv.cov.mpr (Or.inl ⟨rfl, e2⟩)))]
    exact g2.2.2.2.1 c hc (fun j hj e2 => e1 j hj (aMv.cov.mpr (Or.inr (aKill.cov.mp e2))))
  · show upd z.2.2.2.1 t (nI (aW a q)) (if j = q then t else aB a j) = nI (aW a j) ∧ upd z.2.2.2.2.1 t (nI (aV a q)) (if j = q then t else aB a j) = nI (aV a j) ∧ upd z.2.2.2.2.2.1 t (nI (aK a q)) (if j = q then t else aB a j) = nI (aK a j) ∧ upd (upd z.2.2.2.2.2.2 t 0) t (aF a q) (if j = q then t else aB a j) = aF a j
    by_cases e2 : j = q
    · subst e2
      rw [if_pos rfl, up_eq, up_eq, up_eq, up_eq]
      exact ⟨rfl, rfl, rfl, rfl⟩
    · have e3 := hne j hj e2 e1
      rw [if_neg e2, up_ne _ _ e3, up_ne _ _ e3, up_ne _ _ e3, up_ne _ _ e3, up_ne _ _ e3]
      have e4 := g2.2.2.2.2.1 j hj (by rw [aKill.wne e2]; exact e1)
      rw [aKill.wne e2] at e4
      exact e4
  · show upd z.2.2.2.1 t (nI (aW a q)) c = 0
    have e2 : c ≠ t := fun e3 => e1 q hq hw (by show (if q = q then t else aB a q) = c; rw [if_pos rfl, e3])
    rw [up_ne _ _ e2]
    refine g2.2.2.2.2.2 c hc (fun j hj e3 e4 => ?_)
    have e5 : j ≠ q := fun e6 => by subst e6; rw [aKill.w0] at e3; omega
    rw [aKill.wne e5] at e3
    exact e1 j hj e3 (by show (if j = q then t else aB a j) = c; rw [if_neg e5]; exact e4)
theorem w_rename {a : AbT} {x : RwC} (ho : aOk a) (hr : rV a x) {q t : Nat} (hq : q < aN a) (hw : 0 < aW a q) : ∃ y, f_X1_rename (nI (aB a q)) (nI t) x = some y ∧ rV (aMv a q t) y := by
  have hN := ho.2.1
  unfold f_X1_rename
  rw [w_indexOf ho hr hq hw, Option.bind_some, w_isEntry1 hr.1 hq hN, Option.bind_some, if_neg (by decide), gi_in (by omega) (by decide), nI_clamp (by omega)]
  refine ⟨_, rfl, hr.1, fun j hj => ?_, hr.2.2⟩
  show upd x.2.1 q (nI t) j = if aW a j = 0 then -1 else nI (if j = q then t else aB a j)
  by_cases h2 : j = q
  · rw [h2, up_eq, if_neg (by omega), if_pos rfl]
  · rw [up_ne _ _ h2, if_neg h2]
    exact hr.2.1 j hj
theorem m_move {a : AbT} {m : Fn} (ho : aOk a) (hm : mV a m) {q t : Nat} (hq : q < aN a) (hw : 0 < aW a q) : ∃ m1, f_X6_leaves (nI (aB a q)) m = some m1 ∧ mV (aMv a q t) (upd m1 (70 + 5 * q) (nI t)) := by
  have hN := ho.2.1
  have hC := aOk.C a ho
  have h1 := ho.2.2.1 q hq hw
  have hs := hm.2.2.2.1 (aB a q) (by omega)
  have hs2 := ho.2.2.2.2.2.2 (aB a q)
  refine ⟨upd m (6 + aB a q) (nI ((aS a (aB a q) + 1) % 1000)), ?_, ?_, ?_, fun i hi => ?_, fun c hc => ?_, fun j hj => ?_, fun i hi => ?_⟩
  · unfold f_X6_leaves
    rw [li6, nI_add, gi_in (by omega) (by decide), gi_in (by omega) (by decide), nI_clamp (by omega), hs, nI_1, li1000, nI_mod (by omega) (by omega)]
  · rw [up_ne _ _ (by omega), up_ne _ _ (by omega)]; exact hm.1
  · rw [up_ne _ _ (by omega), up_ne _ _ (by omega)]; exact hm.2.1
  · rw [up_ne _ _ (by omega), up_ne _ _ (by omega)]; exact hm.2.2.1 i hi
  · show upd (upd m (6 + aB a q) (nI ((aS a (aB a q) + 1) % 1000))) (70 + 5 * q) (nI t) (6 + c) = nI (if c = aB a q then (aS a c + 1) % 1000 else aS a c)
    rw [up_ne _ _ (by omega)]
    by_cases g1 : c = aB a q
    · rw [if_pos g1, g1, up_eq]
    · rw [if_neg g1, up_ne _ _ (by omega)]; exact hm.2.2.2.1 c hc
  · have hj9 : j < aN a := hj
    have hE := hm.2.2.2.2.1 j hj9
    rw [up_ne _ _ (show 70 + 5 * j + 1 ≠ 70 + 5 * q by omega), up_ne _ _ (show 70 + 5 * j + 2 ≠ 70 + 5 * q by omega), up_ne _ _ (show 70 + 5 * j + 3 ≠ 70 + 5 * q by omega), up_ne _ _ (show 70 + 5 * j + 4 ≠ 70 + 5 * q by omega), up_ne m _ (show 70 + 5 * j + 1 ≠ 6 + aB a q by omega), up_ne m _ (show 70 + 5 * j + 2 ≠ 6 + aB a q by omega), up_ne m _ (show 70 + 5 * j + 3 ≠ 6 + aB a q by omega), up_ne m _ (show 70 + 5 * j + 4 ≠ 6 + aB a q by omega)]
    refine ⟨?_, hE.2⟩
    show upd (upd m (6 + aB a q) (nI ((aS a (aB a q) + 1) % 1000))) (70 + 5 * q) (nI t) (70 + 5 * j) = if aW a j = 0 then -1 else nI (if j = q then t else aB a j)
    by_cases g1 : j = q
    · rw [g1, up_eq, if_neg (by omega), if_pos rfl]
    · rw [up_ne _ _ (by omega), up_ne _ _ (by omega), if_neg g1]; exact hE.1
  · rw [up_ne _ _ (by omega), up_ne _ _ (by omega)]; exact hm.2.2.2.2.2 i hi
/-- the entry of the thing that begins lowest from t on -/
def aLf (a : AbT) (t i : Nat) (e : Int32) : Prop := (∃ j, j < i ∧ 0 < aW a j ∧ t ≤ aB a j ∧ e = nI j ∧ ∀ k, k < i → 0 < aW a k → t ≤ aB a k → aB a j ≤ aB a k) ∨ (e = -1 ∧ ∀ k, k < i → 0 < aW a k → ¬ t ≤ aB a k)
theorem m_low_loop {a : AbT} {m : Fn} (ho : aOk a) (hm : mV a m) {t : Nat} (ht : t < 2 ^ 31) : ∀ (fu i : Nat) (e : Int32), aN a - i < fu → i ≤ aN a → aLf a t i e → ∃ r, f_X6_lowestFrom_4 fu (nI t) e (nI i) m = some r ∧ aLf a t (aN a) r := by
  have hN := ho.2.1
  have hC := aOk.C a ho
  have i1 : ∀ (kk : Option Int32), gi 1 414 kk = kk := fun kk => gi_in (c := 1) (by omega) (by decide)
  have c1 : (1 : Int32).toNatClampNeg = 1 := by decide
  intro fu
  induction fu with
  | zero => intro i e h1; omega
  | succ fu ih =>
    intro i e h1 h2 h3
    rw [f_X6_lowestFrom_4.eq_2, i1, c1, hm.2.1]
    by_cases h4 : i = aN a
    · rw [if_pos (nI_le (by omega) (by omega))]
      exact ⟨e, rfl, by rw [← h4]; exact h3⟩
    · rw [if_neg (nI_ge (by omega) (by omega)), m_isThing ho hm (by omega), Option.bind_some]
      unfold f_X6_lowestFrom_33 f_X6_lowestFrom_34 f_X6_lowestFrom_65 f_X6_lowestFrom_61 f_X6_lowestFrom_66
      rw [nI_1]
      have skip : (0 < aW a i → ¬ t ≤ aB a i) → ∃ r, f_X6_lowestFrom_4 fu (nI t) e (nI (i + 1)) m = some r ∧ aLf a t (aN a) r := fun h5 => by
        refine ih (i + 1) e (by omega) (by omega) ?_
        rcases h3 with ⟨j, q1, q2, q3, q4, q5⟩ | ⟨q1, q2⟩
        · refine Or.inl ⟨j, by omega, q2, q3, q4, fun k p1 p2 p3 => ?_⟩
          by_cases p4 : k = i
          · subst p4; exact absurd p3 (h5 p2)
          · exact q5 k (by omega) p2 p3
        · refine Or.inr ⟨q1, fun k p1 p2 => ?_⟩
          by_cases p4 : k = i
          · subst p4; exact h5 p2
          · exact q2 k (by omega) p2
      by_cases h5 : aW a i = 0
      · rw [if_pos h5, if_pos rfl, if_pos rfl]
        exact skip (fun h => by omega)
      · have h6 := ho.2.2.1 i (by omega) (by omega)
        have hb := (hm.2.2.2.2.1 i (by omega)).1
        rw [if_neg h5] at hb
        have hof : f_X6_of (nI i) 0 m = some (nI (aB a i)) := by rw [li0, m_of (by omega), Nat.add_zero, hb]
        rw [if_neg h5, if_neg (by decide), hof, Option.bind_some]
        by_cases h7 : aB a i < t
        · rw [if_pos (nI_lt h7 ht), if_pos rfl]
          exact skip (fun _ => by omega)
        · rw [if_neg (nI_nlt (by omega) (by omega)), if_neg (by decide)]
          rcases id h3 with ⟨j, q1, q2, q3, q4, q5⟩ | ⟨q1, q2⟩
          · have h8 := ho.2.2.1 j (by omega) (by omega)
            have hbj := (hm.2.2.2.2.1 j (by omega)).1
            rw [if_neg (by omega)] at hbj
            have hofj : f_X6_of (nI j) 0 m = some (nI (aB a j)) := by rw [li0, m_of (by omega), Nat.add_zero, hbj]
            rw [q4, if_neg (nI_m1 (by omega)), Option.bind_some, hofj, Option.bind_some]
            by_cases h9 : aB a j ≤ aB a i
            · rw [if_pos (nI_le h9 (by omega)), ← q4]
              refine ih (i + 1) e (by omega) (by omega) (Or.inl ⟨j, by omega, q2, q3, q4, fun k p1 p2 p3 => ?_⟩)
              by_cases p4 : k = i
              · subst p4; exact h9
              · exact q5 k (by omega) p2 p3
            · rw [if_neg (nI_ge (by omega) (by omega))]
              refine ih (i + 1) (nI i) (by omega) (by omega) (Or.inl ⟨i, by omega, by omega, by omega, rfl, fun k p1 p2 p3 => ?_⟩)
              by_cases p4 : k = i
              · subst p4; exact Nat.le_refl _
              · have := q5 k (by omega) p2 p3
                omega
          · rw [q1, if_pos rfl]
            refine ih (i + 1) (nI i) (by omega) (by omega) (Or.inl ⟨i, by omega, by omega, by omega, rfl, fun k p1 p2 p3 => ?_⟩)
            by_cases p4 : k = i
            · subst p4; exact Nat.le_refl _
            · exact absurd p3 (q2 k (by omega) p2)
theorem m_lowestFrom {a : AbT} {m : Fn} (ho : aOk a) (hm : mV a m) {t : Nat} (ht : t < 2 ^ 31) : ∃ r, f_X6_lowestFrom (nI t) m = some r ∧ aLf a t (aN a) r := by
  have hN := ho.2.1
  exact m_low_loop ho hm ht FU 0 (-1) (by unfold FU; omega) (by omega) (Or.inr ⟨rfl, fun k q => by omega⟩)
def aMd (a : AbT) (n : Int32) : AbT := (aC a, aN a, aS a, aE a, aP a, fun i => if i = 3 then aT a 3 + n else aT a i)
theorem m_moved {a : AbT} {m : Fn} {n : Int32} (ho : aOk a) (hm : mV a m) : mV (aMd a n) (upd m 5 (m 5 + n)) := by
  have hN := ho.2.1
  refine ⟨by rw [up_ne _ _ (by omega)]; exact hm.1, by rw [up_ne _ _ (by omega)]; exact hm.2.1, fun k hk => ?_, fun c hc => by rw [up_ne _ _ (by omega)]; exact hm.2.2.2.1 c hc, fun j hj => ?_, fun k hk => by rw [up_ne _ _ (by omega)]; exact hm.2.2.2.2.2 k hk⟩
  · show upd m 5 (m 5 + n) (2 + k) = if k = 3 then aT a 3 + n else aT a k
    by_cases h1 : k = 3
    · rw [if_pos h1, h1, up_eq, ← hm.2.2.1 3 (by omega)]
    · rw [if_neg h1, up_ne _ _ (by omega)]
      exact hm.2.2.1 k hk
  · rw [up_ne _ _ (by omega), up_ne _ _ (by omega), up_ne _ _ (by omega), up_ne _ _ (by omega), up_ne _ _ (by omega)]
    exact hm.2.2.2.2.1 j hj
theorem stp0 {b c s : Nat} : s + (if b + 1 ≤ c then 1 else 0) ≤ s + if b ≤ c then 1 else 0 := by
  by_cases h : b + 1 ≤ c
  · rw [if_pos h, if_pos (by omega)]; exact Nat.le_refl _
  · rw [if_neg h]; omega
theorem stp1 {b c s : Nat} : (if c = b then (s + 1) % 1000 else s) + (if b + 1 ≤ c then 1 else 0) ≤ s + if b ≤ c then 1 else 0 := by
  by_cases h : c = b
  · rw [if_pos h, if_neg (by omega), if_pos (by omega)]; omega
  · rw [if_neg h]; exact stp0
theorem together_loop : ∀ (d : Nat) (a : AbT) (x : StC) (b t : Nat) (v1 : Int32), aC a - b = d → b ≤ aC a → t ≤ 64 → aOk a → cV a x → (∀ i, i < aN a → 0 < aW a i → (aB a i < b ∧ aB a i + aW a i ≤ t) ∨ (b ≤ aB a i ∧ t ≤ aB a i)) → ∃ r y a2, aOk a2 ∧ cV a2 y ∧ (∀ fu, d < fu → f_X3_moveThings_15 fu v1 (nI t) (nI (aC a)) (nI b) x = some (r, y)) ∧ (∀ o fu e, mV a o.2.1 → d < fu → aLf a t (aN a) e → ∃ m2, f_X6_together_22 fu v1 (nI t) e o = some (r, (o.1, m2, o.2.2)) ∧ mV a2 m2) ∧ (∀ c, aS a2 c ≤ aS a c + if b ≤ c then 1 else 0) ∧ ∃ R, r = v1 + nI R ∧ R ≤ d := by
  intro d
  induction d with
  | zero =>
    intro a x b t v1 hd hb ht ho hx hI
    refine ⟨v1, (x.1, x.2.1, x.2.2.1, x.2.2.2.1, x.2.2.2.2.1, x.2.2.2.2.2.1, x.2.2.2.2.2.2 + v1), aMd a v1, ho, ⟨hx.1, hx.2.1, hx.2.2.1, hx.2.2.2.1, hx.2.2.2.2.1, ?_⟩, fun fu hf => ?_, fun o fu e hm hf he => ?_, fun c => Nat.le_add_right _ _, 0, by rw [← li0, Int32.add_zero], Nat.zero_le _⟩
    · show x.2.2.2.2.2.2 + v1 = aT a 3 + v1
      rw [hx.2.2.2.2.2]
    · have hC := aOk.C a ho
      obtain ⟨f, rfl⟩ : ∃ f, fu = f + 1 := ⟨fu - 1, by omega⟩
      rw [f_X3_moveThings_15.eq_2, if_pos (nI_le (by omega) (by omega))]
    · have h1 : e = -1 := by
        rcases he with ⟨j, q1, q2, q3, q4, q5⟩ | ⟨q1, q2⟩
        · have h2 := ho.2.2.1 j q1 q2
          have h3 := hI j q1 q2
          omega
        · exact q1
      obtain ⟨f, rfl⟩ : ∃ f, fu = f + 1 := ⟨fu - 1, by omega⟩
      have i5 : ∀ (kk : Option (Int32 × MdC)), gi 5 414 kk = kk := fun kk => gi_in (c := 5) (by omega) (by decide)
      have c5 : (5 : Int32).toNatClampNeg = 5 := by decide
      rw [f_X6_together_22.eq_2, if_pos h1, i5, i5, c5]
      exact ⟨_, rfl, m_moved ho hm⟩
  | succ d ih =>
    intro a x b t v1 hd hb ht ho hx hI
    have hC := aOk.C a ho
    have hN := ho.2.1
    rcases hx.1.size ho (c := b) (by omega) with ⟨q, g1, g2, g3, g4⟩ | ⟨g1, g2⟩
    · have h9 := ho.2.2.1 q g1 g2
      have htb : t ≤ b := by
        have := hI q g1 g2
        omega
      have hoth : ∀ i, i < aN a → i ≠ q → 0 < aW a i → (aB a i < b ∧ aB a i + aW a i ≤ t) ∨ b + aW a q ≤ aB a i := fun i p1 p2 p3 => by
        rcases hI i p1 p3 with h | h
        · exact Or.inl h
        · rcases Nat.lt_or_ge (aB a i) (b + aW a q) with p4 | p4
          · exact absurd (ho.2.2.2.1 i q (aB a i) p1 g1 (by unfold aCov; omega) (by unfold aCov; omega)) p2
          · exact Or.inr p4
      have hmf : aMf a q t := fun j c p1 p2 p3 p4 p5 => by
        have p6 := hoth j p1 p2 (by unfold aCov at p5; omega)
        unfold aCov at p5
        omega
      have he9 : ∀ e, aLf a t (aN a) e → e = nI q := fun e he => by
        rcases he with ⟨j, q1, q2, q3, q4, q5⟩ | ⟨q1, q2⟩
        · have h3 := q5 q g1 g2 (by omega)
          by_cases h4 : j = q
          · rw [q4, h4]
          · have h5 := hoth j q1 h4 q2
            omega
        · exact absurd (show t ≤ aB a q by omega) (q2 q g1 g2)
      by_cases h5 : b = t
      · obtain ⟨r, y, a2, r1, r2, r3, r4, r5, R, r6, r7⟩ := ih a x (b + 1) (t + aW a q) v1 (by omega) (by omega) (by omega) ho hx (fun i p1 p2 => by
          by_cases p3 : i = q
          · subst p3; omega
          · have := hoth i p1 p3 p2
            omega)
        refine ⟨r, y, a2, r1, r2, fun fu hf => ?_, fun o fu e hm hf he => ?_, fun c => Nat.le_trans (r5 c) stp0, R, r6, by omega⟩
        · obtain ⟨f, rfl⟩ : ∃ f, fu = f + 1 := ⟨fu - 1, by omega⟩
          rw [f_X3_moveThings_15.eq_2, if_neg (nI_ge (by omega) (by omega)), w_sizeAt ho hx.1 (by omega), if_pos (by omega), Option.bind_some, g4, if_neg (show ¬ nI (aW a q) ≤ 0 by rw [li0]; exact nI_ge g2 (by omega)), if_pos (show nI b = nI t by rw [h5])]
          unfold f_X3_moveThings_66
          rw [nI_add, nI_1]
          exact r3 f (by omega)
        · obtain ⟨f, rfl⟩ : ∃ f, fu = f + 1 := ⟨fu - 1, by omega⟩
          have hE := hm.2.2.2.2.1 q g1
          rw [if_neg (by omega)] at hE
          rw [he9 e he, f_X6_together_22.eq_2, if_neg (nI_m1 (by omega)), li0, m_of (by omega), Option.bind_some, Nat.add_zero, hE.1, if_pos (show nI (aB a q) = nI t by rw [g3, h5])]
          unfold f_X6_together_70
          obtain ⟨e2, s1, s2⟩ := m_lowestFrom ho hm (t := t + aW a q) (by omega)
          rw [li1, m_of (by omega), Option.bind_some, hE.2.1, nI_add, s1, Option.bind_some]
          exact r4 o f e2 hm (by omega) s2
      · obtain ⟨z3, u1, u2⟩ := w_carry ho hx.1 g1 g2 (t := t) (by omega) hmf
        obtain ⟨z4, u3, u4⟩ := w_rename ho hx.2.1 g1 g2 (t := t)
        have ho2 := aMv.ok ho g1 g2 (t := t) (by omega) hmf
        obtain ⟨r, y, a2, r1, r2, r3, r4, r5, R, r6, r7⟩ := ih (aMv a q t) (z3, z4, x.2.2) (b + 1) (t + aW a q) (v1 + 1) (show aC a - (b + 1) = d by omega) (show b + 1 ≤ aC a by omega) (by omega) ho2 ⟨u2, u4, hx.2.2⟩ (fun i p1 p2 => by
          show ((if i = q then t else aB a i) < b + 1 ∧ (if i = q then t else aB a i) + aW a i ≤ t + aW a q) ∨ (b + 1 ≤ (if i = q then t else aB a i) ∧ t + aW a q ≤ (if i = q then t else aB a i))
          by_cases p3 : i = q
          · rw [if_pos p3, p3]; omega
          · rw [if_neg p3]
            have := hoth i p1 p3 p2
            omega)
        refine ⟨r, y, a2, r1, r2, fun fu hf => ?_, fun o fu e hm hf he => ?_, fun c => Nat.le_trans (r5 c) (by show (if c = aB a q then (aS a c + 1) % 1000 else aS a c) + _ ≤ _; rw [g3]; exact stp1), R + 1, by rw [r6, Int32.add_assoc, li1, nI_add, Nat.add_comm], by omega⟩
        · obtain ⟨f, rfl⟩ : ∃ f, fu = f + 1 := ⟨fu - 1, by omega⟩
          rw [g3] at u1 u3
          rw [f_X3_moveThings_15.eq_2, if_neg (nI_ge (by omega) (by omega)), w_sizeAt ho hx.1 (by omega), if_pos (by omega), Option.bind_some, g4, if_neg (show ¬ nI (aW a q) ≤ 0 by rw [li0]; exact nI_ge g2 (by omega)), if_neg (show ¬ nI b = nI t from fun h => h5 ((nI_eq (by omega) (by omega)).mp h)), u1, Option.bind_some, u3, Option.bind_some]
          unfold f_X3_moveThings_66
          rw [nI_add, nI_1]
          exact r3 f (by omega)
        · obtain ⟨f, rfl⟩ : ∃ f, fu = f + 1 := ⟨fu - 1, by omega⟩
          have hE := hm.2.2.2.2.1 q g1
          rw [if_neg (by omega)] at hE
          obtain ⟨m1, s1, s2⟩ := m_move ho hm g1 g2 (t := t)
          have e0 : (70 + 5 * nI q) + 0 = nI (70 + 5 * q) := by rw [li70, li5, nI_mul, nI_add, li0, nI_add]; rfl
          rw [he9 e he, f_X6_together_22.eq_2, if_neg (nI_m1 (by omega)), e0, show f_X6_of (nI q) 0 o.2.1 = some (nI (aB a q)) by rw [li0, m_of (by omega), Nat.add_zero, hE.1], Option.bind_some, if_neg (show ¬ nI (aB a q) = nI t from fun h => h5 (by rw [← g3]; exact (nI_eq (by omega) (by omega)).mp h)), s1, Option.bind_some, gi_in (by omega) (by decide), nI_clamp (by omega)]
          unfold f_X6_together_70
          obtain ⟨e2, s3, s4⟩ := m_lowestFrom ho2 s2 (t := t + aW a q) (by omega)
          have hE2 := (s2.2.2.2.2.1 q g1).2.1
          rw [li1, m_of (by omega), Option.bind_some]
          show ∃ m2, (Option.bind (f_X6_lowestFrom (nI t + upd m1 (70 + 5 * q) (nI t) (70 + 5 * q + 1)) (upd m1 (70 + 5 * q) (nI t))) (fun z6 => f_X6_together_22 f (v1 + nI 1) (nI t + upd m1 (70 + 5 * q) (nI t) (70 + 5 * q + 1)) z6 (o.1, upd m1 (70 + 5 * q) (nI t), o.2.2))) = _ ∧ _
          rw [hE2]
          show ∃ m2, (Option.bind (f_X6_lowestFrom (nI t + nI (aW a q)) (upd m1 (70 + 5 * q) (nI t))) (fun z6 => f_X6_together_22 f (v1 + nI 1) (nI t + nI (aW a q)) z6 (o.1, upd m1 (70 + 5 * q) (nI t), o.2.2))) = _ ∧ _
          rw [nI_add, s3, Option.bind_some]
          exact r4 (o.1, upd m1 (70 + 5 * q) (nI t), o.2.2) f e2 s2 (by omega) s4
    · obtain ⟨r, y, a2, r1, r2, r3, r4, r5, R, r6, r7⟩ := ih a x (b + 1) t v1 (by omega) (by omega) ht ho hx (fun i p1 p2 => by
        have p3 := hI i p1 p2
        have p4 := g1 i p1 p2
        omega)
      refine ⟨r, y, a2, r1, r2, fun fu hf => ?_, fun o fu e hm hf he => ?_, fun c => Nat.le_trans (r5 c) stp0, R, r6, by omega⟩
      · obtain ⟨f, rfl⟩ : ∃ f, fu = f + 1 := ⟨fu - 1, by omega⟩
        rw [f_X3_moveThings_15.eq_2, if_neg (nI_ge (by omega) (by omega)), w_sizeAt ho hx.1 (by omega), if_pos (by omega), Option.bind_some, g2, if_pos (by decide)]
        unfold f_X3_moveThings_66
        rw [Int32.add_zero, nI_1]
        exact r3 f (by omega)
      · exact r4 o fu e hm (by omega) he
/-- things are moved together, both sides -/
theorem together2 {a : AbT} {x : StC} (ho : aOk a) (hx : cV a x) : ∃ r y a2, f_X3_moveThings x = some (r, y) ∧ aOk a2 ∧ cV a2 y ∧ (∀ o : MdC, mV a o.2.1 → ∃ m2, (Option.bind (f_X6_lowestFrom 0 o.2.1) fun z2 => f_X6_together_22 FU 0 0 z2 o) = some (r, (o.1, m2, o.2.2)) ∧ mV a2 m2) ∧ (∀ c, aS a2 c ≤ aS a c + 1) ∧ ∃ R, r = nI R ∧ R ≤ 64 := by
  have hC := aOk.C a ho
  obtain ⟨r, y, a2, r1, r2, r3, r4, r5, R, r6, r7⟩ := together_loop (aC a) a x 0 0 0 (by omega) (by omega) (by omega) ho hx (fun i p1 p2 => by omega)
  refine ⟨r, y, a2, ?_, r1, r2, fun o hm => ?_, fun c => Nat.le_trans (r5 c) (by by_cases h : 0 ≤ c; rw [if_pos h]; exact Nat.le_refl _; rw [if_neg h]; omega), R, by rw [r6, Int32.zero_add], by omega⟩
  · unfold f_X3_moveThings f_X2_cellsNow
    rw [Option.bind_some, hx.1.1]
    exact r3 FU (by unfold FU; omega)
  · obtain ⟨e, s1, s2⟩ := m_lowestFrom ho hm (t := 0) (by omega)
    rw [show f_X6_lowestFrom 0 o.2.1 = some e from s1, Option.bind_some]
    exact r4 o FU e hm (by unfold FU; omega) s2
theorem together {a : AbT} {x : StC} (ho : aOk a) (hx : cV a x) : ∃ r y a2, f_X3_moveThings x = some (r, y) ∧ aOk a2 ∧ cV a2 y ∧ ∀ o : MdC, mV a o.2.1 → ∃ m2, (Option.bind (f_X6_lowestFrom 0 o.2.1) fun z2 => f_X6_together_22 FU 0 0 z2 o) = some (r, (o.1, m2, o.2.2)) ∧ mV a2 m2 := by
  obtain ⟨r, y, a2, r1, r2, r3, r4, -⟩ := together2 ho hx
  exact ⟨r, y, a2, r1, r2, r3, r4⟩
