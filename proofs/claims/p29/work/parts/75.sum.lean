/-! Sums over cells and over entries. -/
def sm : Nat → (Nat → Nat) → Nat
  | 0, _ => 0
  | n + 1, f => sm n f + f n
theorem sm.congr {n : Nat} {f g : Nat → Nat} (hq : ∀ i, i < n → f i = g i) : sm n f = sm n g := by
  induction n with
  | zero => rfl
  | succ n ih =>
    show sm n f + f n = sm n g + g n
    rw [ih (fun i hi => hq i (by omega)), hq n (by omega)]
theorem sm.zero {n : Nat} {f : Nat → Nat} (hq : ∀ i, i < n → f i = 0) : sm n f = 0 := by
  induction n with
  | zero => rfl
  | succ n ih =>
    show sm n f + f n = 0
    rw [ih (fun i hi => hq i (by omega)), hq n (by omega)]
theorem sm.add {n : Nat} {f g : Nat → Nat} : sm n (fun i => f i + g i) = sm n f + sm n g := by
  induction n with
  | zero => rfl
  | succ n ih =>
    show sm n (fun i => f i + g i) + (f n + g n) = (sm n f + f n) + (sm n g + g n)
    rw [ih]
    omega
theorem sm.swap {m : Nat} {f : Nat → Nat → Nat} : ∀ n, sm n (fun i => sm m (fun j => f i j)) = sm m (fun j => sm n (fun i => f i j)) := by
  intro n
  induction n with
  | zero => exact (sm.zero (fun i _ => rfl)).symm
  | succ n ih =>
    show sm n (fun i => sm m (fun j => f i j)) + sm m (fun j => f n j) = sm m (fun j => sm n (fun i => f i j) + f n j)
    rw [ih, sm.add]
theorem sm.one {n k v : Nat} {f : Nat → Nat} (hk : k < n) (h1 : f k = v) (h2 : ∀ i, i < n → i ≠ k → f i = 0) : sm n f = v := by
  induction n with
  | zero => omega
  | succ n ih =>
    show sm n f + f n = v
    by_cases h3 : k = n
    · rw [sm.zero (fun i hi => h2 i (by omega) (by omega)), ← h3, h1]
      omega
    · rw [ih (by omega) (fun i hi => h2 i (by omega)), h2 n (by omega) (by omega)]
      omega
theorem sm.win {b w : Nat} : ∀ n, sm n (fun c => if b ≤ c ∧ c < b + w then 1 else 0) = if n ≤ b then 0 else if n ≤ b + w then n - b else w := by
  intro n
  induction n with
  | zero => rw [if_pos (by omega)]; rfl
  | succ n ih =>
    show sm n (fun c => if b ≤ c ∧ c < b + w then 1 else 0) + (if b ≤ n ∧ n < b + w then 1 else 0) = _
    rw [ih]
    by_cases h1 : n + 1 ≤ b
    · rw [if_pos (by omega), if_neg (by omega), if_pos h1]
    · by_cases h2 : n + 1 ≤ b + w
      · rw [if_pos (show b ≤ n ∧ n < b + w by omega), if_neg h1, if_pos h2]
        by_cases h3 : n ≤ b
        · rw [if_pos h3]; omega
        · rw [if_neg h3, if_pos (by omega)]; omega
      · rw [if_neg (show ¬ (b ≤ n ∧ n < b + w) by omega), if_neg h1, if_neg h2]
        by_cases h3 : n ≤ b
        · rw [if_pos h3]; omega
        · rw [if_neg h3]
          by_cases h4 : n ≤ b + w
          · rw [if_pos h4]; omega
          · rw [if_neg h4]; rfl
/-- is the cell covered: 1, or 0 -/
def aCv (a : AbT) (c : Nat) : Nat := sm (aN a) (fun j => if aB a j ≤ c ∧ c < aB a j + aW a j then 1 else 0)
theorem aCv.fr {a : AbT} {c : Nat} (hq : aFr a c) : aCv a c = 0 := sm.zero fun j hj => if_neg (hq j hj)
theorem aCv.cov {a : AbT} (ho : aOk a) {c : Nat} (hq : ¬ aFr a c) : aCv a c = 1 := by
  obtain ⟨j, h1, h2⟩ : ∃ j, j < aN a ∧ aCov a j c := Classical.byContradiction fun h => hq fun j h1 h2 => h ⟨j, h1, h2⟩
  exact sm.one h1 (if_pos h2) (fun i hi h3 => if_neg (fun h4 => h3 (ho.2.2.2.1 i j c hi h1 h4 h2)))
/-- the cells that are not free -/
def aUs (a : AbT) : Nat := sm (aN a) (aW a)
theorem aUs.cells {a : AbT} (ho : aOk a) : sm (aC a) (aCv a) = aUs a := by
  show sm (aC a) (fun c => sm (aN a) (fun j => if aB a j ≤ c ∧ c < aB a j + aW a j then 1 else 0)) = _
  rw [sm.swap]
  refine sm.congr fun j hj => ?_
  rw [sm.win]
  by_cases h1 : aW a j = 0
  · by_cases h2 : aC a ≤ aB a j
    · rw [if_pos h2, h1]
    · rw [if_neg h2, h1]
      by_cases h3 : aC a ≤ aB a j + 0
      · omega
      · rw [if_neg h3]
  · have h2 := ho.2.2.1 j hj (by omega)
    rw [if_neg (by omega)]
    by_cases h3 : aC a ≤ aB a j + aW a j
    · rw [if_pos h3]; omega
    · rw [if_neg h3]
theorem sm.le {f : Nat → Nat} (hq : ∀ i, f i ≤ 1) : ∀ n, sm n f ≤ n := by
  intro n
  induction n with
  | zero => exact Nat.le_refl 0
  | succ n ih =>
    have h1 := hq n
    show sm n f + f n ≤ n + 1
    omega
theorem aCv.le {a : AbT} (ho : aOk a) (c : Nat) : aCv a c ≤ 1 := by
  by_cases h1 : aFr a c
  · rw [aCv.fr h1]; omega
  · rw [aCv.cov ho h1]; omega
theorem aUs.le {a : AbT} (ho : aOk a) : aUs a ≤ aC a := by
  rw [← aUs.cells ho]
  exact sm.le (aCv.le ho) _
/-- the values of all things -/
def aVs (a : AbT) : Nat := sm (aN a) (fun j => if aW a j = 0 then 0 else aV a j)
def aVc (a : AbT) (c : Nat) : Nat := sm (aN a) (fun j => if aW a j ≠ 0 ∧ aB a j = c then aV a j else 0)
theorem aVs.cells {a : AbT} (ho : aOk a) : sm (aC a) (aVc a) = aVs a := by
  show sm (aC a) (fun c => sm (aN a) (fun j => if aW a j ≠ 0 ∧ aB a j = c then aV a j else 0)) = _
  rw [sm.swap]
  refine sm.congr fun j hj => ?_
  by_cases h1 : aW a j = 0
  · rw [if_pos h1]
    exact sm.zero fun c hc => if_neg (fun h => h.1 h1)
  · have h2 := ho.2.2.1 j hj (by omega)
    rw [if_neg h1]
    exact sm.one (k := aB a j) (by omega) (if_pos ⟨h1, rfl⟩) (fun c hc h3 => if_neg (fun h4 => h3 h4.2.symm))
theorem w_sum_loop {a : AbT} {x : SlC} (ho : aOk a) (hv : sV a x) : ∀ (fu i : Nat), aC a - i < fu → i ≤ aC a → f_X2_sumOfValues_4 fu (nI (sm i (aVc a))) (nI i) x = some (nI (aVs a)) := by
  have hC := aOk.C a ho
  intro fu
  induction fu with
  | zero => intro i h1; omega
  | succ fu ih =>
    intro i h1 h2
    rw [f_X2_sumOfValues_4.eq_2, hv.1]
    by_cases h3 : i = aC a
    · rw [if_pos (nI_le (by omega) (by omega)), h3, aVs.cells ho]
    · rw [if_neg (nI_ge (by omega) (by omega)), w_sizeAt ho hv (by omega), if_pos (by omega), Option.bind_some, nI_1]
      have h5 : sm (i + 1) (aVc a) = sm i (aVc a) + aVc a i := rfl
      rcases hv.size ho (c := i) (by omega) with ⟨q, g1, g2, g3, g4⟩ | ⟨g1, g2⟩
      · have h9 := ho.2.2.1 q g1 g2
        have h6 : aVc a i = aV a q := sm.one g1 (if_pos ⟨by omega, g3⟩) (fun k hk h3 => if_neg (fun h4 => h3 (aB.inj ho hk g1 (by omega) g2 (h4.2.trans g3.symm))))
        have hval := (hv.2.2.2.2.1 q g1 g2).2.1
        rw [g3] at hval
        rw [g4, if_neg (show ¬ nI (aW a q) ≤ 0 by rw [li0]; exact nI_ge g2 (by omega)), w_valueAt ho hv (by omega), if_pos (by omega), Option.bind_some, hval, nI_add, ← h6, ← h5]
        exact ih (i + 1) (by omega) (by omega)
      · have h6 : aVc a i = 0 := sm.zero fun k hk => if_neg (fun h4 => g1 k hk (by omega) h4.2)
        rw [g2, if_pos (by decide), show sm i (aVc a) = sm (i + 1) (aVc a) by omega]
        exact ih (i + 1) (by omega) (by omega)
theorem w_sumOfValues {a : AbT} {x : SlC} (ho : aOk a) (hv : sV a x) : f_X2_sumOfValues x = some (nI (aVs a)) := by
  have hC := aOk.C a ho
  exact w_sum_loop ho hv FU 0 (by unfold FU; omega) (by omega)
theorem m_sum_loop {a : AbT} {o : MdC} (ho : aOk a) (hm : mV a o.2.1) : ∀ (fu i : Nat), aN a - i < fu → i ≤ aN a → f_X6_values_4 fu (nI (sm i (fun j => if aW a j = 0 then 0 else aV a j))) (nI i) o = some (nI (aVs a)) := by
  have hN := ho.2.1
  intro fu
  induction fu with
  | zero => intro i h1; omega
  | succ fu ih =>
    intro i h1 h2
    have i1 : ∀ (kk : Option Int32), gi 1 414 kk = kk := fun kk => gi_in (c := 1) (by omega) (by decide)
    have c1 : (1 : Int32).toNatClampNeg = 1 := by decide
    rw [f_X6_values_4.eq_2, i1, c1, hm.2.1]
    by_cases h3 : i = aN a
    · rw [if_pos (nI_le (by omega) (by omega)), h3]
      rfl
    · rw [if_neg (nI_ge (by omega) (by omega)), li2, m_of (by omega), Option.bind_some, (hm.2.2.2.2.1 i (by omega)).2.2.1, nI_add, nI_1]
      exact ih (i + 1) (by omega) (by omega)
theorem m_values {a : AbT} {o : MdC} (ho : aOk a) (hm : mV a o.2.1) : f_X6_values o = some (nI (aVs a)) := by
  have hN := ho.2.1
  exact m_sum_loop ho hm FU 0 (by unfold FU; omega) (by omega)
theorem m_used_loop {a : AbT} {o : MdC} (ho : aOk a) (hm : mV a o.2.1) : ∀ (fu i : Nat), aN a - i < fu → i ≤ aN a → f_X6_used_4 fu (nI (sm i (aW a))) (nI i) o = some (nI (aUs a)) := by
  have hN := ho.2.1
  intro fu
  induction fu with
  | zero => intro i h1; omega
  | succ fu ih =>
    intro i h1 h2
    have i1 : ∀ (kk : Option Int32), gi 1 414 kk = kk := fun kk => gi_in (c := 1) (by omega) (by decide)
    have c1 : (1 : Int32).toNatClampNeg = 1 := by decide
    rw [f_X6_used_4.eq_2, i1, c1, hm.2.1]
    by_cases h3 : i = aN a
    · rw [if_pos (nI_le (by omega) (by omega)), h3]
      rfl
    · rw [if_neg (nI_ge (by omega) (by omega)), li1, m_of (by omega), Option.bind_some, (hm.2.2.2.2.1 i (by omega)).2.1, nI_add, nI_add]
      exact ih (i + 1) (by omega) (by omega)
theorem m_used {a : AbT} {o : MdC} (ho : aOk a) (hm : mV a o.2.1) : f_X6_used o = some (nI (aUs a)) := by
  have hN := ho.2.1
  exact m_used_loop ho hm FU 0 (by unfold FU; omega) (by omega)
theorem w_owner_m1 {a : AbT} {x : SlC} (ho : aOk a) (hv : sV a x) {c : Nat} (hc : c < aC a) : ∃ z, f_X2_ownerOf (nI c) x = some z ∧ (z = -1 ↔ aFr a c) := by
  have hC := aOk.C a ho
  rw [w_ownerOf ho hv (by omega), if_pos hc]
  exact ⟨_, rfl, w_owner_iff ho hv (by omega)⟩
theorem w_free_loop {a : AbT} {x : SlC} (ho : aOk a) (hv : sV a x) : ∀ (fu i : Nat), aC a - i < fu → i ≤ aC a → f_X2_roomFor_7 fu (nI 1) (nI (i - sm i (aCv a))) (nI 0) (nI i) x = some (nI (aC a - aUs a)) := by
  have hC := aOk.C a ho
  intro fu
  induction fu with
  | zero => intro i h1; omega
  | succ fu ih =>
    intro i h1 h2
    have h7 := sm.le (aCv.le ho) i
    rw [f_X2_roomFor_7.eq_2, hv.1]
    by_cases h3 : i = aC a
    · rw [if_pos (nI_le (by omega) (by omega)), h3, aUs.cells ho]
    · obtain ⟨z, g1, g2⟩ := w_owner_m1 ho hv (c := i) (by omega)
      have h5 : sm (i + 1) (aCv a) = sm i (aCv a) + aCv a i := rfl
      rw [if_neg (nI_ge (by omega) (by omega)), g1, Option.bind_some]
      unfold f_X2_roomFor_33
      by_cases h6 : aFr a i
      · rw [if_pos (g2.mpr h6), nI_1, if_pos rfl, nI_1, nI_1, li0]
        have h8 := aCv.fr h6
        rw [show i - sm i (aCv a) + 1 = i + 1 - sm (i + 1) (aCv a) by omega]
        exact ih (i + 1) (by omega) (by omega)
      · rw [if_neg (fun h => h6 (g2.mp h)), if_neg (by decide), nI_1, li0]
        have h8 := aCv.cov ho h6
        rw [show i - sm i (aCv a) = i + 1 - sm (i + 1) (aCv a) by omega]
        exact ih (i + 1) (by omega) (by omega)
theorem w_freeCells {a : AbT} {x : SlC} (ho : aOk a) (hv : sV a x) : f_X2_freeCells x = some (nI (aC a - aUs a)) := by
  have hC := aOk.C a ho
  unfold f_X2_freeCells f_X2_roomFor
  have h1 := w_free_loop ho hv FU 0 (by unfold FU; omega) (by omega)
  rw [show f_X2_roomFor_7 FU 1 0 0 0 x = some (nI (aC a - aUs a)) from h1]
  rfl
