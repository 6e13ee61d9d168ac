/-! How many cells there will be; growing. -/
theorem aRoom.least {a : AbT} {w C2 b : Nat} {r : Int32} (hq : aRoom a w C2 r) (h1 : aWin a w b) (h2 : ∀ b2, b2 < b → ¬ aWin a w b2) : r = if b + w ≤ C2 then nI b else -1 := by
  rcases hq with ⟨c, e1, e2, e3, e4⟩ | ⟨e1, e2⟩
  · have h3 : c = b := by
      rcases Nat.lt_trichotomy b c with q | q | q
      · exact absurd h1 (e4 b q)
      · exact q.symm
      · exact absurd e3 (h2 c q)
    rw [e1, h3, if_pos (by omega)]
  · by_cases h3 : b + w ≤ C2
    · exact absurd h1 (e2 b h3)
    · rw [if_neg h3]; exact e1
theorem aRoom.none {a : AbT} {w C2 : Nat} {r : Int32} (hq : aRoom a w C2 r) (hC : C2 ≤ 64) (h1 : ∀ b, b + w ≤ 64 → ¬ aWin a w b) : r = -1 := by
  rcases hq with ⟨c, e1, e2, e3, e4⟩ | ⟨e1, e2⟩
  · exact absurd e3 (h1 c (by omega))
  · exact e1
theorem m_roomL {a : AbT} {m : Fn} (ho : aOk a) (hm : mV a m) {w : Nat} (hw : 1 ≤ w) (hw2 : w ≤ 64) {C2 b : Nat} (hC : C2 ≤ 64) (h1 : aWin a w b) (h2 : ∀ b2, b2 < b → ¬ aWin a w b2) : f_X6_roomIn (nI w) (nI C2) m = some (if b + w ≤ C2 then nI b else -1) := by
  obtain ⟨r, e1, e2⟩ := m_roomIn ho hm hC hw hw2
  rw [e1, e2.least h1 h2]
theorem m_roomN {a : AbT} {m : Fn} (ho : aOk a) (hm : mV a m) {w : Nat} (hw : 1 ≤ w) (hw2 : w ≤ 64) {C2 : Nat} (hC : C2 ≤ 64) (h1 : ∀ b, b + w ≤ 64 → ¬ aWin a w b) : f_X6_roomIn (nI w) (nI C2) m = some (-1) := by
  obtain ⟨r, e1, e2⟩ := m_roomIn ho hm hC hw hw2
  rw [e1, e2.none hC h1]
theorem m_c27L {a : AbT} {m : Fn} (ho : aOk a) (hm : mV a m) {w : Nat} (hw : 1 ≤ w) (hw2 : w ≤ 64) {C2 b : Nat} (hC : C2 ≤ 64) (h1 : aWin a w b) (h2 : ∀ b2, b2 < b → ¬ aWin a w b2) (h3 : b + w ≤ C2) : f_X6_cellsFor_27 (nI w) (nI C2) m = some (nI C2) := by
  unfold f_X6_cellsFor_27
  rw [m_roomL ho hm hw hw2 hC h1 h2, if_pos h3, Option.bind_some, if_neg (nI_m1 (by omega))]
theorem m_c27N {a : AbT} {m : Fn} (ho : aOk a) (hm : mV a m) {w : Nat} (hw : 1 ≤ w) (hw2 : w ≤ 64) {C2 : Nat} (hC : C2 ≤ 64) (h1 : ∀ b, b + w ≤ 64 → ¬ aWin a w b) : f_X6_cellsFor_27 (nI w) (nI C2) m = some (-1) := by
  unfold f_X6_cellsFor_27
  rw [m_roomN ho hm hw hw2 hC h1, Option.bind_some, if_pos rfl]
theorem m_cellsL {a : AbT} {m : Fn} (ho : aOk a) (hm : mV a m) {w : Nat} (hw : 1 ≤ w) (hw2 : w ≤ 64) {b : Nat} (h1 : aWin a w b) (h2 : ∀ b2, b2 < b → ¬ aWin a w b2) : ∀ (fu C2 : Nat), C2 = 64 ∧ 0 < fu ∨ C2 = 32 ∧ 1 < fu ∨ C2 = 16 ∧ 2 < fu → b + w ≤ 64 → f_X6_cellsFor_4 fu (nI w) (nI C2) m = some (nI (aGr C2 (b + w))) := by
  intro fu
  induction fu with
  | zero => intro C2 h3; omega
  | succ fu ih =>
    intro C2 h3 h4
    rw [f_X6_cellsFor_4.eq_2, li64]
    by_cases h5 : C2 = 64
    · rw [if_pos (nI_le (by omega) (by omega)), m_c27L ho hm hw hw2 (by omega) h1 h2 (by omega)]
      unfold aGr
      rw [if_pos (by omega)]
    · rw [if_neg (nI_ge (by omega) (by omega)), m_roomL ho hm hw hw2 (by omega) h1 h2, Option.bind_some]
      by_cases h6 : b + w ≤ C2
      · rw [if_pos h6, if_neg (nI_m1 (by omega)), m_c27L ho hm hw hw2 (by omega) h1 h2 h6]
        unfold aGr
        rw [if_pos h6]
      · rw [if_neg h6, if_pos rfl, li2, nI_mul, ih (C2 * 2) (by omega) h4]
        congr 2
        unfold aGr
        rw [if_neg h6]
        by_cases h7 : b + w ≤ C2 * 2
        · rw [if_pos h7, if_pos (by omega)]; omega
        · rw [if_neg h7, if_pos (by omega), if_neg (by omega)]; omega
theorem m_cellsN {a : AbT} {m : Fn} (ho : aOk a) (hm : mV a m) {w : Nat} (hw : 1 ≤ w) (hw2 : w ≤ 64) (h1 : ∀ b, b + w ≤ 64 → ¬ aWin a w b) : ∀ (fu C2 : Nat), C2 = 64 ∧ 0 < fu ∨ C2 = 32 ∧ 1 < fu ∨ C2 = 16 ∧ 2 < fu → f_X6_cellsFor_4 fu (nI w) (nI C2) m = some (-1) := by
  intro fu
  induction fu with
  | zero => intro C2 h3; omega
  | succ fu ih =>
    intro C2 h3
    rw [f_X6_cellsFor_4.eq_2, li64]
    by_cases h5 : C2 = 64
    · rw [if_pos (nI_le (by omega) (by omega)), m_c27N ho hm hw hw2 (by omega) h1]
    · rw [if_neg (nI_ge (by omega) (by omega)), m_roomN ho hm hw hw2 (by omega) h1, Option.bind_some, if_pos rfl, li2, nI_mul, ih (C2 * 2) (by omega)]
theorem m_cellsFor {a : AbT} {m : Fn} (ho : aOk a) (hm : mV a m) {w : Nat} (hw : 1 ≤ w) (hw2 : w ≤ 64) {r : Int32} (hr : aLow a w r) : (∃ b, r = nI b ∧ b + w ≤ 64 ∧ aWin a w b ∧ (∀ b2, b2 < b → ¬ aWin a w b2) ∧ f_X6_cellsFor (nI w) m = some (nI (aGr (aC a) (b + w))) ∧ f_X6_roomIn (nI w) (nI (aGr (aC a) (b + w))) m = some (nI b)) ∨ (r = -1 ∧ (∀ b, b + w ≤ 64 → ¬ aWin a w b) ∧ f_X6_cellsFor (nI w) m = some (-1)) := by
  have hC := ho.1
  have h0 : f_X6_cellsFor (nI w) m = f_X6_cellsFor_4 FU (nI w) (nI (aC a)) m := by
    unfold f_X6_cellsFor
    rw [li0, gi_in (by omega) (by decide), nI_clamp (by omega), hm.1]
  rw [h0]
  rcases hr with ⟨b, e1, e2, e3, e4⟩ | ⟨e1, e2⟩
  · refine Or.inl ⟨b, e1, e2, e3, e4, m_cellsL ho hm hw hw2 e3 e4 FU (aC a) (by unfold FU; omega) e2, ?_⟩
    have h5 : aGr (aC a) (b + w) ≤ 64 ∧ b + w ≤ aGr (aC a) (b + w) := by
      unfold aGr
      by_cases h6 : b + w ≤ aC a
      · rw [if_pos h6]; omega
      · by_cases h7 : b + w ≤ 2 * aC a
        · rw [if_neg h6, if_pos h7]; omega
        · rw [if_neg h6, if_neg h7]; omega
    rw [m_roomL ho hm hw hw2 h5.1 e3 e4, if_pos h5.2]
  · exact Or.inr ⟨e1, e2, m_cellsN ho hm hw hw2 e2 FU (aC a) (by unfold FU; omega)⟩
/-- the class grows as far -/
theorem w_grow_step {k i C fu : Nat} (hk : k ≤ 64) (hC : C ≤ 64) (hi : i < 2) (y : Fn × Fn × Fn × Fn × Fn × Fn) : f_X2_growTo_2 (fu + 1) (nI k) (nI i) (nI C, y) = f_X2_growTo_2 fu (nI k) (nI (i + 1)) (nI (if k ≤ C then C else if 64 ≤ C then C else 2 * C), y) := by
  rw [f_X2_growTo_2.eq_2, li2, li64, nI_1, if_neg (nI_ge (by omega) (by omega))]
  by_cases h6 : k ≤ C
  · rw [if_pos (show nI k ≤ (nI C, y).1 from nI_le h6 (by omega)), if_pos h6]
  · rw [if_neg (show ¬ nI k ≤ (nI C, y).1 from nI_ge (by omega) (by omega)), if_neg h6]
    by_cases h7 : 64 ≤ C
    · rw [if_pos (show nI 64 ≤ (nI C, y).1 from nI_le h7 (by omega)), if_pos h7]
    · rw [if_neg (show ¬ nI 64 ≤ (nI C, y).1 from nI_ge (by omega) (by omega)), if_neg h7]
      show f_X2_growTo_2 fu (nI k) (nI (i + 1)) (nI 2 * nI C, y) = _
      rw [nI_mul]
theorem w_grow_end {k fu : Nat} (x : SlC) : f_X2_growTo_2 (fu + 1) (nI k) (nI 2) x = some x := by
  rw [f_X2_growTo_2.eq_2, li2, if_pos (nI_le (by omega) (by omega))]
theorem w_growTo {a : AbT} {x : SlC} (ho : aOk a) (hv : sV a x) {k : Nat} (hk : k ≤ 64) : f_X2_growTo (nI k) x = some (nI (aGr (aC a) k), x.2) := by
  have hC := ho.1
  have h1 : x = (nI (aC a), x.2) := by rw [← hv.1]
  generalize aC a = C at hC h1 ⊢
  generalize x.2 = y at h1 ⊢
  subst h1
  show f_X2_growTo_2 (5997 + 1 + 1 + 1) (nI k) (nI 0) (nI C, y) = _
  rw [w_grow_step hk (by omega) (by omega)]
  have h2 : (if k ≤ C then C else if 64 ≤ C then C else 2 * C) ≤ 64 := by
    by_cases h6 : k ≤ C
    · rw [if_pos h6]; omega
    · rw [if_neg h6]
      by_cases h7 : 64 ≤ C
      · rw [if_pos h7]; omega
      · rw [if_neg h7]; omega
  rw [w_grow_step hk h2 (by omega), w_grow_end]
  congr 3
  unfold aGr
  by_cases h6 : k ≤ C
  · rw [if_pos h6, if_pos h6, if_pos h6]
  · rw [if_neg h6, if_neg h6]
    by_cases h7 : 64 ≤ C
    · omega
    · rw [if_neg h7]
      by_cases h8 : k ≤ 2 * C
      · rw [if_pos h8, if_pos h8]
      · rw [if_neg h8, if_neg h8, if_neg (by omega)]; omega
