/-! Texts: the buffer of both; what the class's machine does. -/
def tV (len : Nat) (cd : Nat → Nat) (x : TxC) (o : MdC) : Prop := len ≤ 60 ∧ x.2 = nI len ∧ o.2.2.2.2.2.2.1 = nI len ∧ ∀ i, i < len → x.1 i = nI (cd i) ∧ o.2.2.2.2.2.1 i = nI (cd i) ∧ 33 ≤ cd i ∧ cd i ≤ 126
theorem w_codeAt {len : Nat} {cd : Nat → Nat} {x : TxC} {o : MdC} (ht : tV len cd x o) {i : Nat} (hi : i < len) : f_X4_codeAt (nI i) x = some (nI (cd i)) := by
  have h0 := ht.1
  unfold f_X4_codeAt
  rw [ht.2.1, if_neg (nI_pos (by omega)), if_neg (nI_ge hi (by omega)), li60, if_neg (nI_ge (by omega) (by omega)), gi_in (by omega) (by decide), nI_clamp (by omega), (ht.2.2.2 i hi).1]
theorem sb0 : ∀ c : Fin 128, f_X4_stateBehind (nI 0) (nI c) = some (if c.val = 48 then nI 1 else if 49 ≤ c.val ∧ c.val ≤ 57 then nI 2 else -1) := by decide +kernel
theorem sb1 : ∀ c : Fin 128, f_X4_stateBehind (nI 1) (nI c) = some (if c.val = 42 then nI 5 else -1) := by decide +kernel
theorem sb2 : ∀ c : Fin 128, f_X4_stateBehind (nI 2) (nI c) = some (if c.val = 42 then nI 5 else if 48 ≤ c.val ∧ c.val ≤ 57 then nI 3 else -1) := by decide +kernel
theorem sb3 : ∀ c : Fin 128, f_X4_stateBehind (nI 3) (nI c) = some (if c.val = 42 then nI 5 else if 48 ≤ c.val ∧ c.val ≤ 57 then nI 4 else -1) := by decide +kernel
theorem sb4 : ∀ c : Fin 128, f_X4_stateBehind (nI 4) (nI c) = some (if c.val = 42 then nI 5 else -1) := by decide +kernel
theorem sb5 : ∀ c : Fin 128, f_X4_stateBehind (nI 5) (nI c) = some (if 49 ≤ c.val ∧ c.val ≤ 52 then nI 6 else -1) := by decide +kernel
theorem sb6 : ∀ c : Fin 128, f_X4_stateBehind (nI 6) (nI c) = some (if c.val = 44 then nI 0 else if c.val = 33 ∨ c.val = 43 then nI 7 else -1) := by decide +kernel
theorem sb7 : ∀ c : Fin 128, f_X4_stateBehind (nI 7) (nI c) = some (if c.val = 44 then nI 0 else -1) := by decide +kernel
theorem sbm {c : Int32} : f_X4_stateBehind (-1) c = some (-1) := by
  unfold f_X4_stateBehind
  rw [if_neg (by decide), if_neg (by decide), if_neg (by decide), if_neg (by decide), if_neg (by decide), if_neg (by decide), if_neg (by decide), if_neg (by decide)]
theorem sks : ∀ c : Fin 128, f_X5_kindOfSign (nI c) = some (nI (if c.val = 33 then 1 else if c.val = 43 then 2 else 0)) := by decide +kernel
/-- the class's machine goes from the state s at i to the state t at e -/
def Rn (x : TxC) (i s e t : Nat) : Prop := i ≤ e ∧ (∀ fu, f_X4_firstWrong_4 (fu + (e - i)) (nI s) (nI i) x = f_X4_firstWrong_4 fu (nI t) (nI e) x) ∧ ∀ fu, f_X4_isComplete_4 (fu + (e - i)) (nI s) (nI i) x = f_X4_isComplete_4 fu (nI t) (nI e) x
theorem Rn.rf {x : TxC} {i s : Nat} : Rn x i s i s := ⟨Nat.le_refl _, fun fu => by rw [Nat.sub_self]; rfl, fun fu => by rw [Nat.sub_self]; rfl⟩
theorem Rn.tr {x : TxC} {i s j u e t : Nat} (h1 : Rn x i s j u) (h2 : Rn x j u e t) : Rn x i s e t := by
  obtain ⟨a1, a2, a3⟩ := h1
  obtain ⟨b1, b2, b3⟩ := h2
  refine ⟨by omega, fun fu => ?_, fun fu => ?_⟩
  · rw [show fu + (e - i) = fu + (e - j) + (j - i) by omega, a2, b2]
  · rw [show fu + (e - i) = fu + (e - j) + (j - i) by omega, a3, b3]
theorem Rn.st {len : Nat} {cd : Nat → Nat} {x : TxC} {o : MdC} (ht : tV len cd x o) {i s t : Nat} (hi : i < len) (h7 : t < 100) (hq : f_X4_stateBehind (nI s) (nI (cd i)) = some (nI t)) : Rn x i s (i + 1) t := by
  have h0 := ht.1
  refine ⟨by omega, fun fu => ?_, fun fu => ?_⟩
  · rw [show fu + (i + 1 - i) = fu + 1 by omega, f_X4_firstWrong_4.eq_2, ht.2.1, if_neg (nI_ge hi (by omega)), w_codeAt ht hi, Option.bind_some, hq, Option.bind_some, if_neg (nI_m1 (by omega)), nI_1]
  · rw [show fu + (i + 1 - i) = fu + 1 by omega, f_X4_isComplete_4.eq_2, ht.2.1, if_neg (nI_ge hi (by omega)), w_codeAt ht hi, Option.bind_some, hq, Option.bind_some, nI_1]
theorem w_stuck {len : Nat} {cd : Nat → Nat} {x : TxC} {o : MdC} (ht : tV len cd x o) : ∀ (fu i : Nat), len - i < fu → i ≤ len → f_X4_isComplete_4 fu (-1) (nI i) x = some 0 := by
  have h0 := ht.1
  intro fu
  induction fu with
  | zero => intro i h; omega
  | succ fu ih =>
    intro i h1 h2
    rw [f_X4_isComplete_4.eq_2, ht.2.1]
    by_cases h3 : i = len
    · rw [if_pos (nI_le (by omega) (by omega)), if_neg (by decide), if_neg (by decide)]
    · rw [if_neg (nI_ge (by omega) (by omega)), w_codeAt ht (by omega), Option.bind_some, sbm, Option.bind_some, nI_1]
      exact ih (i + 1) (by omega) (by omega)
/-- the machine's end: an error, or the buffer's end -/
def rnE (len : Nat) (cd : Nat → Nat) (t e : Nat) : Prop := t < 8 ∧ e ≤ len ∧ (e = len ∨ f_X4_stateBehind (nI t) (nI (cd e)) = some (-1))
theorem rnE.first {len : Nat} {cd : Nat → Nat} {x : TxC} {o : MdC} (ht : tV len cd x o) {t e : Nat} (hq : rnE len cd t e) (fu : Nat) : f_X4_firstWrong_4 (fu + 1) (nI t) (nI e) x = some (nI e) := by
  have h0 := ht.1
  obtain ⟨h1, h2, h3⟩ := hq
  rw [f_X4_firstWrong_4.eq_2, ht.2.1]
  by_cases h4 : e = len
  · rw [if_pos (nI_le (by omega) (by omega)), h4]
  · rw [if_neg (nI_ge (by omega) (by omega)), w_codeAt ht (by omega), Option.bind_some]
    rcases h3 with h3 | h3
    · exact absurd h3 h4
    · rw [h3, Option.bind_some, if_pos rfl]
theorem rnE.comp0 {len : Nat} {cd : Nat → Nat} {x : TxC} {o : MdC} (ht : tV len cd x o) {t e : Nat} (hq : rnE len cd t e) (hn : e = len → t < 6) {fu : Nat} (hf : len < fu) : f_X4_isComplete_4 (fu + 1) (nI t) (nI e) x = some 0 := by
  have h0 := ht.1
  obtain ⟨h1, h2, h3⟩ := hq
  rw [f_X4_isComplete_4.eq_2, ht.2.1]
  by_cases h4 : e = len
  · have h5 := hn h4
    rw [if_pos (nI_le (by omega) (by omega)), if_neg (show ¬ nI t = 6 from fun h => by rw [li6] at h; have := (nI_eq (by omega) (by omega)).mp h; omega), if_neg (show ¬ nI t = 7 from fun h => by rw [show (7 : Int32) = nI 7 from rfl] at h; have := (nI_eq (by omega) (by omega)).mp h; omega)]
  · rw [if_neg (nI_ge (by omega) (by omega)), w_codeAt ht (by omega), Option.bind_some]
    rcases h3 with h3 | h3
    · exact absurd h3 h4
    · rw [h3, Option.bind_some, nI_1]
      exact w_stuck ht fu (e + 1) (by omega) (by omega)
theorem w_comp1 {len : Nat} {cd : Nat → Nat} {x : TxC} {o : MdC} (ht : tV len cd x o) {t : Nat} (hq : t = 6 ∨ t = 7) (fu : Nat) : f_X4_isComplete_4 (fu + 1) (nI t) (nI len) x = some 1 := by
  have h0 := ht.1
  rw [f_X4_isComplete_4.eq_2, ht.2.1, if_pos (nI_le (by omega) (by omega))]
  rcases hq with h | h <;> subst h
  · rw [if_pos (by decide)]; rfl
  · rw [if_neg (by decide), if_pos (by decide)]; rfl
/-! .. the class's search and numbers -/
theorem w_index_of {len : Nat} {cd : Nat → Nat} {x : TxC} {o : MdC} (ht : tV len cd x o) {c e : Nat} (hc : c < 200) (he : e ≤ len) (hE : e = len ∨ cd e = c) : ∀ (fu i : Nat), e - i < fu → i ≤ e → (∀ j, i ≤ j → j < e → cd j ≠ c) → f_X4_indexOf_2 fu (nI c) (nI i) x = some (nI e) := by
  have h0 := ht.1
  intro fu
  induction fu with
  | zero => intro i h; omega
  | succ fu ih =>
    intro i h1 h2 h3
    rw [f_X4_indexOf_2.eq_2, ht.2.1]
    by_cases h4 : i = len
    · rw [if_pos (nI_le (by omega) (by omega)), show e = len by omega]
    · rw [if_neg (nI_ge (by omega) (by omega)), w_codeAt ht (by omega), Option.bind_some]
      have h9 := ht.2.2.2 i (by omega)
      by_cases h5 : i = e
      · subst h5
        rw [if_pos (show nI (cd i) = nI c by rw [hE.resolve_left h4])]
      · rw [if_neg (fun h => h3 i (Nat.le_refl _) (by omega) ((nI_eq (by omega) (by omega)).mp h)), nI_1]
        exact ih (i + 1) (by omega) (by omega) (fun j q1 q2 => h3 j (by omega) q2)
theorem w_indexOf_t {len : Nat} {cd : Nat → Nat} {x : TxC} {o : MdC} (ht : tV len cd x o) {c e i : Nat} (hc : c < 200) (he : e ≤ len) (hE : e = len ∨ cd e = c) (hi : i ≤ e) (hn : ∀ j, i ≤ j → j < e → cd j ≠ c) : f_X4_indexOf (nI c) (nI i) x = some (nI e) := by
  have h0 := ht.1
  unfold f_X4_indexOf
  exact w_index_of ht hc he hE FU i (by unfold FU; omega) hi hn
theorem w_num_step {len : Nat} {cd : Nat → Nat} {x : TxC} {o : MdC} (ht : tV len cd x o) {e i v fu : Nat} (hi : i < len) (he : i < e) (he2 : e < 200) (hd : 48 ≤ cd i) : f_X4_numberIn_5 (fu + 1) (nI e) (nI v) (nI i) x = f_X4_numberIn_5 fu (nI e) (nI (10 * v + (cd i - 48))) (nI (i + 1)) x := by
  have h0 := ht.1
  rw [f_X4_numberIn_5.eq_2, if_neg (nI_ge he (by omega)), ht.2.1, if_neg (nI_ge hi (by omega)), w_codeAt ht hi, Option.bind_some, nI_1, show (10 : Int32) = nI 10 from rfl, show (48 : Int32) = nI 48 from rfl, nI_mul, nI_add, nI_sub (by omega), show 10 * v + cd i - 48 = 10 * v + (cd i - 48) by omega]
theorem w_num_end {x : TxC} {e v fu : Nat} (he2 : e < 200) : f_X4_numberIn_5 (fu + 1) (nI e) (nI v) (nI e) x = some (nI v) := by
  rw [f_X4_numberIn_5.eq_2, if_pos (nI_le (Nat.le_refl _) (by omega))]
/-! .. the model's reading -/
abbrev mS (o : MdC) (s : Nat) (td : Fn) (tm : Nat) : MdC := (o.1, o.2.1, o.2.2.1, o.2.2.2.1, o.2.2.2.2.1, o.2.2.2.2.2.1, o.2.2.2.2.2.2.1, nI s, td, nI tm, o.2.2.2.2.2.2.2.2.2.2)
theorem m_sees {len : Nat} {cd : Nat → Nat} {x : TxC} {o : MdC} (ht : tV len cd x o) {s lo hi tm : Nat} {td : Fn} (hs : s ≤ len) (hl : lo < 200) (hh : hi < 200) : f_X6_sees (nI lo) (nI hi) (mS o s td tm) = some (if s < len ∧ lo ≤ cd s ∧ cd s ≤ hi then 1 else 0) := by
  have h0 := ht.1
  show (if o.2.2.2.2.2.2.1 ≤ nI s then some 0 else gi (nI s) 60 <| Option.bind (f_X6_in (o.2.2.2.2.2.1 (nI s).toNatClampNeg) (nI lo) (nI hi)) fun z1 => if z1 = 0 then some 0 else some 1) = _
  rw [ht.2.2.1]
  by_cases h1 : s = len
  · rw [if_pos (nI_le (by omega) (by omega)), if_neg (fun h => by omega)]
  · have h9 := ht.2.2.2 s (by omega)
    rw [if_neg (nI_ge (by omega) (by omega)), gi_in (by omega) (by decide), nI_clamp (by omega), h9.2.1]
    by_cases h2 : lo ≤ cd s ∧ cd s ≤ hi
    · rw [m_in1 (by omega) (by omega) (by omega) h2, Option.bind_some, if_neg (by decide), if_pos ⟨by omega, h2⟩]
    · rw [m_in0 (by omega) (by omega) (by omega) h2, Option.bind_some, if_pos rfl, if_neg (fun h => h2 h.2)]
theorem m_takes {len : Nat} {cd : Nat → Nat} {x : TxC} {o : MdC} (ht : tV len cd x o) {s k tm : Nat} {td : Fn} (hs : s ≤ len) (hk : k < 200) : f_X6_takes (nI k) (mS o s td tm) = if s < len ∧ cd s = k then some (1, mS o (s + 1) td tm) else some (0, mS o s td tm) := by
  unfold f_X6_takes
  rw [m_sees ht hs hk hk, Option.bind_some]
  unfold f_X6_takes_21 gz
  by_cases h1 : s < len ∧ cd s = k
  · rw [if_pos (show s < len ∧ k ≤ cd s ∧ cd s ≤ k by omega), if_neg (by decide), if_pos (Or.inr rfl), if_pos h1]
    show some ((1 : Int32), (o.1, o.2.1, o.2.2.1, o.2.2.2.1, o.2.2.2.2.1, o.2.2.2.2.2.1, o.2.2.2.2.2.2.1, nI s + 1, td, nI tm, o.2.2.2.2.2.2.2.2.2.2)) = _
    rw [nI_1]
  · rw [if_neg (show ¬ (s < len ∧ k ≤ cd s ∧ cd s ≤ k) by omega), if_pos rfl, if_pos (Or.inl rfl), if_neg h1]
    show some ((0 : Int32), (o.1, o.2.1, o.2.2.1, o.2.2.2.1, o.2.2.2.2.1, o.2.2.2.2.2.1, o.2.2.2.2.2.2.1, nI s + 0, td, nI tm, o.2.2.2.2.2.2.2.2.2.2)) = _
    rw [Int32.add_zero]
abbrev dg (len : Nat) (cd : Nat → Nat) (s : Nat) : Prop := s < len ∧ 48 ≤ cd s ∧ cd s ≤ 57
theorem m_n123 {o : MdC} {p s v tm : Nat} {td : Fn} (hp : 3 * tm + p < 63) : f_X6_isNumber_123 (nI p) (nI v) (mS o s td tm) = some (1, mS o s (upd td (3 * tm + p) (nI v)) tm) := by
  unfold f_X6_isNumber_123
  show gi (3 * nI tm + nI p) 63 (some ((1 : Int32), (o.1, o.2.1, o.2.2.1, o.2.2.2.1, o.2.2.2.2.1, o.2.2.2.2.2.1, o.2.2.2.2.2.2.1, nI s, upd td (3 * nI tm + nI p).toNatClampNeg (nI v), nI tm, o.2.2.2.2.2.2.2.2.2.2))) = _
  rw [li3, nI_mul, nI_add, gi_in hp (by decide), nI_clamp (by omega)]
theorem m_num_step {len : Nat} {cd : Nat → Nat} {x : TxC} {o : MdC} (ht : tV len cd x o) {p M s v tm fu : Nat} {td : Fn} (hs : s ≤ len) (hp : 3 * tm + p < 63) (hv : v ≤ 999) (hM : M < 2000) : f_X6_isNumber_52 (fu + 1) (nI p) (nI M) (nI v) (mS o s td tm) = if 0 < v ∧ dg len cd s ∧ 10 * v + (cd s - 48) ≤ M then f_X6_isNumber_52 fu (nI p) (nI M) (nI (10 * v + (cd s - 48))) (mS o (s + 1) td tm) else some (1, mS o s (upd td (3 * tm + p) (nI v)) tm) := by
  have h0 := ht.1
  rw [f_X6_isNumber_52.eq_2, m_n123 hp]
  by_cases h1 : v = 0
  · rw [if_pos (by rw [h1]; decide), if_neg (fun h => by omega)]
  · rw [if_neg (by rw [li0]; exact nI_ge (by omega) (by omega)), show (48 : Int32) = nI 48 from rfl, show (57 : Int32) = nI 57 from rfl, m_sees ht hs (by omega) (by omega), Option.bind_some]
    by_cases h2 : dg len cd s
    · have h9 := ht.2.2.2 s h2.1
      have h8 := h2.1
      have h7 := h2.2
      rw [if_pos (show s < len ∧ 48 ≤ cd s ∧ cd s ≤ 57 from h2), if_neg (by decide)]
      show gi (nI s) 60 (if nI M < (((10 * nI v) + (o.2.2.2.2.2.1 (nI s).toNatClampNeg)) - nI 48) then some (1, mS o s (upd td (3 * tm + p) (nI v)) tm) else gi (nI s) 60 (f_X6_isNumber_52 fu (nI p) (nI M) (((10 * nI v) + (o.2.2.2.2.2.1 (nI s).toNatClampNeg)) - nI 48) (o.1, o.2.1, o.2.2.1, o.2.2.2.1, o.2.2.2.2.1, o.2.2.2.2.2.1, o.2.2.2.2.2.2.1, nI s + 1, td, nI tm, o.2.2.2.2.2.2.2.2.2.2))) = _
      rw [gi_in (by omega) (by decide), gi_in (by omega) (by decide), nI_clamp (by omega), h9.2.1, show (10 : Int32) = nI 10 from rfl, nI_mul, nI_add, nI_sub (by omega), nI_1, show 10 * v + cd s - 48 = 10 * v + (cd s - 48) by omega]
      by_cases h3 : 10 * v + (cd s - 48) ≤ M
      · rw [if_neg (nI_nlt h3 (by omega)), if_pos ⟨by omega, h2, h3⟩]
      · rw [if_pos (nI_lt (by omega) (by omega)), if_neg (fun h => h3 h.2.2)]
    · rw [if_neg (show ¬ (s < len ∧ 48 ≤ cd s ∧ cd s ≤ 57) from h2), if_pos rfl, if_neg (fun h => h2 h.2.1)]
/-- the model reads a number of least to most -/
theorem m_n19 {len : Nat} {cd : Nat → Nat} {x : TxC} {o : MdC} (ht : tV len cd x o) {p M s lo hi tm : Nat} {td : Fn} (hs : s ≤ len) (h48 : 48 ≤ lo) (h57 : hi ≤ 9) : (¬ (s < len ∧ lo ≤ cd s ∧ cd s ≤ 48 + hi) → lo < 200 → f_X6_isNumber_19 (nI p) (nI M) (nI lo) 48 (nI hi) (mS o s td tm) = some (0, mS o s td tm)) ∧ (s < len ∧ lo ≤ cd s ∧ cd s ≤ 48 + hi → lo < 200 → f_X6_isNumber_19 (nI p) (nI M) (nI lo) 48 (nI hi) (mS o s td tm) = f_X6_isNumber_52 FU (nI p) (nI M) (nI (cd s - 48)) (mS o (s + 1) td tm)) := by
  have h0 := ht.1
  unfold f_X6_isNumber_19
  rw [show (48 : Int32) = nI 48 from rfl, nI_add]
  refine ⟨fun h1 h2 => ?_, fun h1 h2 => ?_⟩
  · rw [m_sees ht hs h2 (by omega), Option.bind_some, if_neg h1, if_pos rfl]
  · have h9 := ht.2.2.2 s h1.1
    have h8 := h1.1
    have h7 := h1.2
    rw [m_sees ht hs h2 (by omega), Option.bind_some, if_pos h1, if_neg (by decide)]
    show gi (nI s) 60 (f_X6_isNumber_52 FU (nI p) (nI M) (o.2.2.2.2.2.1 (nI s).toNatClampNeg - nI 48) (o.1, o.2.1, o.2.2.1, o.2.2.2.1, o.2.2.2.2.1, o.2.2.2.2.2.1, o.2.2.2.2.2.2.1, nI s + 1, td, nI tm, o.2.2.2.2.2.2.2.2.2.2)) = _
    rw [gi_in (by omega) (by decide), nI_clamp (by omega), h9.2.1, nI_sub (by omega), nI_1]
