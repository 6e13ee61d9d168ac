/-! Gaps: the longest row of free cells; how many of a size there is room for. -/
theorem aRun.ex {a : AbT} {C2 : Nat} : ∀ n c, C2 - c = n → c ≤ C2 → ∃ r, aRun a c C2 r := by
  intro n
  induction n with
  | zero => intro c h1 h2; exact ⟨0, fun d q1 q2 => by omega, Or.inl ⟨by omega, rfl⟩⟩
  | succ n ih =>
    intro c h1 h2
    by_cases h3 : aFr a c
    · obtain ⟨r, g1, g2⟩ := ih (c + 1) (by omega) (by omega)
      refine ⟨r + 1, fun d q1 q2 => ?_, ?_⟩
      · by_cases q3 : d = c
        · rw [q3]; exact h3
        · exact g1 d (by omega) (by omega)
      · rcases g2 with g2 | g2 | g2
        · exact Or.inr (Or.inl (by omega))
        · exact Or.inr (Or.inl (by omega))
        · exact Or.inr (Or.inr ⟨by omega, by rw [show c + (r + 1) = c + 1 + r by omega]; exact g2.2⟩)
    · exact ⟨0, fun d q1 q2 => by omega, Or.inr (Or.inr ⟨by omega, h3⟩)⟩
theorem aRun.det {a : AbT} {c C2 r s : Nat} (h1 : aRun a c C2 r) (h2 : aRun a c C2 s) : r = s := by
  have key : ∀ {r s : Nat}, aRun a c C2 r → aRun a c C2 s → ¬ r < s := by
    intro r s h1 h2 h3
    rcases h1.2 with q | q | q
    · rcases h2.2 with p | p | p <;> omega
    · rcases h2.2 with p | p | p <;> omega
    · exact q.2 (h2.1 _ (by omega) (by omega))
  have k1 := key h1 h2
  have k2 := key h2 h1
  omega
/-- the free cells from i on, w at a time -/
theorem w_fit_run {a : AbT} {x : SlC} (ho : aOk a) (hv : sV a x) {w i many : Nat} (hw : 1 ≤ w) (hw4 : w ≤ 4) (hm : many ≤ 100) (fu : Nat) : ∀ k, i + k ≤ aC a → (∀ d, i ≤ d → d < i + k → aFr a d) → f_X2_roomFor_7 (fu + k) (nI w) (nI many) (nI 0) (nI i) x = f_X2_roomFor_7 fu (nI w) (nI (many + k / w)) (nI (k % w)) (nI (i + k)) x := by
  have hC := aOk.C a ho
  intro k
  induction k generalizing fu with
  | zero => intro h1 h2; rw [Nat.zero_div, Nat.zero_mod]; rfl
  | succ k ih =>
    intro h1 h2
    have hF := h2 (i + k) (by omega) (by omega)
    have hmod : k % w < w := Nat.mod_lt k hw
    have hdiv : k / w ≤ k := Nat.div_le_self k w
    rw [show fu + (k + 1) = (fu + 1) + k by omega, ih (fu + 1) (by omega) (fun d q1 q2 => h2 d q1 (by omega)), f_X2_roomFor_7.eq_2, hv.1]
    obtain ⟨z, g1, g2⟩ := w_owner_m1 ho hv (c := i + k) (by omega)
    rw [if_neg (nI_ge (by omega) (by omega)), g1, Option.bind_some, if_pos (g2.mpr hF)]
    unfold f_X2_roomFor_33
    rw [nI_1, nI_1, nI_1]
    by_cases h3 : k % w + 1 = w
    · have e1 : (k + 1) / w = k / w + 1 ∧ (k + 1) % w = 0 := by
        rcases (show w = 1 ∨ w = 2 ∨ w = 3 ∨ w = 4 by omega) with q | q | q | q <;> subst q <;> omega
      rw [if_pos (show nI (k % w + 1) = nI w by rw [h3]), e1.1, e1.2]
      rfl
    · have e1 : (k + 1) / w = k / w ∧ (k + 1) % w = k % w + 1 := by
        rcases (show w = 1 ∨ w = 2 ∨ w = 3 ∨ w = 4 by omega) with q | q | q | q <;> subst q <;> omega
      rw [if_neg (fun h => h3 ((nI_eq (by omega) (by omega)).mp h)), e1.1, e1.2]
      rfl
theorem w_fit_loop {a : AbT} {x : SlC} (ho : aOk a) (hv : sV a x) {w : Nat} (hw : 1 ≤ w) (hw4 : w ≤ 4) : ∀ (n i many : Nat), aC a + 1 - i ≤ n → i ≤ aC a + 1 → many ≤ i → ∃ t, (aC a ≤ i → t = many) ∧ (∀ fu, i ≤ aC a → aC a - i < fu → f_X2_roomFor_7 fu (nI w) (nI many) (nI 0) (nI i) x = some (nI t)) ∧ ∀ o fu, mV a o.2.1 → n < fu → f_X6_roomFor_23 fu (nI w) (nI many) (nI i) o = some (nI t) := by
  have hC := aOk.C a ho
  have i0 : ∀ (kk : Option Int32), gi 0 414 kk = kk := fun kk => gi_in (c := 0) (by omega) (by decide)
  have c0 : (0 : Int32).toNatClampNeg = 0 := by decide
  have fin : ∀ (i many : Nat), aC a ≤ i → i ≤ aC a + 1 → ∀ (o : MdC) (fu : Nat), mV a o.2.1 → 0 < fu → f_X6_roomFor_23 fu (nI w) (nI many) (nI i) o = some (nI many) := fun i many h1 h2 o fu hm hf => by
    obtain ⟨f, rfl⟩ : ∃ f, fu = f + 1 := ⟨fu - 1, by omega⟩
    rw [f_X6_roomFor_23.eq_2, i0, c0, hm.1, if_pos (nI_le h1 (by omega))]
  intro n
  induction n with
  | zero =>
    intro i many h1 h2 h3
    exact ⟨many, fun _ => rfl, fun fu q1 q2 => by omega, fun o fu hm hf => fin i many (by omega) h2 o fu hm hf⟩
  | succ n ih =>
    intro i many h1 h2 h3
    by_cases h4 : aC a ≤ i
    · refine ⟨many, fun _ => rfl, fun fu q1 q2 => ?_, fun o fu hm hf => fin i many h4 h2 o fu hm (by omega)⟩
      obtain ⟨f, rfl⟩ : ∃ f, fu = f + 1 := ⟨fu - 1, by omega⟩
      rw [f_X2_roomFor_7.eq_2, hv.1, if_pos (nI_le h4 (by omega))]
    · obtain ⟨r, hr⟩ := aRun.ex (a := a) (C2 := aC a) _ i rfl (by omega)
      have hr2 : i + r ≤ aC a := by rcases hr.2 with q | q | q <;> omega
      have hdiv : r / w ≤ r := Nat.div_le_self r w
      obtain ⟨t, g0, g1, g2⟩ := ih (i + (r + 1)) (many + r / w) (by omega) (by omega) (by omega)
      refine ⟨t, fun q => absurd q h4, fun fu q1 q2 => ?_, fun o fu hm hf => ?_⟩
      · obtain ⟨f, hf⟩ : ∃ f, fu = f + 1 + r := ⟨fu - 1 - r, by omega⟩
        rw [hf, w_fit_run ho hv hw hw4 (by omega) (f + 1) r hr2 hr.1]
        by_cases h5 : i + r = aC a
        · rw [f_X2_roomFor_7.eq_2, hv.1, h5, if_pos (nI_le (by omega) (by omega)), g0 (by omega)]
        · have h6 : ¬ aFr a (i + r) := by rcases hr.2 with q | q | q <;> first | omega | exact q.2
          obtain ⟨z, e1, e2⟩ := w_owner_m1 ho hv (c := i + r) (by omega)
          rw [f_X2_roomFor_7.eq_2, hv.1, if_neg (nI_ge (by omega) (by omega)), e1, Option.bind_some, if_neg (fun h => h6 (e2.mp h))]
          unfold f_X2_roomFor_33
          rw [li0, if_neg (show ¬ nI 0 = nI w from fun h => by have := (nI_eq (by omega) (by omega)).mp h; omega), nI_1, ← g1 f (by omega) (by omega)]
          rfl
      · obtain ⟨f, rfl⟩ : ∃ f, fu = f + 1 := ⟨fu - 1, by omega⟩
        obtain ⟨s, e1, e2⟩ := m_freeFrom ho hm (c := i) (C2 := aC a) (by omega) (by omega)
        have e3 := aRun.det e2 hr
        subst e3
        rw [f_X6_roomFor_23.eq_2, i0, i0, c0, hm.1, if_neg (nI_ge (by omega) (by omega)), e1, Option.bind_some]
        unfold gd
        rw [if_pos (nI_ne0 (by omega) (by omega)), nI_div (by omega) (by omega), nI_add, nI_1, nI_add]
        exact g2 o f hm (by omega)
theorem w_roomFor {a : AbT} {x : SlC} (ho : aOk a) (hv : sV a x) {w : Nat} (hw : 1 ≤ w) (hw4 : w ≤ 4) : ∃ t, f_X2_roomFor (nI w) x = some (nI t) ∧ ∀ o, mV a o.2.1 → f_X6_roomFor (nI w) 0 o = some (nI t) := by
  have hC := aOk.C a ho
  obtain ⟨t, -, g1, g2⟩ := w_fit_loop ho hv hw hw4 (aC a + 1) 0 0 (by omega) (by omega) (by omega)
  refine ⟨t, g1 FU (by omega) (by unfold FU; omega), fun o hm => ?_⟩
  unfold f_X6_roomFor
  rw [if_pos rfl]
  exact g2 o FU hm (by unfold FU; omega)
theorem nI_gd {α : Type} {w : Nat} {k : Option α} (hw : 1 ≤ w) (hw4 : w < 2 ^ 31) : gd (nI w) k = k := by
  unfold gd
  rw [if_pos (nI_ne0 (by omega) (by omega))]
theorem m_roomForT {a : AbT} {o : MdC} (ho : aOk a) (hm : mV a o.2.1) {w : Nat} (hw : 1 ≤ w) (hw4 : w ≤ 4) : f_X6_roomFor (nI w) 1 o = some (nI ((aC a - aUs a) / w)) := by
  have hC := aOk.C a ho
  have i0 : ∀ (kk : Option Int32), gi 0 414 kk = kk := fun kk => gi_in (c := 0) (by omega) (by decide)
  have c0 : (0 : Int32).toNatClampNeg = 0 := by decide
  unfold f_X6_roomFor
  rw [if_neg (by decide), i0, c0, m_used ho hm, Option.bind_some, nI_gd hw (by omega), hm.1, nI_sub (aUs.le ho), nI_div (by omega) (by omega)]
/-- the longest gap: how long, and where -/
def aGap (a : AbT) (i L : Nat) (b : Int32) : Prop := (∀ c, c + (L + 1) ≤ i → ¬ aWin a (L + 1) c) ∧ ((L = 0 ∧ b = -1) ∨ ∃ b0, b = nI b0 ∧ 0 < L ∧ b0 + L ≤ i ∧ aWin a L b0 ∧ ∀ c, c < b0 → ¬ aWin a L c)
theorem aWin.sub {a : AbT} {w v b : Nat} (hq : aWin a w b) (h1 : v ≤ w) : aWin a v b := fun c h2 h3 => hq c h2 (by omega)
theorem aGap.det {a : AbT} {i L M : Nat} {b d : Int32} (h1 : aGap a i L b) (h2 : aGap a i M d) : L = M ∧ b = d := by
  have key : ∀ {L M : Nat} {b d : Int32}, aGap a i L b → aGap a i M d → ¬ L < M := fun {L M b d} h1 h2 h3 => by
    rcases h2.2 with ⟨q, -⟩ | ⟨b0, -, -, q1, q2, -⟩
    · omega
    · exact h1.1 b0 (by omega) (q2.sub (by omega))
  have h3 : L = M := by
    have := key h1 h2
    have := key h2 h1
    omega
  subst h3
  refine ⟨rfl, ?_⟩
  rcases h1.2 with ⟨q, e⟩ | ⟨b0, e, q0, q1, q2, q3⟩ <;> rcases h2.2 with ⟨p, g⟩ | ⟨d0, g, p0, p1, p2, p3⟩
  · rw [e, g]
  · omega
  · omega
  · rcases Nat.lt_trichotomy b0 d0 with h | h | h
    · exact absurd q2 (p3 _ h)
    · rw [e, g, h]
    · exact absurd p2 (q3 _ h)
/-- the class's scan: a run of r free cells ends at i -/
def aScan (a : AbT) (i r L : Nat) (b : Int32) : Prop := r ≤ i ∧ (∀ c, i - r ≤ c → c < i → aFr a c) ∧ (r < i → ¬ aFr a (i - r - 1)) ∧ r ≤ L ∧ aGap a i L b
theorem aScan.occ {a : AbT} {i r L : Nat} {b : Int32} (hq : aScan a i r L b) (h1 : ¬ aFr a i) : aScan a (i + 1) 0 L b := by
  obtain ⟨q1, q2, q3, q4, q5, q6⟩ := hq
  refine ⟨by omega, fun c h2 h3 => by omega, fun h2 => by rw [show i + 1 - 0 - 1 = i by omega]; exact h1, by omega, fun c h2 h3 => ?_, ?_⟩
  · by_cases h4 : c + (L + 1) ≤ i
    · exact q5 c h4 h3
    · exact h1 (h3 i (by omega) (by omega))
  · rcases q6 with q6 | ⟨b0, e, p0, p1, p2, p3⟩
    · exact Or.inl q6
    · exact Or.inr ⟨b0, e, p0, by omega, p2, p3⟩
theorem aScan.free {a : AbT} {i r L : Nat} {b : Int32} (hq : aScan a i r L b) (h1 : aFr a i) : (r + 1 ≤ L → aScan a (i + 1) (r + 1) L b) ∧ (L < r + 1 → aScan a (i + 1) (r + 1) (r + 1) (nI (i + 1 - (r + 1)))) := by
  obtain ⟨q1, q2, q3, q4, q5, q6⟩ := hq
  have hf : ∀ c, i + 1 - (r + 1) ≤ c → c < i + 1 → aFr a c := fun c h2 h3 => by
    by_cases h4 : c = i
    · rw [h4]; exact h1
    · exact q2 c (by omega) (by omega)
  have hn : r + 1 < i + 1 → ¬ aFr a (i + 1 - (r + 1) - 1) := fun h2 => by rw [show i + 1 - (r + 1) - 1 = i - r - 1 by omega]; exact q3 (by omega)
  refine ⟨fun h0 => ⟨by omega, hf, hn, h0, fun c h2 h3 => ?_, ?_⟩, fun h0 => ⟨by omega, hf, hn, by omega, fun c h2 h3 => ?_, Or.inr ⟨_, rfl, by omega, by omega, fun c h2 h3 => hf c h2 (by omega), fun c h2 h3 => ?_⟩⟩⟩
  · by_cases h4 : c + (L + 1) ≤ i
    · exact q5 c h4 h3
    · exact q3 (by omega) (h3 _ (by omega) (by omega))
  · rcases q6 with q6 | ⟨b0, e, p0, p1, p2, p3⟩
    · exact Or.inl q6
    · exact Or.inr ⟨b0, e, p0, by omega, p2, p3⟩
  · by_cases h4 : c + (L + 1) ≤ i
    · exact q5 c h4 (h3.sub (by omega))
    · omega
  · exact q5 c (by omega) (h3.sub (by omega))
theorem w_gap_loop {a : AbT} {x : SlC} (ho : aOk a) (hv : sV a x) : ∀ (fu i r L : Nat) (b : Int32), aC a - i < fu → i ≤ aC a → L ≤ i → aScan a i r L b → ∃ M d, f_X2_longestGap_6 fu (nI L) (nI r) (nI i) x = some (nI M) ∧ f_X2_beginOfLongestGap_9 fu (nI L) b (nI r) (nI i) x = some d ∧ aGap a (aC a) M d := by
  have hC := aOk.C a ho
  intro fu
  induction fu with
  | zero => intro i r L b h1; omega
  | succ fu ih =>
    intro i r L b h1 h2 hL h3
    rw [f_X2_longestGap_6.eq_2, f_X2_beginOfLongestGap_9.eq_2, hv.1]
    by_cases h4 : i = aC a
    · rw [if_pos (nI_le (by omega) (by omega)), if_pos (nI_le (by omega) (by omega))]
      exact ⟨L, b, rfl, rfl, by rw [← h4]; exact h3.2.2.2.2⟩
    · obtain ⟨z, e1, e2⟩ := w_owner_m1 ho hv (c := i) (by omega)
      have hr := h3.1
      have hrL := h3.2.2.2.1
      rw [if_neg (nI_ge (by omega) (by omega)), if_neg (nI_ge (by omega) (by omega)), e1, Option.bind_some, Option.bind_some]
      unfold f_X2_longestGap_30 f_X2_beginOfLongestGap_35
      by_cases h6 : aFr a i
      · rw [if_pos (e2.mpr h6), if_pos (e2.mpr h6), nI_1, nI_1]
        by_cases h7 : r + 1 ≤ L
        · rw [if_neg (nI_nlt h7 (by omega)), if_pos (nI_le h7 (by omega))]
          exact ih (i + 1) (r + 1) L b (by omega) (by omega) (by omega) ((h3.free h6).1 h7)
        · rw [if_pos (nI_lt (by omega) (by omega)), if_neg (nI_ge (by omega) (by omega)), nI_sub1 (by omega)]
          exact ih (i + 1) (r + 1) (r + 1) _ (by omega) (by omega) (by omega) ((h3.free h6).2 (by omega))
      · rw [if_neg (fun h => h6 (e2.mp h)), if_neg (fun h => h6 (e2.mp h)), nI_1, li0, if_neg (nI_nlt (by omega) (by omega)), if_pos (nI_le (by omega) (by omega))]
        exact ih (i + 1) 0 L b (by omega) (by omega) (by omega) (h3.occ h6)
theorem w_gap {a : AbT} {x : SlC} (ho : aOk a) (hv : sV a x) : ∃ M d, f_X2_longestGap x = some (nI M) ∧ f_X2_beginOfLongestGap x = some d ∧ aGap a (aC a) M d := by
  have hC := aOk.C a ho
  exact w_gap_loop ho hv FU 0 0 0 (-1) (by unfold FU; omega) (by omega) (by omega) ⟨by omega, fun c q1 q2 => by omega, fun q => by omega, by omega, fun c q1 => by omega, Or.inl ⟨rfl, rfl⟩⟩
theorem m_gap_loop {a : AbT} {o : MdC} (ho : aOk a) (hm : mV a o.2.1) {v1 : Int32} : ∀ (fu i L : Nat) (b : Int32), aC a - i < fu → i ≤ aC a → L ≤ 64 → (∀ c, c < i → c + (L + 1) ≤ aC a → ¬ aWin a (L + 1) c) → ((L = 0 ∧ b = -1) ∨ ∃ b0, b = nI b0 ∧ 0 < L ∧ b0 + L ≤ aC a ∧ aWin a L b0 ∧ ∀ c, c < b0 → ¬ aWin a L c) → ∃ M d, f_X6_longest_7 fu v1 b (nI L) (nI i) o = some (if v1 = 0 then nI M else d) ∧ aGap a (aC a) M d := by
  have hC := aOk.C a ho
  have i0 : ∀ (kk : Option Int32), gi 0 414 kk = kk := fun kk => gi_in (c := 0) (by omega) (by decide)
  have c0 : (0 : Int32).toNatClampNeg = 0 := by decide
  intro fu
  induction fu with
  | zero => intro i L b h1; omega
  | succ fu ih =>
    intro i L b h1 h2 hL h3 h5
    rw [f_X6_longest_7.eq_2, i0, i0, c0, hm.1]
    by_cases h4 : i = aC a
    · rw [if_pos (nI_le (by omega) (by omega))]
      refine ⟨L, b, ?_, fun c q1 => h3 c (by omega) q1, h5⟩
      by_cases h6 : v1 = 0
      · rw [if_pos h6, if_pos h6]
      · rw [if_neg h6, if_neg h6]
    · obtain ⟨n, e1, e2⟩ := m_freeFrom ho hm (c := i) (C2 := aC a) (by omega) (by omega)
      have hn : i + n ≤ aC a := by rcases e2.2 with q | q | q <;> omega
      rw [if_neg (nI_ge (by omega) (by omega)), e1, Option.bind_some]
      unfold f_X6_longest_47 f_X6_longest_60
      rw [nI_1]
      by_cases h7 : n ≤ L
      · rw [if_pos (nI_le h7 (by omega)), if_pos (nI_le h7 (by omega))]
        refine ih (i + 1) L b (by omega) (by omega) hL (fun c q1 q2 q3 => ?_) h5
        by_cases h8 : c = i
        · subst h8
          have := (e2.win (w := L + 1) (by omega) (by omega)).mpr q3
          omega
        · exact h3 c (by omega) q2 q3
      · rw [if_neg (nI_ge (by omega) (by omega)), if_neg (nI_ge (by omega) (by omega))]
        refine ih (i + 1) n (nI i) (by omega) (by omega) (by omega) (fun c q1 q2 q3 => ?_) (Or.inr ⟨i, rfl, by omega, hn, (e2.win (by omega) (by omega)).mp (Nat.le_refl n), fun c q1 q2 => h3 c q1 (by omega) (q2.sub (by omega))⟩)
        by_cases h8 : c = i
        · subst h8
          have := (e2.win (w := n + 1) (by omega) (by omega)).mpr q3
          omega
        · exact h3 c (by omega) (by omega) (q3.sub (by omega))
theorem m_gap {a : AbT} {o : MdC} (ho : aOk a) (hm : mV a o.2.1) {v1 : Int32} {M : Nat} {d : Int32} (hq : aGap a (aC a) M d) : f_X6_longest v1 o = some (if v1 = 0 then nI M else d) := by
  have hC := aOk.C a ho
  obtain ⟨M2, d2, h1, h2⟩ := m_gap_loop (v1 := v1) ho hm FU 0 0 (-1) (by unfold FU; omega) (by omega) (by omega) (fun c q1 => by omega) (Or.inl ⟨rfl, rfl⟩)
  obtain ⟨e1, e2⟩ := h2.det hq
  rw [← e1, ← e2]
  exact h1
