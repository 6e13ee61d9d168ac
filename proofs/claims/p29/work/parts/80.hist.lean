/-! The saved states. -/
theorem g64 {α : Type} (kk : Option α) : gcp 0 0 64 64 64 kk = kk := gcp_in (s := 0) (d := 0) (c := 64) (by omega) (by omega) (by decide) (by decide)
theorem g68 {α : Type} (kk : Option α) : gcp 0 0 68 68 68 kk = kk := gcp_in (s := 0) (d := 0) (c := 68) (by omega) (by omega) (by decide) (by decide)
theorem g44 {α : Type} (kk : Option α) : gcp 0 0 4 4 4 kk = kk := gcp_in (s := 0) (d := 0) (c := 4) (by omega) (by omega) (by decide) (by decide)
theorem cpy0 {α : Type} {f g : Nat → α} {n c : Nat} (hq : c < n) : va_cpy f g 0 0 n c = f c := by
  unfold va_cpy
  rw [if_pos (by omega)]
  congr 1
  omega
theorem w_copyFrom {a : AbT} {x o : StC} (ho : aOk a) (hx : cV a o) : ∃ y, f_X3_copyFrom x o = some y ∧ cV a y := by
  have hN := ho.2.1
  have hC := aOk.C a ho
  have c0 : (0 : Int32).toNatClampNeg = 0 := by decide
  have c64 : (64 : Int32).toNatClampNeg = 64 := by decide
  have c68 : (68 : Int32).toNatClampNeg = 68 := by decide
  have c4 : (4 : Int32).toNatClampNeg = 4 := by decide
  unfold f_X3_copyFrom f_X2_copyFrom f_X1_copyFrom
  rw [g64, g64, g64, g64, g64, g64, Option.bind_some, g68, g44, Option.bind_some, c0, c64, c68, c4]
  refine ⟨_, rfl, ⟨hx.1.1, fun c hc => ?_, fun j c hj hc h1 => ?_, fun c hc h1 => ?_, fun j hj h1 => ?_, fun c hc h1 => ?_⟩, ⟨hx.2.1.1, fun j hj => ?_, fun i hi => ?_⟩, hx.2.2⟩
  · exact (cpy0 hc).trans (hx.1.2.1 c hc)
  · exact (cpy0 hc).trans (hx.1.2.2.1 j c hj hc h1)
  · exact (cpy0 hc).trans (hx.1.2.2.2.1 c hc h1)
  · have h2 := ho.2.2.1 j hj h1
    have h3 := hx.1.2.2.2.2.1 j hj h1
    exact ⟨(cpy0 (by omega)).trans h3.1, (cpy0 (by omega)).trans h3.2.1, (cpy0 (by omega)).trans h3.2.2.1, (cpy0 (by omega)).trans h3.2.2.2⟩
  · exact (cpy0 hc).trans (hx.1.2.2.2.2.2 c hc h1)
  · exact (cpy0 (by omega)).trans (hx.2.1.2.1 j hj)
  · exact (cpy0 hi).trans (hx.2.1.2.2 i hi)
theorem mV.congr {a : AbT} {m m2 : Fn} (ho : aOk a) (hm : mV a m) (hq : ∀ c, c < 414 → m2 c = m c) : mV a m2 := by
  have hN := ho.2.1
  refine ⟨by rw [hq 0 (by omega)]; exact hm.1, by rw [hq 1 (by omega)]; exact hm.2.1, fun i hi => by rw [hq _ (by omega)]; exact hm.2.2.1 i hi, fun c hc => by rw [hq _ (by omega)]; exact hm.2.2.2.1 c hc, fun j hj => ?_, fun i hi => by rw [hq _ (by omega)]; exact hm.2.2.2.2.2 i hi⟩
  rw [hq _ (by omega), hq _ (by omega), hq _ (by omega), hq _ (by omega), hq _ (by omega)]
  exact hm.2.2.2.2.1 j hj
theorem m_lays_loop {l0 l1 p q : Nat} {x : Fn} (h0 : p + 414 ≤ l0) (h1 : q + 414 ≤ l1) (h2 : l0 ≤ 2484) (h3 : l1 ≤ 2484) : ∀ (fu i : Nat) (o : Fn), 414 - i < fu → i ≤ 414 → ∃ m, f_X6_lays_3 l0 l1 fu (nI p) (nI q) (nI i) x o = some m ∧ (∀ c, c < q + i ∨ q + 414 ≤ c → m c = o c) ∧ ∀ c, i ≤ c → c < 414 → m (q + c) = x (p + c) := by
  intro fu
  induction fu with
  | zero => intro i o h; omega
  | succ fu ih =>
    intro i o h4 h5
    rw [f_X6_lays_3.eq_2, li414]
    by_cases h6 : i = 414
    · rw [if_pos (nI_le (by omega) (by omega))]
      exact ⟨o, rfl, fun c _ => rfl, fun c q1 q2 => by omega⟩
    · rw [if_neg (nI_ge (by omega) (by omega)), nI_add, nI_add, nI_1, gi_in (by omega) (by omega), gi_in (by omega) (by omega), nI_clamp (by omega), nI_clamp (by omega)]
      obtain ⟨m, g1, g2, g3⟩ := ih (i + 1) (upd o (q + i) (x (p + i))) (by omega) (by omega)
      refine ⟨m, g1, fun c q1 => ?_, fun c q1 q2 => ?_⟩
      · rw [g2 c (by omega), up_ne _ _ (by omega)]
      · by_cases q3 : c = i
        · subst q3; rw [g2 _ (by omega), up_eq]
        · exact g3 c (by omega) q2
theorem m_lays {l0 l1 p q : Nat} {x o : Fn} (h0 : p + 414 ≤ l0) (h1 : q + 414 ≤ l1) (h2 : l0 ≤ 2484) (h3 : l1 ≤ 2484) : ∃ m, f_X6_lays l0 l1 (nI p) (nI q) x o = some m ∧ (∀ c, c < q ∨ q + 414 ≤ c → m c = o c) ∧ ∀ c, c < 414 → m (q + c) = x (p + c) := by
  obtain ⟨m, g1, g2, g3⟩ := m_lays_loop (x := x) h0 h1 h2 h3 FU 0 o (by unfold FU; omega) (by omega)
  exact ⟨m, g1, fun c q1 => g2 c (by omega), fun c q1 => g3 c (by omega) q1⟩
/-- the saved states of both -/
def hV (h : Nat) (x : HiC) (s : Int32) (past : Fn) : Prop := h ≤ 6 ∧ x.2 = nI h ∧ s = nI h ∧ ∀ i, i < h → ∃ a, aOk a ∧ cV a (x.1 i) ∧ mV a (fun c => past (414 * i + c))
theorem m_shift_past {o : MdC} : ∀ (fu i : Nat) (past : Fn), 2070 - i < fu → i ≤ 2070 → ∃ p2, f_X6_saves_11 fu (nI i) (o.1, o.2.1, o.2.2.1, past, o.2.2.2.2) = f_X6_saves_50 (o.1, o.2.1, o.2.2.1, p2, o.2.2.2.2.1 - 1, o.2.2.2.2.2) ∧ (∀ c, c < i → p2 c = past c) ∧ ∀ c, i ≤ c → c < 2070 → p2 c = past (c + 414) := by
  intro fu
  induction fu with
  | zero => intro i past h; omega
  | succ fu ih =>
    intro i past h1 h2
    rw [f_X6_saves_11.eq_2, show (2070 : Int32) = nI 2070 from rfl]
    by_cases h3 : i = 2070
    · rw [if_pos (nI_le (by omega) (by omega))]
      exact ⟨past, rfl, fun c _ => rfl, fun c q1 q2 => by omega⟩
    · rw [if_neg (nI_ge (by omega) (by omega)), li414, nI_add, nI_1, gi_in (by omega) (by omega), gi_in (by omega) (by omega), nI_clamp (by omega), nI_clamp (by omega)]
      obtain ⟨p2, g1, g2, g3⟩ := ih (i + 1) (upd past i (past (i + 414))) (by omega) (by omega)
      refine ⟨p2, g1, fun c q1 => ?_, fun c q1 q2 => ?_⟩
      · rw [g2 c (by omega), up_ne _ _ (by omega)]
      · by_cases q3 : c = i
        · subst q3; rw [g2 _ (by omega), up_eq]
        · rw [g3 c (by omega) q2, up_ne _ _ (by omega)]
/-- a state is saved where there is room -/
theorem save13 {h : Nat} {x : HiC} {o : MdC} {a : AbT} {st : StC} (ho : aOk a) (hc : cV a st) (hm : mV a o.2.1) (h6 : h < 6) (hx : x.2 = nI h) (hs : o.2.2.2.2.1 = nI h) (hp : ∀ i, i < h → ∃ a, aOk a ∧ cV a (x.1 i) ∧ mV a (fun c => o.2.2.2.1 (414 * i + c))) : ∃ x2 p2, f_X0_save_13 x st = some x2 ∧ f_X6_saves_50 o = some (o.1, o.2.1, o.2.2.1, p2, nI (h + 1), o.2.2.2.2.2) ∧ hV (h + 1) x2 (nI (h + 1)) p2 := by
  obtain ⟨y, g1, g2⟩ := w_copyFrom (x := x.1 h) ho hc
  obtain ⟨p2, e1, e2, e3⟩ := m_lays (l0 := 414) (l1 := 2484) (p := 0) (q := 414 * h) (x := o.2.1) (o := o.2.2.2.1) (by omega) (by omega) (by omega) (by omega)
  refine ⟨(fun i => if i = h then y else x.1 i, nI (h + 1)), p2, ?_, ?_, by omega, rfl, rfl, fun i hi => ?_⟩
  · unfold f_X0_save_13
    rw [hx, if_neg (nI_pos (by omega)), li6, if_pos (nI_lt h6 (by omega)), gi_in (by omega) (by decide), nI_clamp (by omega), g1, Option.bind_some, nI_1]
  · unfold f_X6_saves_50
    rw [hs, li414, nI_mul, li0, e1, Option.bind_some, nI_1]
  · show ∃ a, aOk a ∧ cV a (if i = h then y else x.1 i) ∧ mV a (fun c => p2 (414 * i + c))
    by_cases h1 : i = h
    · rw [if_pos h1, h1]
      refine ⟨a, ho, g2, hm.congr ho (fun c hc => ?_)⟩
      show p2 (414 * h + c) = _
      rw [e3 c hc, Nat.zero_add]
    · rw [if_neg h1]
      obtain ⟨b, b1, b2, b3⟩ := hp i (by omega)
      refine ⟨b, b1, b2, b3.congr b1 (fun c hc => ?_)⟩
      exact e2 _ (by omega)
theorem save {h : Nat} {x : HiC} {o : MdC} {a : AbT} {st : StC} (ho : aOk a) (hc : cV a st) (hm : mV a o.2.1) (hh : hV h x o.2.2.2.2.1 o.2.2.2.1) : ∃ h2 x2 p2, f_X0_save x st = some x2 ∧ f_X6_saves o = some (o.1, o.2.1, o.2.2.1, p2, nI h2, o.2.2.2.2.2) ∧ hV h2 x2 (nI h2) p2 := by
  obtain ⟨q1, q2, q3, q4⟩ := hh
  unfold f_X0_save f_X6_saves
  rw [q2, q3, li6]
  by_cases h1 : h < 6
  · rw [if_pos (nI_lt h1 (by omega)), if_neg (fun e => by have := (nI_eq (by omega) (by omega)).mp e; omega)]
    obtain ⟨x2, p2, r1, r2, r3⟩ := save13 ho hc hm h1 q2 q3 q4
    exact ⟨h + 1, x2, p2, r1, r2, r3⟩
  · have h2 : h = 6 := by omega
    subst h2
    obtain ⟨p3, e1, e2, e3⟩ := m_shift_past (o := o) FU 0 o.2.2.2.1 (by unfold FU; omega) (by omega)
    rw [if_neg (nI_nlt (by omega) (by omega)), if_pos rfl]
    unfold f_X0_dropOldest
    rw [Option.bind_some]
    have hs : o.2.2.2.2.1 - 1 = nI 5 := by rw [q3]; decide
    obtain ⟨x2, p2, r1, r2, r3⟩ := save13 (h := 5) (x := (fun i => if i < 5 then x.1 (i + 1) else x.1 0, 5)) (o := (o.1, o.2.1, o.2.2.1, p3, o.2.2.2.2.1 - 1, o.2.2.2.2.2)) ho hc hm (by omega) rfl hs (fun i hi => by
      obtain ⟨b, b1, b2, b3⟩ := q4 (i + 1) (by omega)
      refine ⟨b, b1, ?_, b3.congr b1 (fun c hc => ?_)⟩
      · show cV b (if i < 5 then x.1 (i + 1) else x.1 0)
        rw [if_pos hi]
        exact b2
      · show p3 (414 * i + c) = o.2.2.2.1 (414 * (i + 1) + c)
        rw [e3 _ (by omega) (by omega), show 414 * i + c + 414 = 414 * (i + 1) + c by omega])
    refine ⟨6, x2, p2, r1, ?_, r3⟩
    rw [li0]
    exact e1.trans r2
/-- the latest is brought back -/
theorem bring {h : Nat} {x : HiC} {o : MdC} {st : StC} (h0 : 0 < h) (hh : hV h x o.2.2.2.2.1 o.2.2.2.1) : ∃ a y m2, aOk a ∧ f_X0_bringBack x st = some ((x.1, nI (h - 1)), y) ∧ cV a y ∧ f_X6_lays 2484 414 (414 * (o.2.2.2.2.1 - 1)) 0 o.2.2.2.1 o.2.1 = some m2 ∧ mV a m2 ∧ hV (h - 1) (x.1, nI (h - 1)) (nI (h - 1)) o.2.2.2.1 := by
  obtain ⟨q1, q2, q3, q4⟩ := hh
  obtain ⟨a, b1, b2, b3⟩ := q4 (h - 1) (by omega)
  obtain ⟨y, g1, g2⟩ := w_copyFrom (x := st) b1 b2
  obtain ⟨m2, e1, e2, e3⟩ := m_lays (l0 := 2484) (l1 := 414) (p := 414 * (h - 1)) (q := 0) (x := o.2.2.2.1) (o := o.2.1) (by omega) (by omega) (by omega) (by omega)
  have hs : nI h - 1 = nI (h - 1) := by rw [li1, nI_sub (by omega)]
  refine ⟨a, y, m2, b1, ?_, g2, ?_, b3.congr b1 (fun c hc => ?_), by omega, rfl, rfl, fun i hi => q4 i (by omega)⟩
  · unfold f_X0_bringBack
    rw [q2, if_neg (show ¬ nI h < 1 by rw [li1]; exact nI_nlt (by omega) (by omega)), li6, if_pos (nI_le (by omega) (by omega)), hs, gi_in (by omega) (by decide), nI_clamp (by omega), g1, Option.bind_some]
  · rw [q3, hs, li414, nI_mul]
    exact e1
  · rw [← Nat.zero_add c, e3 c hc, Nat.zero_add]
